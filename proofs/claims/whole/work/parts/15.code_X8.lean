/-! ===== printed by program: decode rows, block rows of X8 ===== -/
theorem dX8_write_0 : decode cX8_write 0 = .ok (.iload_n 1, 1) := by decide +kernel
theorem dX8_write_1 : decode cX8_write 1 = .ok (.iconst 1, 1) := by decide +kernel
theorem dX8_write_2 : decode cX8_write 2 = .ok (.if_icmp .lt 9, 3) := by decide +kernel
theorem dX8_write_5 : decode cX8_write 5 = .ok (.iload_n 1, 1) := by decide +kernel
theorem dX8_write_6 : decode cX8_write 6 = .ok (.bipush 8, 2) := by decide +kernel
theorem dX8_write_8 : decode cX8_write 8 = .ok (.if_icmp .le 6, 3) := by decide +kernel
theorem dX8_write_11 : decode cX8_write 11 = .ok (.bipush (-2), 2) := by decide +kernel
theorem dX8_write_13 : decode cX8_write 13 = .ok (.ireturn, 1) := by decide +kernel
theorem dX8_write_14 : decode cX8_write 14 = .ok (.aload_n 0, 1) := by decide +kernel
theorem dX8_write_15 : decode cX8_write 15 = .ok (.getfield 10, 3) := by decide +kernel
theorem dX8_write_18 : decode cX8_write 18 = .ok (.getfield 79, 3) := by decide +kernel
theorem dX8_write_21 : decode cX8_write 21 = .ok (.iload_n 1, 1) := by decide +kernel
theorem dX8_write_22 : decode cX8_write 22 = .ok (.iadd, 1) := by decide +kernel
theorem dX8_write_23 : decode cX8_write 23 = .ok (.bipush 72, 2) := by decide +kernel
theorem dX8_write_25 : decode cX8_write 25 = .ok (.if_icmp .le 6, 3) := by decide +kernel
theorem dX8_write_28 : decode cX8_write 28 = .ok (.bipush (-4), 2) := by decide +kernel
theorem dX8_write_30 : decode cX8_write 30 = .ok (.ireturn, 1) := by decide +kernel
theorem dX8_write_31 : decode cX8_write 31 = .ok (.iload_n 1, 1) := by decide +kernel
theorem dX8_write_32 : decode cX8_write 32 = .ok (.iconst 1, 1) := by decide +kernel
theorem dX8_write_33 : decode cX8_write 33 = .ok (.isub, 1) := by decide +kernel
theorem dX8_write_34 : decode cX8_write 34 = .ok (.istore 4, 2) := by decide +kernel
theorem dX8_write_36 : decode cX8_write 36 = .ok (.iload 4, 2) := by decide +kernel
theorem dX8_write_38 : decode cX8_write 38 = .ok (.ifCond .lt 25, 3) := by decide +kernel
theorem dX8_write_41 : decode cX8_write 41 = .ok (.aload_n 0, 1) := by decide +kernel
theorem dX8_write_42 : decode cX8_write 42 = .ok (.getfield 10, 3) := by decide +kernel
theorem dX8_write_45 : decode cX8_write 45 = .ok (.lload_n 2, 1) := by decide +kernel
theorem dX8_write_46 : decode cX8_write 46 = .ok (.bipush 8, 2) := by decide +kernel
theorem dX8_write_48 : decode cX8_write 48 = .ok (.iload 4, 2) := by decide +kernel
theorem dX8_write_50 : decode cX8_write 50 = .ok (.imul, 1) := by decide +kernel
theorem dX8_write_51 : decode cX8_write 51 = .ok (.lushr, 1) := by decide +kernel
theorem dX8_write_52 : decode cX8_write 52 = .ok (.l2i, 1) := by decide +kernel
theorem dX8_write_53 : decode cX8_write 53 = .ok (.i2b, 1) := by decide +kernel
theorem dX8_write_54 : decode cX8_write 54 = .ok (.invokevirtual 82, 3) := by decide +kernel
theorem dX8_write_57 : decode cX8_write 57 = .ok (.iinc 4 (-1), 3) := by decide +kernel
theorem dX8_write_60 : decode cX8_write 60 = .ok (.goto (-24), 3) := by decide +kernel
theorem dX8_write_63 : decode cX8_write 63 = .ok (.aload_n 0, 1) := by decide +kernel
theorem dX8_write_64 : decode cX8_write 64 = .ok (.getfield 10, 3) := by decide +kernel
theorem dX8_write_67 : decode cX8_write 67 = .ok (.getfield 79, 3) := by decide +kernel
theorem dX8_write_70 : decode cX8_write 70 = .ok (.ireturn, 1) := by decide +kernel
theorem dX8_wipe_0 : decode cX8_wipe 0 = .ok (.aload_n 0, 1) := by decide +kernel
theorem dX8_wipe_1 : decode cX8_wipe 1 = .ok (.getfield 10, 3) := by decide +kernel
theorem dX8_wipe_4 : decode cX8_wipe 4 = .ok (.getfield 79, 3) := by decide +kernel
theorem dX8_wipe_7 : decode cX8_wipe 7 = .ok (.istore_n 1, 1) := by decide +kernel
theorem dX8_wipe_8 : decode cX8_wipe 8 = .ok (.aload_n 0, 1) := by decide +kernel
theorem dX8_wipe_9 : decode cX8_wipe 9 = .ok (.getfield 10, 3) := by decide +kernel
theorem dX8_wipe_12 : decode cX8_wipe 12 = .ok (.iconst 0, 1) := by decide +kernel
theorem dX8_wipe_13 : decode cX8_wipe 13 = .ok (.putfield 79, 3) := by decide +kernel
theorem dX8_wipe_16 : decode cX8_wipe 16 = .ok (.iload_n 1, 1) := by decide +kernel
theorem dX8_wipe_17 : decode cX8_wipe 17 = .ok (.ireturn, 1) := by decide +kernel
theorem dX8_fault_0 : decode cX8_fault 0 = .ok (.aload_n 0, 1) := by decide +kernel
theorem dX8_fault_1 : decode cX8_fault 1 = .ok (.getfield 10, 3) := by decide +kernel
theorem dX8_fault_4 : decode cX8_fault 4 = .ok (.invokevirtual 86, 3) := by decide +kernel
theorem dX8_fault_7 : decode cX8_fault 7 = .ok (.ireturn, 1) := by decide +kernel
theorem dX8_market_0 : decode cX8_market 0 = .ok (.aload_n 0, 1) := by decide +kernel
theorem dX8_market_1 : decode cX8_market 1 = .ok (.getfield 10, 3) := by decide +kernel
theorem dX8_market_4 : decode cX8_market 4 = .ok (.invokevirtual 86, 3) := by decide +kernel
theorem dX8_market_7 : decode cX8_market 7 = .ok (.bipush (-9), 2) := by decide +kernel
theorem dX8_market_9 : decode cX8_market 9 = .ok (.if_icmp .eq 6, 3) := by decide +kernel
theorem dX8_market_12 : decode cX8_market 12 = .ok (.bipush (-3), 2) := by decide +kernel
theorem dX8_market_14 : decode cX8_market 14 = .ok (.ireturn, 1) := by decide +kernel
theorem dX8_market_15 : decode cX8_market 15 = .ok (.aload_n 0, 1) := by decide +kernel
theorem dX8_market_16 : decode cX8_market 16 = .ok (.aload_n 0, 1) := by decide +kernel
theorem dX8_market_17 : decode cX8_market 17 = .ok (.getfield 10, 3) := by decide +kernel
theorem dX8_market_20 : decode cX8_market 20 = .ok (.iconst 1, 1) := by decide +kernel
theorem dX8_market_21 : decode cX8_market 21 = .ok (.invokevirtual 90, 3) := by decide +kernel
theorem dX8_market_24 : decode cX8_market 24 = .ok (.putfield 50, 3) := by decide +kernel
theorem dX8_market_27 : decode cX8_market 27 = .ok (.aload_n 0, 1) := by decide +kernel
theorem dX8_market_28 : decode cX8_market 28 = .ok (.aload_n 0, 1) := by decide +kernel
theorem dX8_market_29 : decode cX8_market 29 = .ok (.getfield 10, 3) := by decide +kernel
theorem dX8_market_32 : decode cX8_market 32 = .ok (.iconst 2, 1) := by decide +kernel
theorem dX8_market_33 : decode cX8_market 33 = .ok (.invokevirtual 90, 3) := by decide +kernel
theorem dX8_market_36 : decode cX8_market 36 = .ok (.putfield 54, 3) := by decide +kernel
theorem dX8_market_39 : decode cX8_market 39 = .ok (.aload_n 0, 1) := by decide +kernel
theorem dX8_market_40 : decode cX8_market 40 = .ok (.getfield 19, 3) := by decide +kernel
theorem dX8_market_43 : decode cX8_market 43 = .ok (.iconst 0, 1) := by decide +kernel
theorem dX8_market_44 : decode cX8_market 44 = .ok (.putfield 94, 3) := by decide +kernel
theorem dX8_market_47 : decode cX8_market 47 = .ok (.aload_n 0, 1) := by decide +kernel
theorem dX8_market_48 : decode cX8_market 48 = .ok (.getfield 26, 3) := by decide +kernel
theorem dX8_market_51 : decode cX8_market 51 = .ok (.iconst 0, 1) := by decide +kernel
theorem dX8_market_52 : decode cX8_market 52 = .ok (.putfield 97, 3) := by decide +kernel
theorem dX8_market_55 : decode cX8_market 55 = .ok (.aload_n 0, 1) := by decide +kernel
theorem dX8_market_56 : decode cX8_market 56 = .ok (.getfield 33, 3) := by decide +kernel
theorem dX8_market_59 : decode cX8_market 59 = .ok (.iconst 0, 1) := by decide +kernel
theorem dX8_market_60 : decode cX8_market 60 = .ok (.putfield 98, 3) := by decide +kernel
theorem dX8_market_63 : decode cX8_market 63 = .ok (.iconst 3, 1) := by decide +kernel
theorem dX8_market_64 : decode cX8_market 64 = .ok (.istore_n 1, 1) := by decide +kernel
theorem dX8_market_65 : decode cX8_market 65 = .ok (.iload_n 1, 1) := by decide +kernel
theorem dX8_market_66 : decode cX8_market 66 = .ok (.aload_n 0, 1) := by decide +kernel
theorem dX8_market_67 : decode cX8_market 67 = .ok (.getfield 10, 3) := by decide +kernel
theorem dX8_market_70 : decode cX8_market 70 = .ok (.getfield 79, 3) := by decide +kernel
theorem dX8_market_73 : decode cX8_market 73 = .ok (.if_icmp .ge 29, 3) := by decide +kernel
theorem dX8_market_76 : decode cX8_market 76 = .ok (.aload_n 0, 1) := by decide +kernel
theorem dX8_market_77 : decode cX8_market 77 = .ok (.iload_n 1, 1) := by decide +kernel
theorem dX8_market_78 : decode cX8_market 78 = .ok (.invokevirtual 101, 3) := by decide +kernel
theorem dX8_market_81 : decode cX8_market 81 = .ok (.iload_n 1, 1) := by decide +kernel
theorem dX8_market_82 : decode cX8_market 82 = .ok (.iconst 1, 1) := by decide +kernel
theorem dX8_market_83 : decode cX8_market 83 = .ok (.aload_n 0, 1) := by decide +kernel
theorem dX8_market_84 : decode cX8_market 84 = .ok (.getfield 10, 3) := by decide +kernel
theorem dX8_market_87 : decode cX8_market 87 = .ok (.iload_n 1, 1) := by decide +kernel
theorem dX8_market_88 : decode cX8_market 88 = .ok (.invokevirtual 105, 3) := by decide +kernel
theorem dX8_market_91 : decode cX8_market 91 = .ok (.invokestatic 108, 3) := by decide +kernel
theorem dX8_market_94 : decode cX8_market 94 = .ok (.invokestatic 111, 3) := by decide +kernel
theorem dX8_market_97 : decode cX8_market 97 = .ok (.iadd, 1) := by decide +kernel
theorem dX8_market_98 : decode cX8_market 98 = .ok (.istore_n 1, 1) := by decide +kernel
theorem dX8_market_99 : decode cX8_market 99 = .ok (.goto (-34), 3) := by decide +kernel
theorem dX8_market_102 : decode cX8_market 102 = .ok (.aload_n 0, 1) := by decide +kernel
theorem dX8_market_103 : decode cX8_market 103 = .ok (.getfield 19, 3) := by decide +kernel
theorem dX8_market_106 : decode cX8_market 106 = .ok (.getfield 94, 3) := by decide +kernel
theorem dX8_market_109 : decode cX8_market 109 = .ok (.ireturn, 1) := by decide +kernel
theorem dX8_about_0 : decode cX8_about 0 = .ok (.iload_n 1, 1) := by decide +kernel
theorem dX8_about_1 : decode cX8_about 1 = .ok (.tableswitch 93 0 6 #[43, 51, 59, 64, 69, 77, 85], 43) := by decide +kernel
theorem dX8_about_44 : decode cX8_about 44 = .ok (.aload_n 0, 1) := by decide +kernel
theorem dX8_about_45 : decode cX8_about 45 = .ok (.getfield 19, 3) := by decide +kernel
theorem dX8_about_48 : decode cX8_about 48 = .ok (.getfield 94, 3) := by decide +kernel
theorem dX8_about_51 : decode cX8_about 51 = .ok (.ireturn, 1) := by decide +kernel
theorem dX8_about_52 : decode cX8_about 52 = .ok (.aload_n 0, 1) := by decide +kernel
theorem dX8_about_53 : decode cX8_about 53 = .ok (.getfield 26, 3) := by decide +kernel
theorem dX8_about_56 : decode cX8_about 56 = .ok (.getfield 97, 3) := by decide +kernel
theorem dX8_about_59 : decode cX8_about 59 = .ok (.ireturn, 1) := by decide +kernel
theorem dX8_about_60 : decode cX8_about 60 = .ok (.aload_n 0, 1) := by decide +kernel
theorem dX8_about_61 : decode cX8_about 61 = .ok (.getfield 50, 3) := by decide +kernel
theorem dX8_about_64 : decode cX8_about 64 = .ok (.ireturn, 1) := by decide +kernel
theorem dX8_about_65 : decode cX8_about 65 = .ok (.aload_n 0, 1) := by decide +kernel
theorem dX8_about_66 : decode cX8_about 66 = .ok (.getfield 54, 3) := by decide +kernel
theorem dX8_about_69 : decode cX8_about 69 = .ok (.ireturn, 1) := by decide +kernel
theorem dX8_about_70 : decode cX8_about 70 = .ok (.aload_n 0, 1) := by decide +kernel
theorem dX8_about_71 : decode cX8_about 71 = .ok (.getfield 33, 3) := by decide +kernel
theorem dX8_about_74 : decode cX8_about 74 = .ok (.getfield 98, 3) := by decide +kernel
theorem dX8_about_77 : decode cX8_about 77 = .ok (.ireturn, 1) := by decide +kernel
theorem dX8_about_78 : decode cX8_about 78 = .ok (.aload_n 0, 1) := by decide +kernel
theorem dX8_about_79 : decode cX8_about 79 = .ok (.getfield 10, 3) := by decide +kernel
theorem dX8_about_82 : decode cX8_about 82 = .ok (.getfield 79, 3) := by decide +kernel
theorem dX8_about_85 : decode cX8_about 85 = .ok (.ireturn, 1) := by decide +kernel
theorem dX8_about_86 : decode cX8_about 86 = .ok (.aload_n 0, 1) := by decide +kernel
theorem dX8_about_87 : decode cX8_about 87 = .ok (.getfield 19, 3) := by decide +kernel
theorem dX8_about_90 : decode cX8_about 90 = .ok (.invokevirtual 117, 3) := by decide +kernel
theorem dX8_about_93 : decode cX8_about 93 = .ok (.ireturn, 1) := by decide +kernel
theorem dX8_about_94 : decode cX8_about 94 = .ok (.bipush (-2), 2) := by decide +kernel
theorem dX8_about_96 : decode cX8_about 96 = .ok (.ireturn, 1) := by decide +kernel
theorem dX8_tooth_0 : decode cX8_tooth 0 = .ok (.aload_n 0, 1) := by decide +kernel
theorem dX8_tooth_1 : decode cX8_tooth 1 = .ok (.iload_n 1, 1) := by decide +kernel
theorem dX8_tooth_2 : decode cX8_tooth 2 = .ok (.invokevirtual 120, 3) := by decide +kernel
theorem dX8_tooth_5 : decode cX8_tooth 5 = .ok (.ifCond .ne 5, 3) := by decide +kernel
theorem dX8_tooth_8 : decode cX8_tooth 8 = .ok (.iconst (-1), 1) := by decide +kernel
theorem dX8_tooth_9 : decode cX8_tooth 9 = .ok (.ireturn, 1) := by decide +kernel
theorem dX8_tooth_10 : decode cX8_tooth 10 = .ok (.iload_n 2, 1) := by decide +kernel
theorem dX8_tooth_11 : decode cX8_tooth 11 = .ok (.tableswitch 93 0 5 #[37, 47, 57, 67, 77, 83], 37) := by decide +kernel
theorem dX8_tooth_48 : decode cX8_tooth 48 = .ok (.aload_n 0, 1) := by decide +kernel
theorem dX8_tooth_49 : decode cX8_tooth 49 = .ok (.getfield 19, 3) := by decide +kernel
theorem dX8_tooth_52 : decode cX8_tooth 52 = .ok (.iload_n 1, 1) := by decide +kernel
theorem dX8_tooth_53 : decode cX8_tooth 53 = .ok (.iconst 0, 1) := by decide +kernel
theorem dX8_tooth_54 : decode cX8_tooth 54 = .ok (.invokevirtual 124, 3) := by decide +kernel
theorem dX8_tooth_57 : decode cX8_tooth 57 = .ok (.ireturn, 1) := by decide +kernel
theorem dX8_tooth_58 : decode cX8_tooth 58 = .ok (.aload_n 0, 1) := by decide +kernel
theorem dX8_tooth_59 : decode cX8_tooth 59 = .ok (.getfield 19, 3) := by decide +kernel
theorem dX8_tooth_62 : decode cX8_tooth 62 = .ok (.iload_n 1, 1) := by decide +kernel
theorem dX8_tooth_63 : decode cX8_tooth 63 = .ok (.iconst 1, 1) := by decide +kernel
theorem dX8_tooth_64 : decode cX8_tooth 64 = .ok (.invokevirtual 124, 3) := by decide +kernel
theorem dX8_tooth_67 : decode cX8_tooth 67 = .ok (.ireturn, 1) := by decide +kernel
theorem dX8_tooth_68 : decode cX8_tooth 68 = .ok (.aload_n 0, 1) := by decide +kernel
theorem dX8_tooth_69 : decode cX8_tooth 69 = .ok (.getfield 19, 3) := by decide +kernel
theorem dX8_tooth_72 : decode cX8_tooth 72 = .ok (.iload_n 1, 1) := by decide +kernel
theorem dX8_tooth_73 : decode cX8_tooth 73 = .ok (.iconst 2, 1) := by decide +kernel
theorem dX8_tooth_74 : decode cX8_tooth 74 = .ok (.invokevirtual 124, 3) := by decide +kernel
theorem dX8_tooth_77 : decode cX8_tooth 77 = .ok (.ireturn, 1) := by decide +kernel
theorem dX8_tooth_78 : decode cX8_tooth 78 = .ok (.aload_n 0, 1) := by decide +kernel
theorem dX8_tooth_79 : decode cX8_tooth 79 = .ok (.getfield 19, 3) := by decide +kernel
theorem dX8_tooth_82 : decode cX8_tooth 82 = .ok (.iload_n 1, 1) := by decide +kernel
theorem dX8_tooth_83 : decode cX8_tooth 83 = .ok (.iconst 3, 1) := by decide +kernel
theorem dX8_tooth_84 : decode cX8_tooth 84 = .ok (.invokevirtual 124, 3) := by decide +kernel
theorem dX8_tooth_87 : decode cX8_tooth 87 = .ok (.ireturn, 1) := by decide +kernel
theorem dX8_tooth_88 : decode cX8_tooth 88 = .ok (.aload_n 0, 1) := by decide +kernel
theorem dX8_tooth_89 : decode cX8_tooth 89 = .ok (.iload_n 1, 1) := by decide +kernel
theorem dX8_tooth_90 : decode cX8_tooth 90 = .ok (.invokevirtual 127, 3) := by decide +kernel
theorem dX8_tooth_93 : decode cX8_tooth 93 = .ok (.ireturn, 1) := by decide +kernel
theorem dX8_tooth_94 : decode cX8_tooth 94 = .ok (.aload_n 0, 1) := by decide +kernel
theorem dX8_tooth_95 : decode cX8_tooth 95 = .ok (.getfield 19, 3) := by decide +kernel
theorem dX8_tooth_98 : decode cX8_tooth 98 = .ok (.iload_n 1, 1) := by decide +kernel
theorem dX8_tooth_99 : decode cX8_tooth 99 = .ok (.iconst 4, 1) := by decide +kernel
theorem dX8_tooth_100 : decode cX8_tooth 100 = .ok (.invokevirtual 124, 3) := by decide +kernel
theorem dX8_tooth_103 : decode cX8_tooth 103 = .ok (.ireturn, 1) := by decide +kernel
theorem dX8_tooth_104 : decode cX8_tooth 104 = .ok (.bipush (-2), 2) := by decide +kernel
theorem dX8_tooth_106 : decode cX8_tooth 106 = .ok (.ireturn, 1) := by decide +kernel
theorem dX8_good_0 : decode cX8_good 0 = .ok (.aload_n 0, 1) := by decide +kernel
theorem dX8_good_1 : decode cX8_good 1 = .ok (.iload_n 1, 1) := by decide +kernel
theorem dX8_good_2 : decode cX8_good 2 = .ok (.invokevirtual 130, 3) := by decide +kernel
theorem dX8_good_5 : decode cX8_good 5 = .ok (.ifCond .ne 5, 3) := by decide +kernel
theorem dX8_good_8 : decode cX8_good 8 = .ok (.iconst (-1), 1) := by decide +kernel
theorem dX8_good_9 : decode cX8_good 9 = .ok (.ireturn, 1) := by decide +kernel
theorem dX8_good_10 : decode cX8_good 10 = .ok (.iload_n 2, 1) := by decide +kernel
theorem dX8_good_11 : decode cX8_good 11 = .ok (.lookupswitch 43 #[(0, 25), (1, 34)], 25) := by decide +kernel
theorem dX8_good_36 : decode cX8_good 36 = .ok (.aload_n 0, 1) := by decide +kernel
theorem dX8_good_37 : decode cX8_good 37 = .ok (.getfield 26, 3) := by decide +kernel
theorem dX8_good_40 : decode cX8_good 40 = .ok (.iload_n 1, 1) := by decide +kernel
theorem dX8_good_41 : decode cX8_good 41 = .ok (.invokevirtual 133, 3) := by decide +kernel
theorem dX8_good_44 : decode cX8_good 44 = .ok (.ireturn, 1) := by decide +kernel
theorem dX8_good_45 : decode cX8_good 45 = .ok (.aload_n 0, 1) := by decide +kernel
theorem dX8_good_46 : decode cX8_good 46 = .ok (.getfield 26, 3) := by decide +kernel
theorem dX8_good_49 : decode cX8_good 49 = .ok (.iload_n 1, 1) := by decide +kernel
theorem dX8_good_50 : decode cX8_good 50 = .ok (.invokevirtual 136, 3) := by decide +kernel
theorem dX8_good_53 : decode cX8_good 53 = .ok (.ireturn, 1) := by decide +kernel
theorem dX8_good_54 : decode cX8_good 54 = .ok (.bipush (-2), 2) := by decide +kernel
theorem dX8_good_56 : decode cX8_good 56 = .ok (.ireturn, 1) := by decide +kernel
theorem dX8_purse_0 : decode cX8_purse 0 = .ok (.iload_n 1, 1) := by decide +kernel
theorem dX8_purse_1 : decode cX8_purse 1 = .ok (.invokestatic 139, 3) := by decide +kernel
theorem dX8_purse_4 : decode cX8_purse 4 = .ok (.ifCond .eq 18, 3) := by decide +kernel
theorem dX8_purse_7 : decode cX8_purse 7 = .ok (.aload_n 0, 1) := by decide +kernel
theorem dX8_purse_8 : decode cX8_purse 8 = .ok (.aload_n 0, 1) := by decide +kernel
theorem dX8_purse_9 : decode cX8_purse 9 = .ok (.getfield 19, 3) := by decide +kernel
theorem dX8_purse_12 : decode cX8_purse 12 = .ok (.iload_n 1, 1) := by decide +kernel
theorem dX8_purse_13 : decode cX8_purse 13 = .ok (.invokevirtual 142, 3) := by decide +kernel
theorem dX8_purse_16 : decode cX8_purse 16 = .ok (.invokevirtual 145, 3) := by decide +kernel
theorem dX8_purse_19 : decode cX8_purse 19 = .ok (.goto 4, 3) := by decide +kernel
theorem dX8_purse_22 : decode cX8_purse 22 = .ok (.iconst (-1), 1) := by decide +kernel
theorem dX8_purse_23 : decode cX8_purse 23 = .ok (.ireturn, 1) := by decide +kernel
theorem dX8_handle_0 : decode cX8_handle 0 = .ok (.aload_n 0, 1) := by decide +kernel
theorem dX8_handle_1 : decode cX8_handle 1 = .ok (.iload_n 1, 1) := by decide +kernel
theorem dX8_handle_2 : decode cX8_handle 2 = .ok (.invokevirtual 120, 3) := by decide +kernel
theorem dX8_handle_5 : decode cX8_handle 5 = .ok (.ifCond .ne 5, 3) := by decide +kernel
theorem dX8_handle_8 : decode cX8_handle 8 = .ok (.iconst (-1), 1) := by decide +kernel
theorem dX8_handle_9 : decode cX8_handle 9 = .ok (.ireturn, 1) := by decide +kernel
theorem dX8_handle_10 : decode cX8_handle 10 = .ok (.aload_n 0, 1) := by decide +kernel
theorem dX8_handle_11 : decode cX8_handle 11 = .ok (.getfield 19, 3) := by decide +kernel
theorem dX8_handle_14 : decode cX8_handle 14 = .ok (.iload_n 1, 1) := by decide +kernel
theorem dX8_handle_15 : decode cX8_handle 15 = .ok (.invokevirtual 148, 3) := by decide +kernel
theorem dX8_handle_18 : decode cX8_handle 18 = .ok (.aload_n 0, 1) := by decide +kernel
theorem dX8_handle_19 : decode cX8_handle 19 = .ok (.iload_n 1, 1) := by decide +kernel
theorem dX8_handle_20 : decode cX8_handle 20 = .ok (.invokevirtual 127, 3) := by decide +kernel
theorem dX8_handle_23 : decode cX8_handle 23 = .ok (.ireturn, 1) := by decide +kernel
theorem dX8_bite_0 : decode cX8_bite 0 = .ok (.aload_n 0, 1) := by decide +kernel
theorem dX8_bite_1 : decode cX8_bite 1 = .ok (.iload_n 1, 1) := by decide +kernel
theorem dX8_bite_2 : decode cX8_bite 2 = .ok (.invokevirtual 120, 3) := by decide +kernel
theorem dX8_bite_5 : decode cX8_bite 5 = .ok (.ifCond .ne 5, 3) := by decide +kernel
theorem dX8_bite_8 : decode cX8_bite 8 = .ok (.iconst (-1), 1) := by decide +kernel
theorem dX8_bite_9 : decode cX8_bite 9 = .ok (.ireturn, 1) := by decide +kernel
theorem dX8_bite_10 : decode cX8_bite 10 = .ok (.aload_n 0, 1) := by decide +kernel
theorem dX8_bite_11 : decode cX8_bite 11 = .ok (.getfield 19, 3) := by decide +kernel
theorem dX8_bite_14 : decode cX8_bite 14 = .ok (.iload_n 1, 1) := by decide +kernel
theorem dX8_bite_15 : decode cX8_bite 15 = .ok (.iconst 0, 1) := by decide +kernel
theorem dX8_bite_16 : decode cX8_bite 16 = .ok (.invokevirtual 124, 3) := by decide +kernel
theorem dX8_bite_19 : decode cX8_bite 19 = .ok (.istore_n 2, 1) := by decide +kernel
theorem dX8_bite_20 : decode cX8_bite 20 = .ok (.iload_n 2, 1) := by decide +kernel
theorem dX8_bite_21 : decode cX8_bite 21 = .ok (.iconst 1, 1) := by decide +kernel
theorem dX8_bite_22 : decode cX8_bite 22 = .ok (.if_icmp .gt 6, 3) := by decide +kernel
theorem dX8_bite_25 : decode cX8_bite 25 = .ok (.bipush (-3), 2) := by decide +kernel
theorem dX8_bite_27 : decode cX8_bite 27 = .ok (.ireturn, 1) := by decide +kernel
theorem dX8_bite_28 : decode cX8_bite 28 = .ok (.aload_n 0, 1) := by decide +kernel
theorem dX8_bite_29 : decode cX8_bite 29 = .ok (.getfield 19, 3) := by decide +kernel
theorem dX8_bite_32 : decode cX8_bite 32 = .ok (.iload_n 1, 1) := by decide +kernel
theorem dX8_bite_33 : decode cX8_bite 33 = .ok (.iconst 0, 1) := by decide +kernel
theorem dX8_bite_34 : decode cX8_bite 34 = .ok (.iload_n 2, 1) := by decide +kernel
theorem dX8_bite_35 : decode cX8_bite 35 = .ok (.iconst 1, 1) := by decide +kernel
theorem dX8_bite_36 : decode cX8_bite 36 = .ok (.isub, 1) := by decide +kernel
theorem dX8_bite_37 : decode cX8_bite 37 = .ok (.invokevirtual 151, 3) := by decide +kernel
theorem dX8_bite_40 : decode cX8_bite 40 = .ok (.aload_n 0, 1) := by decide +kernel
theorem dX8_bite_41 : decode cX8_bite 41 = .ok (.getfield 19, 3) := by decide +kernel
theorem dX8_bite_44 : decode cX8_bite 44 = .ok (.iload_n 1, 1) := by decide +kernel
theorem dX8_bite_45 : decode cX8_bite 45 = .ok (.iconst 2, 1) := by decide +kernel
theorem dX8_bite_46 : decode cX8_bite 46 = .ok (.iconst 0, 1) := by decide +kernel
theorem dX8_bite_47 : decode cX8_bite 47 = .ok (.invokevirtual 151, 3) := by decide +kernel
theorem dX8_bite_50 : decode cX8_bite 50 = .ok (.aload_n 0, 1) := by decide +kernel
theorem dX8_bite_51 : decode cX8_bite 51 = .ok (.iload_n 1, 1) := by decide +kernel
theorem dX8_bite_52 : decode cX8_bite 52 = .ok (.invokevirtual 127, 3) := by decide +kernel
theorem dX8_bite_55 : decode cX8_bite 55 = .ok (.ireturn, 1) := by decide +kernel
theorem dX8_fewest_0 : decode cX8_fewest 0 = .ok (.iload_n 1, 1) := by decide +kernel
theorem dX8_fewest_1 : decode cX8_fewest 1 = .ok (.iload_n 2, 1) := by decide +kernel
theorem dX8_fewest_2 : decode cX8_fewest 2 = .ok (.iload_n 3, 1) := by decide +kernel
theorem dX8_fewest_3 : decode cX8_fewest 3 = .ok (.invokestatic 155, 3) := by decide +kernel
theorem dX8_fewest_6 : decode cX8_fewest 6 = .ok (.istore 4, 2) := by decide +kernel
theorem dX8_fewest_8 : decode cX8_fewest 8 = .ok (.iload 4, 2) := by decide +kernel
theorem dX8_fewest_10 : decode cX8_fewest 10 = .ok (.ifCond .eq 6, 3) := by decide +kernel
theorem dX8_fewest_13 : decode cX8_fewest 13 = .ok (.iload 4, 2) := by decide +kernel
theorem dX8_fewest_15 : decode cX8_fewest 15 = .ok (.ireturn, 1) := by decide +kernel
theorem dX8_fewest_16 : decode cX8_fewest 16 = .ok (.aload_n 0, 1) := by decide +kernel
theorem dX8_fewest_17 : decode cX8_fewest 17 = .ok (.iload_n 1, 1) := by decide +kernel
theorem dX8_fewest_18 : decode cX8_fewest 18 = .ok (.iload_n 2, 1) := by decide +kernel
theorem dX8_fewest_19 : decode cX8_fewest 19 = .ok (.iload_n 3, 1) := by decide +kernel
theorem dX8_fewest_20 : decode cX8_fewest 20 = .ok (.invokevirtual 159, 3) := by decide +kernel
theorem dX8_fewest_23 : decode cX8_fewest 23 = .ok (.aload_n 0, 1) := by decide +kernel
theorem dX8_fewest_24 : decode cX8_fewest 24 = .ok (.getfield 60, 3) := by decide +kernel
theorem dX8_fewest_27 : decode cX8_fewest 27 = .ok (.getfield 162, 3) := by decide +kernel
theorem dX8_fewest_30 : decode cX8_fewest 30 = .ok (.ifCond .eq 13, 3) := by decide +kernel
theorem dX8_fewest_33 : decode cX8_fewest 33 = .ok (.aload_n 0, 1) := by decide +kernel
theorem dX8_fewest_34 : decode cX8_fewest 34 = .ok (.getfield 60, 3) := by decide +kernel
theorem dX8_fewest_37 : decode cX8_fewest 37 = .ok (.getfield 166, 3) := by decide +kernel
theorem dX8_fewest_40 : decode cX8_fewest 40 = .ok (.goto 5, 3) := by decide +kernel
theorem dX8_fewest_43 : decode cX8_fewest 43 = .ok (.bipush (-9), 2) := by decide +kernel
theorem dX8_fewest_45 : decode cX8_fewest 45 = .ok (.ireturn, 1) := by decide +kernel
theorem dX8_paid_0 : decode cX8_paid 0 = .ok (.iload_n 1, 1) := by decide +kernel
theorem dX8_paid_1 : decode cX8_paid 1 = .ok (.iload_n 2, 1) := by decide +kernel
theorem dX8_paid_2 : decode cX8_paid 2 = .ok (.iload_n 3, 1) := by decide +kernel
theorem dX8_paid_3 : decode cX8_paid 3 = .ok (.invokestatic 155, 3) := by decide +kernel
theorem dX8_paid_6 : decode cX8_paid 6 = .ok (.istore 5, 2) := by decide +kernel
theorem dX8_paid_8 : decode cX8_paid 8 = .ok (.iload 5, 2) := by decide +kernel
theorem dX8_paid_10 : decode cX8_paid 10 = .ok (.ifCond .eq 6, 3) := by decide +kernel
theorem dX8_paid_13 : decode cX8_paid 13 = .ok (.iload 5, 2) := by decide +kernel
theorem dX8_paid_15 : decode cX8_paid 15 = .ok (.ireturn, 1) := by decide +kernel
theorem dX8_paid_16 : decode cX8_paid 16 = .ok (.aload_n 0, 1) := by decide +kernel
theorem dX8_paid_17 : decode cX8_paid 17 = .ok (.iload_n 1, 1) := by decide +kernel
theorem dX8_paid_18 : decode cX8_paid 18 = .ok (.iload_n 2, 1) := by decide +kernel
theorem dX8_paid_19 : decode cX8_paid 19 = .ok (.iload_n 3, 1) := by decide +kernel
theorem dX8_paid_20 : decode cX8_paid 20 = .ok (.invokevirtual 159, 3) := by decide +kernel
theorem dX8_paid_23 : decode cX8_paid 23 = .ok (.aload_n 0, 1) := by decide +kernel
theorem dX8_paid_24 : decode cX8_paid 24 = .ok (.getfield 60, 3) := by decide +kernel
theorem dX8_paid_27 : decode cX8_paid 27 = .ok (.getfield 162, 3) := by decide +kernel
theorem dX8_paid_30 : decode cX8_paid 30 = .ok (.ifCond .ne 6, 3) := by decide +kernel
theorem dX8_paid_33 : decode cX8_paid 33 = .ok (.bipush (-9), 2) := by decide +kernel
theorem dX8_paid_35 : decode cX8_paid 35 = .ok (.ireturn, 1) := by decide +kernel
theorem dX8_paid_36 : decode cX8_paid 36 = .ok (.iload 4, 2) := by decide +kernel
theorem dX8_paid_38 : decode cX8_paid 38 = .ok (.ifCond .eq 13, 3) := by decide +kernel
theorem dX8_paid_41 : decode cX8_paid 41 = .ok (.aload_n 0, 1) := by decide +kernel
theorem dX8_paid_42 : decode cX8_paid 42 = .ok (.getfield 60, 3) := by decide +kernel
theorem dX8_paid_45 : decode cX8_paid 45 = .ok (.getfield 169, 3) := by decide +kernel
theorem dX8_paid_48 : decode cX8_paid 48 = .ok (.goto 10, 3) := by decide +kernel
theorem dX8_paid_51 : decode cX8_paid 51 = .ok (.aload_n 0, 1) := by decide +kernel
theorem dX8_paid_52 : decode cX8_paid 52 = .ok (.getfield 60, 3) := by decide +kernel
theorem dX8_paid_55 : decode cX8_paid 55 = .ok (.getfield 172, 3) := by decide +kernel
theorem dX8_paid_58 : decode cX8_paid 58 = .ok (.ireturn, 1) := by decide +kernel
theorem dX8_pay_0 : decode cX8_pay 0 = .ok (.iload_n 1, 1) := by decide +kernel
theorem dX8_pay_1 : decode cX8_pay 1 = .ok (.iload_n 2, 1) := by decide +kernel
theorem dX8_pay_2 : decode cX8_pay 2 = .ok (.iload_n 3, 1) := by decide +kernel
theorem dX8_pay_3 : decode cX8_pay 3 = .ok (.invokestatic 155, 3) := by decide +kernel
theorem dX8_pay_6 : decode cX8_pay 6 = .ok (.istore 4, 2) := by decide +kernel
theorem dX8_pay_8 : decode cX8_pay 8 = .ok (.iload 4, 2) := by decide +kernel
theorem dX8_pay_10 : decode cX8_pay 10 = .ok (.ifCond .eq 6, 3) := by decide +kernel
theorem dX8_pay_13 : decode cX8_pay 13 = .ok (.iload 4, 2) := by decide +kernel
theorem dX8_pay_15 : decode cX8_pay 15 = .ok (.ireturn, 1) := by decide +kernel
theorem dX8_pay_16 : decode cX8_pay 16 = .ok (.aload_n 0, 1) := by decide +kernel
theorem dX8_pay_17 : decode cX8_pay 17 = .ok (.iload_n 1, 1) := by decide +kernel
theorem dX8_pay_18 : decode cX8_pay 18 = .ok (.iload_n 2, 1) := by decide +kernel
theorem dX8_pay_19 : decode cX8_pay 19 = .ok (.iload_n 3, 1) := by decide +kernel
theorem dX8_pay_20 : decode cX8_pay 20 = .ok (.invokevirtual 159, 3) := by decide +kernel
theorem dX8_pay_23 : decode cX8_pay 23 = .ok (.aload_n 0, 1) := by decide +kernel
theorem dX8_pay_24 : decode cX8_pay 24 = .ok (.getfield 60, 3) := by decide +kernel
theorem dX8_pay_27 : decode cX8_pay 27 = .ok (.getfield 162, 3) := by decide +kernel
theorem dX8_pay_30 : decode cX8_pay 30 = .ok (.ifCond .ne 6, 3) := by decide +kernel
theorem dX8_pay_33 : decode cX8_pay 33 = .ok (.bipush (-3), 2) := by decide +kernel
theorem dX8_pay_35 : decode cX8_pay 35 = .ok (.ireturn, 1) := by decide +kernel
theorem dX8_pay_36 : decode cX8_pay 36 = .ok (.aload_n 0, 1) := by decide +kernel
theorem dX8_pay_37 : decode cX8_pay 37 = .ok (.getfield 33, 3) := by decide +kernel
theorem dX8_pay_40 : decode cX8_pay 40 = .ok (.getfield 98, 3) := by decide +kernel
theorem dX8_pay_43 : decode cX8_pay 43 = .ok (.bipush 8, 2) := by decide +kernel
theorem dX8_pay_45 : decode cX8_pay 45 = .ok (.if_icmp .lt 6, 3) := by decide +kernel
theorem dX8_pay_48 : decode cX8_pay 48 = .ok (.bipush (-4), 2) := by decide +kernel
theorem dX8_pay_50 : decode cX8_pay 50 = .ok (.ireturn, 1) := by decide +kernel
theorem dX8_pay_51 : decode cX8_pay 51 = .ok (.aload_n 0, 1) := by decide +kernel
theorem dX8_pay_52 : decode cX8_pay 52 = .ok (.getfield 33, 3) := by decide +kernel
theorem dX8_pay_55 : decode cX8_pay 55 = .ok (.aload_n 0, 1) := by decide +kernel
theorem dX8_pay_56 : decode cX8_pay 56 = .ok (.getfield 19, 3) := by decide +kernel
theorem dX8_pay_59 : decode cX8_pay 59 = .ok (.invokevirtual 175, 3) := by decide +kernel
theorem dX8_pay_62 : decode cX8_pay 62 = .ok (.aload_n 0, 1) := by decide +kernel
theorem dX8_pay_63 : decode cX8_pay 63 = .ok (.aload_n 0, 1) := by decide +kernel
theorem dX8_pay_64 : decode cX8_pay 64 = .ok (.getfield 60, 3) := by decide +kernel
theorem dX8_pay_67 : decode cX8_pay 67 = .ok (.getfield 172, 3) := by decide +kernel
theorem dX8_pay_70 : decode cX8_pay 70 = .ok (.iload_n 2, 1) := by decide +kernel
theorem dX8_pay_71 : decode cX8_pay 71 = .ok (.invokevirtual 179, 3) := by decide +kernel
theorem dX8_pay_74 : decode cX8_pay 74 = .ok (.aload_n 0, 1) := by decide +kernel
theorem dX8_pay_75 : decode cX8_pay 75 = .ok (.aload_n 0, 1) := by decide +kernel
theorem dX8_pay_76 : decode cX8_pay 76 = .ok (.getfield 60, 3) := by decide +kernel
theorem dX8_pay_79 : decode cX8_pay 79 = .ok (.getfield 169, 3) := by decide +kernel
theorem dX8_pay_82 : decode cX8_pay 82 = .ok (.iload_n 1, 1) := by decide +kernel
theorem dX8_pay_83 : decode cX8_pay 83 = .ok (.invokevirtual 179, 3) := by decide +kernel
theorem dX8_pay_86 : decode cX8_pay 86 = .ok (.aload_n 0, 1) := by decide +kernel
theorem dX8_pay_87 : decode cX8_pay 87 = .ok (.getfield 60, 3) := by decide +kernel
theorem dX8_pay_90 : decode cX8_pay 90 = .ok (.getfield 166, 3) := by decide +kernel
theorem dX8_pay_93 : decode cX8_pay 93 = .ok (.ireturn, 1) := by decide +kernel
theorem dX8_undo_0 : decode cX8_undo 0 = .ok (.aload_n 0, 1) := by decide +kernel
theorem dX8_undo_1 : decode cX8_undo 1 = .ok (.getfield 33, 3) := by decide +kernel
theorem dX8_undo_4 : decode cX8_undo 4 = .ok (.getfield 98, 3) := by decide +kernel
theorem dX8_undo_7 : decode cX8_undo 7 = .ok (.iconst 1, 1) := by decide +kernel
theorem dX8_undo_8 : decode cX8_undo 8 = .ok (.if_icmp .ge 6, 3) := by decide +kernel
theorem dX8_undo_11 : decode cX8_undo 11 = .ok (.bipush (-3), 2) := by decide +kernel
theorem dX8_undo_13 : decode cX8_undo 13 = .ok (.ireturn, 1) := by decide +kernel
theorem dX8_undo_14 : decode cX8_undo 14 = .ok (.aload_n 0, 1) := by decide +kernel
theorem dX8_undo_15 : decode cX8_undo 15 = .ok (.getfield 33, 3) := by decide +kernel
theorem dX8_undo_18 : decode cX8_undo 18 = .ok (.aload_n 0, 1) := by decide +kernel
theorem dX8_undo_19 : decode cX8_undo 19 = .ok (.getfield 19, 3) := by decide +kernel
theorem dX8_undo_22 : decode cX8_undo 22 = .ok (.invokevirtual 183, 3) := by decide +kernel
theorem dX8_undo_25 : decode cX8_undo 25 = .ok (.aload_n 0, 1) := by decide +kernel
theorem dX8_undo_26 : decode cX8_undo 26 = .ok (.getfield 33, 3) := by decide +kernel
theorem dX8_undo_29 : decode cX8_undo 29 = .ok (.getfield 98, 3) := by decide +kernel
theorem dX8_undo_32 : decode cX8_undo 32 = .ok (.ireturn, 1) := by decide +kernel
theorem dX8_tooMuch_0 : decode cX8_tooMuch 0 = .ok (.iload_n 1, 1) := by decide +kernel
theorem dX8_tooMuch_1 : decode cX8_tooMuch 1 = .ok (.invokestatic 139, 3) := by decide +kernel
theorem dX8_tooMuch_4 : decode cX8_tooMuch 4 = .ok (.ifCond .ne 5, 3) := by decide +kernel
theorem dX8_tooMuch_7 : decode cX8_tooMuch 7 = .ok (.iconst (-1), 1) := by decide +kernel
theorem dX8_tooMuch_8 : decode cX8_tooMuch 8 = .ok (.ireturn, 1) := by decide +kernel
theorem dX8_tooMuch_9 : decode cX8_tooMuch 9 = .ok (.iload_n 2, 1) := by decide +kernel
theorem dX8_tooMuch_10 : decode cX8_tooMuch 10 = .ok (.invokestatic 186, 3) := by decide +kernel
theorem dX8_tooMuch_13 : decode cX8_tooMuch 13 = .ok (.ifCond .ne 6, 3) := by decide +kernel
theorem dX8_tooMuch_16 : decode cX8_tooMuch 16 = .ok (.bipush (-2), 2) := by decide +kernel
theorem dX8_tooMuch_18 : decode cX8_tooMuch 18 = .ok (.ireturn, 1) := by decide +kernel
theorem dX8_tooMuch_19 : decode cX8_tooMuch 19 = .ok (.aload_n 0, 1) := by decide +kernel
theorem dX8_tooMuch_20 : decode cX8_tooMuch 20 = .ok (.aload_n 0, 1) := by decide +kernel
theorem dX8_tooMuch_21 : decode cX8_tooMuch 21 = .ok (.getfield 19, 3) := by decide +kernel
theorem dX8_tooMuch_24 : decode cX8_tooMuch 24 = .ok (.iload_n 1, 1) := by decide +kernel
theorem dX8_tooMuch_25 : decode cX8_tooMuch 25 = .ok (.invokevirtual 142, 3) := by decide +kernel
theorem dX8_tooMuch_28 : decode cX8_tooMuch 28 = .ok (.iload_n 2, 1) := by decide +kernel
theorem dX8_tooMuch_29 : decode cX8_tooMuch 29 = .ok (.invokevirtual 189, 3) := by decide +kernel
theorem dX8_tooMuch_32 : decode cX8_tooMuch 32 = .ok (.aload_n 0, 1) := by decide +kernel
theorem dX8_tooMuch_33 : decode cX8_tooMuch 33 = .ok (.getfield 60, 3) := by decide +kernel
theorem dX8_tooMuch_36 : decode cX8_tooMuch 36 = .ok (.getfield 162, 3) := by decide +kernel
theorem dX8_tooMuch_39 : decode cX8_tooMuch 39 = .ok (.ifCond .ne 6, 3) := by decide +kernel
theorem dX8_tooMuch_42 : decode cX8_tooMuch 42 = .ok (.bipush (-9), 2) := by decide +kernel
theorem dX8_tooMuch_44 : decode cX8_tooMuch 44 = .ok (.ireturn, 1) := by decide +kernel
theorem dX8_tooMuch_45 : decode cX8_tooMuch 45 = .ok (.iload_n 3, 1) := by decide +kernel
theorem dX8_tooMuch_46 : decode cX8_tooMuch 46 = .ok (.ifCond .eq 13, 3) := by decide +kernel
theorem dX8_tooMuch_49 : decode cX8_tooMuch 49 = .ok (.aload_n 0, 1) := by decide +kernel
theorem dX8_tooMuch_50 : decode cX8_tooMuch 50 = .ok (.getfield 60, 3) := by decide +kernel
theorem dX8_tooMuch_53 : decode cX8_tooMuch 53 = .ok (.getfield 169, 3) := by decide +kernel
theorem dX8_tooMuch_56 : decode cX8_tooMuch 56 = .ok (.goto 10, 3) := by decide +kernel
theorem dX8_tooMuch_59 : decode cX8_tooMuch 59 = .ok (.aload_n 0, 1) := by decide +kernel
theorem dX8_tooMuch_60 : decode cX8_tooMuch 60 = .ok (.getfield 60, 3) := by decide +kernel
theorem dX8_tooMuch_63 : decode cX8_tooMuch 63 = .ok (.getfield 166, 3) := by decide +kernel
theorem dX8_tooMuch_66 : decode cX8_tooMuch 66 = .ok (.ireturn, 1) := by decide +kernel
theorem dX8_sums_0 : decode cX8_sums 0 = .ok (.iload_n 1, 1) := by decide +kernel
theorem dX8_sums_1 : decode cX8_sums 1 = .ok (.invokestatic 139, 3) := by decide +kernel
theorem dX8_sums_4 : decode cX8_sums 4 = .ok (.ifCond .eq 10, 3) := by decide +kernel
theorem dX8_sums_7 : decode cX8_sums 7 = .ok (.iload_n 2, 1) := by decide +kernel
theorem dX8_sums_8 : decode cX8_sums 8 = .ok (.invokestatic 139, 3) := by decide +kernel
theorem dX8_sums_11 : decode cX8_sums 11 = .ok (.ifCond .ne 5, 3) := by decide +kernel
theorem dX8_sums_14 : decode cX8_sums 14 = .ok (.iconst (-1), 1) := by decide +kernel
theorem dX8_sums_15 : decode cX8_sums 15 = .ok (.ireturn, 1) := by decide +kernel
theorem dX8_sums_16 : decode cX8_sums 16 = .ok (.iload_n 1, 1) := by decide +kernel
theorem dX8_sums_17 : decode cX8_sums 17 = .ok (.iload_n 2, 1) := by decide +kernel
theorem dX8_sums_18 : decode cX8_sums 18 = .ok (.if_icmp .eq 15, 3) := by decide +kernel
theorem dX8_sums_21 : decode cX8_sums 21 = .ok (.iload_n 3, 1) := by decide +kernel
theorem dX8_sums_22 : decode cX8_sums 22 = .ok (.iconst 1, 1) := by decide +kernel
theorem dX8_sums_23 : decode cX8_sums 23 = .ok (.if_icmp .lt 10, 3) := by decide +kernel
theorem dX8_sums_26 : decode cX8_sums 26 = .ok (.iload_n 3, 1) := by decide +kernel
theorem dX8_sums_27 : decode cX8_sums 27 = .ok (.sipush 999, 3) := by decide +kernel
theorem dX8_sums_30 : decode cX8_sums 30 = .ok (.if_icmp .le 6, 3) := by decide +kernel
theorem dX8_sums_33 : decode cX8_sums 33 = .ok (.bipush (-2), 2) := by decide +kernel
theorem dX8_sums_35 : decode cX8_sums 35 = .ok (.ireturn, 1) := by decide +kernel
theorem dX8_sums_36 : decode cX8_sums 36 = .ok (.aload_n 0, 1) := by decide +kernel
theorem dX8_sums_37 : decode cX8_sums 37 = .ok (.getfield 19, 3) := by decide +kernel
theorem dX8_sums_40 : decode cX8_sums 40 = .ok (.iload_n 2, 1) := by decide +kernel
theorem dX8_sums_41 : decode cX8_sums 41 = .ok (.invokevirtual 142, 3) := by decide +kernel
theorem dX8_sums_44 : decode cX8_sums 44 = .ok (.istore 4, 2) := by decide +kernel
theorem dX8_sums_46 : decode cX8_sums 46 = .ok (.aload_n 0, 1) := by decide +kernel
theorem dX8_sums_47 : decode cX8_sums 47 = .ok (.getfield 19, 3) := by decide +kernel
theorem dX8_sums_50 : decode cX8_sums 50 = .ok (.iload_n 1, 1) := by decide +kernel
theorem dX8_sums_51 : decode cX8_sums 51 = .ok (.invokevirtual 142, 3) := by decide +kernel
theorem dX8_sums_54 : decode cX8_sums 54 = .ok (.iload 4, 2) := by decide +kernel
theorem dX8_sums_56 : decode cX8_sums 56 = .ok (.ior, 1) := by decide +kernel
theorem dX8_sums_57 : decode cX8_sums 57 = .ok (.iconst (-1), 1) := by decide +kernel
theorem dX8_sums_58 : decode cX8_sums 58 = .ok (.ixor, 1) := by decide +kernel
theorem dX8_sums_59 : decode cX8_sums 59 = .ok (.istore 5, 2) := by decide +kernel
theorem dX8_sums_61 : decode cX8_sums 61 = .ok (.aload_n 0, 1) := by decide +kernel
theorem dX8_sums_62 : decode cX8_sums 62 = .ok (.iload 4, 2) := by decide +kernel
theorem dX8_sums_64 : decode cX8_sums 64 = .ok (.invokevirtual 192, 3) := by decide +kernel
theorem dX8_sums_67 : decode cX8_sums 67 = .ok (.aload_n 0, 1) := by decide +kernel
theorem dX8_sums_68 : decode cX8_sums 68 = .ok (.getfield 75, 3) := by decide +kernel
theorem dX8_sums_71 : decode cX8_sums 71 = .ok (.iconst 0, 1) := by decide +kernel
theorem dX8_sums_72 : decode cX8_sums 72 = .ok (.invokestatic 195, 3) := by decide +kernel
theorem dX8_sums_75 : decode cX8_sums 75 = .ok (.iconst 0, 1) := by decide +kernel
theorem dX8_sums_76 : decode cX8_sums 76 = .ok (.istore 6, 2) := by decide +kernel
theorem dX8_sums_78 : decode cX8_sums 78 = .ok (.iconst 0, 1) := by decide +kernel
theorem dX8_sums_79 : decode cX8_sums 79 = .ok (.istore 7, 2) := by decide +kernel
theorem dX8_sums_81 : decode cX8_sums 81 = .ok (.iload 7, 2) := by decide +kernel
theorem dX8_sums_83 : decode cX8_sums 83 = .ok (.aload_n 0, 1) := by decide +kernel
theorem dX8_sums_84 : decode cX8_sums 84 = .ok (.invokevirtual 201, 3) := by decide +kernel
theorem dX8_sums_87 : decode cX8_sums 87 = .ok (.if_icmp .ge 70, 3) := by decide +kernel
theorem dX8_sums_90 : decode cX8_sums 90 = .ok (.aload_n 0, 1) := by decide +kernel
theorem dX8_sums_91 : decode cX8_sums 91 = .ok (.getfield 71, 3) := by decide +kernel
theorem dX8_sums_94 : decode cX8_sums 94 = .ok (.iload 7, 2) := by decide +kernel
theorem dX8_sums_96 : decode cX8_sums 96 = .ok (.iaload, 1) := by decide +kernel
theorem dX8_sums_97 : decode cX8_sums 97 = .ok (.istore 8, 2) := by decide +kernel
theorem dX8_sums_99 : decode cX8_sums 99 = .ok (.iload 7, 2) := by decide +kernel
theorem dX8_sums_101 : decode cX8_sums 101 = .ok (.iload 5, 2) := by decide +kernel
theorem dX8_sums_103 : decode cX8_sums 103 = .ok (.iand, 1) := by decide +kernel
theorem dX8_sums_104 : decode cX8_sums 104 = .ok (.ifCond .ne 47, 3) := by decide +kernel
theorem dX8_sums_107 : decode cX8_sums 107 = .ok (.iload 8, 2) := by decide +kernel
theorem dX8_sums_109 : decode cX8_sums 109 = .ok (.iconst 1, 1) := by decide +kernel
theorem dX8_sums_110 : decode cX8_sums 110 = .ok (.if_icmp .lt 41, 3) := by decide +kernel
theorem dX8_sums_113 : decode cX8_sums 113 = .ok (.iload 8, 2) := by decide +kernel
theorem dX8_sums_115 : decode cX8_sums 115 = .ok (.iload_n 3, 1) := by decide +kernel
theorem dX8_sums_116 : decode cX8_sums 116 = .ok (.if_icmp .gt 35, 3) := by decide +kernel
theorem dX8_sums_119 : decode cX8_sums 119 = .ok (.iload 8, 2) := by decide +kernel
theorem dX8_sums_121 : decode cX8_sums 121 = .ok (.aload_n 0, 1) := by decide +kernel
theorem dX8_sums_122 : decode cX8_sums 122 = .ok (.getfield 75, 3) := by decide +kernel
theorem dX8_sums_125 : decode cX8_sums 125 = .ok (.arraylength, 1) := by decide +kernel
theorem dX8_sums_126 : decode cX8_sums 126 = .ok (.if_icmp .ge 25, 3) := by decide +kernel
theorem dX8_sums_129 : decode cX8_sums 129 = .ok (.iload 6, 2) := by decide +kernel
theorem dX8_sums_131 : decode cX8_sums 131 = .ok (.iconst 1, 1) := by decide +kernel
theorem dX8_sums_132 : decode cX8_sums 132 = .ok (.aload_n 0, 1) := by decide +kernel
theorem dX8_sums_133 : decode cX8_sums 133 = .ok (.getfield 75, 3) := by decide +kernel
theorem dX8_sums_136 : decode cX8_sums 136 = .ok (.iload 8, 2) := by decide +kernel
theorem dX8_sums_138 : decode cX8_sums 138 = .ok (.iaload, 1) := by decide +kernel
theorem dX8_sums_139 : decode cX8_sums 139 = .ok (.isub, 1) := by decide +kernel
theorem dX8_sums_140 : decode cX8_sums 140 = .ok (.iadd, 1) := by decide +kernel
theorem dX8_sums_141 : decode cX8_sums 141 = .ok (.istore 6, 2) := by decide +kernel
theorem dX8_sums_143 : decode cX8_sums 143 = .ok (.aload_n 0, 1) := by decide +kernel
theorem dX8_sums_144 : decode cX8_sums 144 = .ok (.getfield 75, 3) := by decide +kernel
theorem dX8_sums_147 : decode cX8_sums 147 = .ok (.iload 8, 2) := by decide +kernel
theorem dX8_sums_149 : decode cX8_sums 149 = .ok (.iconst 1, 1) := by decide +kernel
theorem dX8_sums_150 : decode cX8_sums 150 = .ok (.iastore, 1) := by decide +kernel
theorem dX8_sums_151 : decode cX8_sums 151 = .ok (.iinc 7 1, 3) := by decide +kernel
theorem dX8_sums_154 : decode cX8_sums 154 = .ok (.goto (-73), 3) := by decide +kernel
theorem dX8_sums_157 : decode cX8_sums 157 = .ok (.iload 6, 2) := by decide +kernel
theorem dX8_sums_159 : decode cX8_sums 159 = .ok (.ireturn, 1) := by decide +kernel
theorem dX8_spent_0 : decode cX8_spent 0 = .ok (.iload_n 1, 1) := by decide +kernel
theorem dX8_spent_1 : decode cX8_spent 1 = .ok (.invokestatic 139, 3) := by decide +kernel
theorem dX8_spent_4 : decode cX8_spent 4 = .ok (.ifCond .ne 5, 3) := by decide +kernel
theorem dX8_spent_7 : decode cX8_spent 7 = .ok (.iconst (-1), 1) := by decide +kernel
theorem dX8_spent_8 : decode cX8_spent 8 = .ok (.ireturn, 1) := by decide +kernel
theorem dX8_spent_9 : decode cX8_spent 9 = .ok (.aload_n 0, 1) := by decide +kernel
theorem dX8_spent_10 : decode cX8_spent 10 = .ok (.aload_n 0, 1) := by decide +kernel
theorem dX8_spent_11 : decode cX8_spent 11 = .ok (.getfield 19, 3) := by decide +kernel
theorem dX8_spent_14 : decode cX8_spent 14 = .ok (.iload_n 1, 1) := by decide +kernel
theorem dX8_spent_15 : decode cX8_spent 15 = .ok (.invokevirtual 142, 3) := by decide +kernel
theorem dX8_spent_18 : decode cX8_spent 18 = .ok (.invokevirtual 145, 3) := by decide +kernel
theorem dX8_spent_21 : decode cX8_spent 21 = .ok (.istore_n 3, 1) := by decide +kernel
theorem dX8_spent_22 : decode cX8_spent 22 = .ok (.aload_n 0, 1) := by decide +kernel
theorem dX8_spent_23 : decode cX8_spent 23 = .ok (.getfield 60, 3) := by decide +kernel
theorem dX8_spent_26 : decode cX8_spent 26 = .ok (.invokevirtual 204, 3) := by decide +kernel
theorem dX8_spent_29 : decode cX8_spent 29 = .ok (.iconst 0, 1) := by decide +kernel
theorem dX8_spent_30 : decode cX8_spent 30 = .ok (.istore 4, 2) := by decide +kernel
theorem dX8_spent_32 : decode cX8_spent 32 = .ok (.iload 4, 2) := by decide +kernel
theorem dX8_spent_34 : decode cX8_spent 34 = .ok (.iconst 1, 1) := by decide +kernel
theorem dX8_spent_35 : decode cX8_spent 35 = .ok (.aload_n 0, 1) := by decide +kernel
theorem dX8_spent_36 : decode cX8_spent 36 = .ok (.getfield 26, 3) := by decide +kernel
theorem dX8_spent_39 : decode cX8_spent 39 = .ok (.getfield 97, 3) := by decide +kernel
theorem dX8_spent_42 : decode cX8_spent 42 = .ok (.ishl, 1) := by decide +kernel
theorem dX8_spent_43 : decode cX8_spent 43 = .ok (.if_icmp .ge 47, 3) := by decide +kernel
theorem dX8_spent_46 : decode cX8_spent 46 = .ok (.aload_n 0, 1) := by decide +kernel
theorem dX8_spent_47 : decode cX8_spent 47 = .ok (.getfield 26, 3) := by decide +kernel
theorem dX8_spent_50 : decode cX8_spent 50 = .ok (.iload 4, 2) := by decide +kernel
theorem dX8_spent_52 : decode cX8_spent 52 = .ok (.invokevirtual 207, 3) := by decide +kernel
theorem dX8_spent_55 : decode cX8_spent 55 = .ok (.istore 5, 2) := by decide +kernel
theorem dX8_spent_57 : decode cX8_spent 57 = .ok (.iload 5, 2) := by decide +kernel
theorem dX8_spent_59 : decode cX8_spent 59 = .ok (.iload_n 3, 1) := by decide +kernel
theorem dX8_spent_60 : decode cX8_spent 60 = .ok (.if_icmp .gt 24, 3) := by decide +kernel
theorem dX8_spent_63 : decode cX8_spent 63 = .ok (.aload_n 0, 1) := by decide +kernel
theorem dX8_spent_64 : decode cX8_spent 64 = .ok (.getfield 60, 3) := by decide +kernel
theorem dX8_spent_67 : decode cX8_spent 67 = .ok (.aload_n 0, 1) := by decide +kernel
theorem dX8_spent_68 : decode cX8_spent 68 = .ok (.getfield 26, 3) := by decide +kernel
theorem dX8_spent_71 : decode cX8_spent 71 = .ok (.iload 4, 2) := by decide +kernel
theorem dX8_spent_73 : decode cX8_spent 73 = .ok (.invokevirtual 210, 3) := by decide +kernel
theorem dX8_spent_76 : decode cX8_spent 76 = .ok (.ineg, 1) := by decide +kernel
theorem dX8_spent_77 : decode cX8_spent 77 = .ok (.iload 5, 2) := by decide +kernel
theorem dX8_spent_79 : decode cX8_spent 79 = .ok (.iload 4, 2) := by decide +kernel
theorem dX8_spent_81 : decode cX8_spent 81 = .ok (.invokevirtual 213, 3) := by decide +kernel
theorem dX8_spent_84 : decode cX8_spent 84 = .ok (.iinc 4 1, 3) := by decide +kernel
theorem dX8_spent_87 : decode cX8_spent 87 = .ok (.goto (-55), 3) := by decide +kernel
theorem dX8_spent_90 : decode cX8_spent 90 = .ok (.iload_n 2, 1) := by decide +kernel
theorem dX8_spent_91 : decode cX8_spent 91 = .ok (.ifCond .eq 13, 3) := by decide +kernel
theorem dX8_spent_94 : decode cX8_spent 94 = .ok (.aload_n 0, 1) := by decide +kernel
theorem dX8_spent_95 : decode cX8_spent 95 = .ok (.getfield 60, 3) := by decide +kernel
theorem dX8_spent_98 : decode cX8_spent 98 = .ok (.getfield 169, 3) := by decide +kernel
theorem dX8_spent_101 : decode cX8_spent 101 = .ok (.goto 11, 3) := by decide +kernel
theorem dX8_spent_104 : decode cX8_spent 104 = .ok (.aload_n 0, 1) := by decide +kernel
theorem dX8_spent_105 : decode cX8_spent 105 = .ok (.getfield 60, 3) := by decide +kernel
theorem dX8_spent_108 : decode cX8_spent 108 = .ok (.getfield 166, 3) := by decide +kernel
theorem dX8_spent_111 : decode cX8_spent 111 = .ok (.ineg, 1) := by decide +kernel
theorem dX8_spent_112 : decode cX8_spent 112 = .ok (.ireturn, 1) := by decide +kernel
theorem dX8_caught_0 : decode cX8_caught 0 = .ok (.iload_n 1, 1) := by decide +kernel
theorem dX8_caught_1 : decode cX8_caught 1 = .ok (.invokestatic 139, 3) := by decide +kernel
theorem dX8_caught_4 : decode cX8_caught 4 = .ok (.ifCond .ne 5, 3) := by decide +kernel
theorem dX8_caught_7 : decode cX8_caught 7 = .ok (.iconst (-1), 1) := by decide +kernel
theorem dX8_caught_8 : decode cX8_caught 8 = .ok (.ireturn, 1) := by decide +kernel
theorem dX8_caught_9 : decode cX8_caught 9 = .ok (.aload_n 0, 1) := by decide +kernel
theorem dX8_caught_10 : decode cX8_caught 10 = .ok (.getfield 19, 3) := by decide +kernel
theorem dX8_caught_13 : decode cX8_caught 13 = .ok (.getfield 94, 3) := by decide +kernel
theorem dX8_caught_16 : decode cX8_caught 16 = .ok (.bipush 10, 2) := by decide +kernel
theorem dX8_caught_18 : decode cX8_caught 18 = .ok (.if_icmp .lt 6, 3) := by decide +kernel
theorem dX8_caught_21 : decode cX8_caught 21 = .ok (.bipush (-4), 2) := by decide +kernel
theorem dX8_caught_23 : decode cX8_caught 23 = .ok (.ireturn, 1) := by decide +kernel
theorem dX8_caught_24 : decode cX8_caught 24 = .ok (.aload_n 0, 1) := by decide +kernel
theorem dX8_caught_25 : decode cX8_caught 25 = .ok (.iload_n 1, 1) := by decide +kernel
theorem dX8_caught_26 : decode cX8_caught 26 = .ok (.lload_n 2, 1) := by decide +kernel
theorem dX8_caught_27 : decode cX8_caught 27 = .ok (.invokestatic 216, 3) := by decide +kernel
theorem dX8_caught_30 : decode cX8_caught 30 = .ok (.invokevirtual 220, 3) := by decide +kernel
theorem dX8_caught_33 : decode cX8_caught 33 = .ok (.aload_n 0, 1) := by decide +kernel
theorem dX8_caught_34 : decode cX8_caught 34 = .ok (.getfield 19, 3) := by decide +kernel
theorem dX8_caught_37 : decode cX8_caught 37 = .ok (.getfield 94, 3) := by decide +kernel
theorem dX8_caught_40 : decode cX8_caught 40 = .ok (.iconst 1, 1) := by decide +kernel
theorem dX8_caught_41 : decode cX8_caught 41 = .ok (.isub, 1) := by decide +kernel
theorem dX8_caught_42 : decode cX8_caught 42 = .ok (.ireturn, 1) := by decide +kernel
theorem dX8_washed_0 : decode cX8_washed 0 = .ok (.iload_n 1, 1) := by decide +kernel
theorem dX8_washed_1 : decode cX8_washed 1 = .ok (.iconst 1, 1) := by decide +kernel
theorem dX8_washed_2 : decode cX8_washed 2 = .ok (.if_icmp .lt 9, 3) := by decide +kernel
theorem dX8_washed_5 : decode cX8_washed 5 = .ok (.iload_n 1, 1) := by decide +kernel
theorem dX8_washed_6 : decode cX8_washed 6 = .ok (.bipush 10, 2) := by decide +kernel
theorem dX8_washed_8 : decode cX8_washed 8 = .ok (.if_icmp .le 6, 3) := by decide +kernel
theorem dX8_washed_11 : decode cX8_washed 11 = .ok (.bipush (-2), 2) := by decide +kernel
theorem dX8_washed_13 : decode cX8_washed 13 = .ok (.ireturn, 1) := by decide +kernel
theorem dX8_washed_14 : decode cX8_washed 14 = .ok (.aload_n 0, 1) := by decide +kernel
theorem dX8_washed_15 : decode cX8_washed 15 = .ok (.getfield 19, 3) := by decide +kernel
theorem dX8_washed_18 : decode cX8_washed 18 = .ok (.getfield 94, 3) := by decide +kernel
theorem dX8_washed_21 : decode cX8_washed 21 = .ok (.iload_n 1, 1) := by decide +kernel
theorem dX8_washed_22 : decode cX8_washed 22 = .ok (.iadd, 1) := by decide +kernel
theorem dX8_washed_23 : decode cX8_washed 23 = .ok (.bipush 10, 2) := by decide +kernel
theorem dX8_washed_25 : decode cX8_washed 25 = .ok (.if_icmp .le 6, 3) := by decide +kernel
theorem dX8_washed_28 : decode cX8_washed 28 = .ok (.bipush (-4), 2) := by decide +kernel
theorem dX8_washed_30 : decode cX8_washed 30 = .ok (.ireturn, 1) := by decide +kernel
theorem dX8_washed_31 : decode cX8_washed 31 = .ok (.lload_n 2, 1) := by decide +kernel
theorem dX8_washed_32 : decode cX8_washed 32 = .ok (.lstore 4, 2) := by decide +kernel
theorem dX8_washed_34 : decode cX8_washed 34 = .ok (.iconst 0, 1) := by decide +kernel
theorem dX8_washed_35 : decode cX8_washed 35 = .ok (.istore 6, 2) := by decide +kernel
theorem dX8_washed_37 : decode cX8_washed 37 = .ok (.iload 6, 2) := by decide +kernel
theorem dX8_washed_39 : decode cX8_washed 39 = .ok (.iload_n 1, 1) := by decide +kernel
theorem dX8_washed_40 : decode cX8_washed 40 = .ok (.if_icmp .ge 26, 3) := by decide +kernel
theorem dX8_washed_43 : decode cX8_washed 43 = .ok (.lload 4, 2) := by decide +kernel
theorem dX8_washed_45 : decode cX8_washed 45 = .ok (.invokestatic 216, 3) := by decide +kernel
theorem dX8_washed_48 : decode cX8_washed 48 = .ok (.lstore 4, 2) := by decide +kernel
theorem dX8_washed_50 : decode cX8_washed 50 = .ok (.aload_n 0, 1) := by decide +kernel
theorem dX8_washed_51 : decode cX8_washed 51 = .ok (.iload 6, 2) := by decide +kernel
theorem dX8_washed_53 : decode cX8_washed 53 = .ok (.iconst 4, 1) := by decide +kernel
theorem dX8_washed_54 : decode cX8_washed 54 = .ok (.irem, 1) := by decide +kernel
theorem dX8_washed_55 : decode cX8_washed 55 = .ok (.lload 4, 2) := by decide +kernel
theorem dX8_washed_57 : decode cX8_washed 57 = .ok (.invokevirtual 220, 3) := by decide +kernel
theorem dX8_washed_60 : decode cX8_washed 60 = .ok (.iinc 6 1, 3) := by decide +kernel
theorem dX8_washed_63 : decode cX8_washed 63 = .ok (.goto (-26), 3) := by decide +kernel
theorem dX8_washed_66 : decode cX8_washed 66 = .ok (.aload_n 0, 1) := by decide +kernel
theorem dX8_washed_67 : decode cX8_washed 67 = .ok (.getfield 19, 3) := by decide +kernel
theorem dX8_washed_70 : decode cX8_washed 70 = .ok (.getfield 94, 3) := by decide +kernel
theorem dX8_washed_73 : decode cX8_washed 73 = .ok (.ireturn, 1) := by decide +kernel
theorem dX8_life_0 : decode cX8_life 0 = .ok (.aload_n 0, 1) := by decide +kernel
theorem dX8_life_1 : decode cX8_life 1 = .ok (.iload_n 1, 1) := by decide +kernel
theorem dX8_life_2 : decode cX8_life 2 = .ok (.invokevirtual 120, 3) := by decide +kernel
theorem dX8_life_5 : decode cX8_life 5 = .ok (.ifCond .ne 5, 3) := by decide +kernel
theorem dX8_life_8 : decode cX8_life 8 = .ok (.iconst (-1), 1) := by decide +kernel
theorem dX8_life_9 : decode cX8_life 9 = .ok (.ireturn, 1) := by decide +kernel
theorem dX8_life_10 : decode cX8_life 10 = .ok (.iload_n 2, 1) := by decide +kernel
theorem dX8_life_11 : decode cX8_life 11 = .ok (.iconst 1, 1) := by decide +kernel
theorem dX8_life_12 : decode cX8_life 12 = .ok (.if_icmp .lt 10, 3) := by decide +kernel
theorem dX8_life_15 : decode cX8_life 15 = .ok (.iload_n 2, 1) := by decide +kernel
theorem dX8_life_16 : decode cX8_life 16 = .ok (.sipush 999, 3) := by decide +kernel
theorem dX8_life_19 : decode cX8_life 19 = .ok (.if_icmp .le 6, 3) := by decide +kernel
theorem dX8_life_22 : decode cX8_life 22 = .ok (.bipush (-2), 2) := by decide +kernel
theorem dX8_life_24 : decode cX8_life 24 = .ok (.ireturn, 1) := by decide +kernel
theorem dX8_life_25 : decode cX8_life 25 = .ok (.aload_n 0, 1) := by decide +kernel
theorem dX8_life_26 : decode cX8_life 26 = .ok (.getfield 19, 3) := by decide +kernel
theorem dX8_life_29 : decode cX8_life 29 = .ok (.iload_n 1, 1) := by decide +kernel
theorem dX8_life_30 : decode cX8_life 30 = .ok (.iconst 2, 1) := by decide +kernel
theorem dX8_life_31 : decode cX8_life 31 = .ok (.invokevirtual 124, 3) := by decide +kernel
theorem dX8_life_34 : decode cX8_life 34 = .ok (.istore_n 3, 1) := by decide +kernel
theorem dX8_life_35 : decode cX8_life 35 = .ok (.aload_n 0, 1) := by decide +kernel
theorem dX8_life_36 : decode cX8_life 36 = .ok (.iload_n 1, 1) := by decide +kernel
theorem dX8_life_37 : decode cX8_life 37 = .ok (.iload_n 3, 1) := by decide +kernel
theorem dX8_life_38 : decode cX8_life 38 = .ok (.invokevirtual 224, 3) := by decide +kernel
theorem dX8_life_41 : decode cX8_life 41 = .ok (.iload_n 2, 1) := by decide +kernel
theorem dX8_life_42 : decode cX8_life 42 = .ok (.if_icmp .ge 6, 3) := by decide +kernel
theorem dX8_life_45 : decode cX8_life 45 = .ok (.bipush (-9), 2) := by decide +kernel
theorem dX8_life_47 : decode cX8_life 47 = .ok (.ireturn, 1) := by decide +kernel
theorem dX8_life_48 : decode cX8_life 48 = .ok (.iconst 1, 1) := by decide +kernel
theorem dX8_life_49 : decode cX8_life 49 = .ok (.istore 4, 2) := by decide +kernel
theorem dX8_life_51 : decode cX8_life 51 = .ok (.iload_n 3, 1) := by decide +kernel
theorem dX8_life_52 : decode cX8_life 52 = .ok (.iload 4, 2) := by decide +kernel
theorem dX8_life_54 : decode cX8_life 54 = .ok (.iadd, 1) := by decide +kernel
theorem dX8_life_55 : decode cX8_life 55 = .ok (.bipush 99, 2) := by decide +kernel
theorem dX8_life_57 : decode cX8_life 57 = .ok (.if_icmp .gt 27, 3) := by decide +kernel
theorem dX8_life_60 : decode cX8_life 60 = .ok (.aload_n 0, 1) := by decide +kernel
theorem dX8_life_61 : decode cX8_life 61 = .ok (.iload_n 1, 1) := by decide +kernel
theorem dX8_life_62 : decode cX8_life 62 = .ok (.iload_n 3, 1) := by decide +kernel
theorem dX8_life_63 : decode cX8_life 63 = .ok (.iload 4, 2) := by decide +kernel
theorem dX8_life_65 : decode cX8_life 65 = .ok (.iadd, 1) := by decide +kernel
theorem dX8_life_66 : decode cX8_life 66 = .ok (.invokevirtual 224, 3) := by decide +kernel
theorem dX8_life_69 : decode cX8_life 69 = .ok (.iload_n 2, 1) := by decide +kernel
theorem dX8_life_70 : decode cX8_life 70 = .ok (.if_icmp .ge 8, 3) := by decide +kernel
theorem dX8_life_73 : decode cX8_life 73 = .ok (.iload 4, 2) := by decide +kernel
theorem dX8_life_75 : decode cX8_life 75 = .ok (.iconst 1, 1) := by decide +kernel
theorem dX8_life_76 : decode cX8_life 76 = .ok (.isub, 1) := by decide +kernel
theorem dX8_life_77 : decode cX8_life 77 = .ok (.ireturn, 1) := by decide +kernel
theorem dX8_life_78 : decode cX8_life 78 = .ok (.iinc 4 1, 3) := by decide +kernel
theorem dX8_life_81 : decode cX8_life 81 = .ok (.goto (-30), 3) := by decide +kernel
theorem dX8_life_84 : decode cX8_life 84 = .ok (.sipush 999, 3) := by decide +kernel
theorem dX8_life_87 : decode cX8_life 87 = .ok (.ireturn, 1) := by decide +kernel
theorem dX8_trace_0 : decode cX8_trace 0 = .ok (.aload_n 0, 1) := by decide +kernel
theorem dX8_trace_1 : decode cX8_trace 1 = .ok (.iload_n 1, 1) := by decide +kernel
theorem dX8_trace_2 : decode cX8_trace 2 = .ok (.invokevirtual 120, 3) := by decide +kernel
theorem dX8_trace_5 : decode cX8_trace 5 = .ok (.ifCond .eq 15, 3) := by decide +kernel
theorem dX8_trace_8 : decode cX8_trace 8 = .ok (.aload_n 0, 1) := by decide +kernel
theorem dX8_trace_9 : decode cX8_trace 9 = .ok (.getfield 19, 3) := by decide +kernel
theorem dX8_trace_12 : decode cX8_trace 12 = .ok (.iload_n 1, 1) := by decide +kernel
theorem dX8_trace_13 : decode cX8_trace 13 = .ok (.iload_n 2, 1) := by decide +kernel
theorem dX8_trace_14 : decode cX8_trace 14 = .ok (.invokevirtual 227, 3) := by decide +kernel
theorem dX8_trace_17 : decode cX8_trace 17 = .ok (.goto 4, 3) := by decide +kernel
theorem dX8_trace_20 : decode cX8_trace 20 = .ok (.iconst (-1), 1) := by decide +kernel
theorem dX8_trace_21 : decode cX8_trace 21 = .ok (.ireturn, 1) := by decide +kernel
theorem dX8_inflated_0 : decode cX8_inflated 0 = .ok (.aload_n 0, 1) := by decide +kernel
theorem dX8_inflated_1 : decode cX8_inflated 1 = .ok (.iload_n 1, 1) := by decide +kernel
theorem dX8_inflated_2 : decode cX8_inflated 2 = .ok (.invokevirtual 130, 3) := by decide +kernel
theorem dX8_inflated_5 : decode cX8_inflated 5 = .ok (.ifCond .ne 5, 3) := by decide +kernel
theorem dX8_inflated_8 : decode cX8_inflated 8 = .ok (.iconst (-1), 1) := by decide +kernel
theorem dX8_inflated_9 : decode cX8_inflated 9 = .ok (.ireturn, 1) := by decide +kernel
theorem dX8_inflated_10 : decode cX8_inflated 10 = .ok (.iload_n 2, 1) := by decide +kernel
theorem dX8_inflated_11 : decode cX8_inflated 11 = .ok (.ifCond .lt 10, 3) := by decide +kernel
theorem dX8_inflated_14 : decode cX8_inflated 14 = .ok (.iload_n 2, 1) := by decide +kernel
theorem dX8_inflated_15 : decode cX8_inflated 15 = .ok (.sipush 9999, 3) := by decide +kernel
theorem dX8_inflated_18 : decode cX8_inflated 18 = .ok (.if_icmp .le 6, 3) := by decide +kernel
theorem dX8_inflated_21 : decode cX8_inflated 21 = .ok (.bipush (-2), 2) := by decide +kernel
theorem dX8_inflated_23 : decode cX8_inflated 23 = .ok (.ireturn, 1) := by decide +kernel
theorem dX8_inflated_24 : decode cX8_inflated 24 = .ok (.aload_n 0, 1) := by decide +kernel
theorem dX8_inflated_25 : decode cX8_inflated 25 = .ok (.aload_n 0, 1) := by decide +kernel
theorem dX8_inflated_26 : decode cX8_inflated 26 = .ok (.invokevirtual 201, 3) := by decide +kernel
theorem dX8_inflated_29 : decode cX8_inflated 29 = .ok (.iconst 1, 1) := by decide +kernel
theorem dX8_inflated_30 : decode cX8_inflated 30 = .ok (.isub, 1) := by decide +kernel
theorem dX8_inflated_31 : decode cX8_inflated 31 = .ok (.invokevirtual 145, 3) := by decide +kernel
theorem dX8_inflated_34 : decode cX8_inflated 34 = .ok (.istore_n 3, 1) := by decide +kernel
theorem dX8_inflated_35 : decode cX8_inflated 35 = .ok (.iload_n 3, 1) := by decide +kernel
theorem dX8_inflated_36 : decode cX8_inflated 36 = .ok (.ifCond .gt 6, 3) := by decide +kernel
theorem dX8_inflated_39 : decode cX8_inflated 39 = .ok (.bipush (-3), 2) := by decide +kernel
theorem dX8_inflated_41 : decode cX8_inflated 41 = .ok (.ireturn, 1) := by decide +kernel
theorem dX8_inflated_42 : decode cX8_inflated 42 = .ok (.aload_n 0, 1) := by decide +kernel
theorem dX8_inflated_43 : decode cX8_inflated 43 = .ok (.getfield 26, 3) := by decide +kernel
theorem dX8_inflated_46 : decode cX8_inflated 46 = .ok (.iload_n 1, 1) := by decide +kernel
theorem dX8_inflated_47 : decode cX8_inflated 47 = .ok (.invokevirtual 133, 3) := by decide +kernel
theorem dX8_inflated_50 : decode cX8_inflated 50 = .ok (.iload_n 3, 1) := by decide +kernel
theorem dX8_inflated_51 : decode cX8_inflated 51 = .ok (.iload_n 2, 1) := by decide +kernel
theorem dX8_inflated_52 : decode cX8_inflated 52 = .ok (.iadd, 1) := by decide +kernel
theorem dX8_inflated_53 : decode cX8_inflated 53 = .ok (.imul, 1) := by decide +kernel
theorem dX8_inflated_54 : decode cX8_inflated 54 = .ok (.iload_n 3, 1) := by decide +kernel
theorem dX8_inflated_55 : decode cX8_inflated 55 = .ok (.idiv, 1) := by decide +kernel
theorem dX8_inflated_56 : decode cX8_inflated 56 = .ok (.ireturn, 1) := by decide +kernel
theorem dX8_doubt_0 : decode cX8_doubt 0 = .ok (.iload_n 1, 1) := by decide +kernel
theorem dX8_doubt_1 : decode cX8_doubt 1 = .ok (.invokestatic 230, 3) := by decide +kernel
theorem dX8_doubt_4 : decode cX8_doubt 4 = .ok (.ifCond .eq 17, 3) := by decide +kernel
theorem dX8_doubt_7 : decode cX8_doubt 7 = .ok (.iload_n 2, 1) := by decide +kernel
theorem dX8_doubt_8 : decode cX8_doubt 8 = .ok (.invokestatic 230, 3) := by decide +kernel
theorem dX8_doubt_11 : decode cX8_doubt 11 = .ok (.ifCond .eq 10, 3) := by decide +kernel
theorem dX8_doubt_14 : decode cX8_doubt 14 = .ok (.iload_n 3, 1) := by decide +kernel
theorem dX8_doubt_15 : decode cX8_doubt 15 = .ok (.invokestatic 230, 3) := by decide +kernel
theorem dX8_doubt_18 : decode cX8_doubt 18 = .ok (.ifCond .ne 7, 3) := by decide +kernel
theorem dX8_doubt_21 : decode cX8_doubt 21 = .ok (.ldc2_w 233, 3) := by decide +kernel
theorem dX8_doubt_24 : decode cX8_doubt 24 = .ok (.lreturn, 1) := by decide +kernel
theorem dX8_doubt_25 : decode cX8_doubt 25 = .ok (.iload 4, 2) := by decide +kernel
theorem dX8_doubt_27 : decode cX8_doubt 27 = .ok (.iconst 1, 1) := by decide +kernel
theorem dX8_doubt_28 : decode cX8_doubt 28 = .ok (.if_icmp .lt 22, 3) := by decide +kernel
theorem dX8_doubt_31 : decode cX8_doubt 31 = .ok (.iload 4, 2) := by decide +kernel
theorem dX8_doubt_33 : decode cX8_doubt 33 = .ok (.bipush 6, 2) := by decide +kernel
theorem dX8_doubt_35 : decode cX8_doubt 35 = .ok (.if_icmp .gt 15, 3) := by decide +kernel
theorem dX8_doubt_38 : decode cX8_doubt 38 = .ok (.iload 5, 2) := by decide +kernel
theorem dX8_doubt_40 : decode cX8_doubt 40 = .ok (.ifCond .lt 10, 3) := by decide +kernel
theorem dX8_doubt_43 : decode cX8_doubt 43 = .ok (.iload 5, 2) := by decide +kernel
theorem dX8_doubt_45 : decode cX8_doubt 45 = .ok (.iload 4, 2) := by decide +kernel
theorem dX8_doubt_47 : decode cX8_doubt 47 = .ok (.if_icmp .le 7, 3) := by decide +kernel
theorem dX8_doubt_50 : decode cX8_doubt 50 = .ok (.ldc2_w 233, 3) := by decide +kernel
theorem dX8_doubt_53 : decode cX8_doubt 53 = .ok (.lreturn, 1) := by decide +kernel
theorem dX8_doubt_54 : decode cX8_doubt 54 = .ok (.iload_n 1, 1) := by decide +kernel
theorem dX8_doubt_55 : decode cX8_doubt 55 = .ok (.i2l, 1) := by decide +kernel
theorem dX8_doubt_56 : decode cX8_doubt 56 = .ok (.iload_n 2, 1) := by decide +kernel
theorem dX8_doubt_57 : decode cX8_doubt 57 = .ok (.i2l, 1) := by decide +kernel
theorem dX8_doubt_58 : decode cX8_doubt 58 = .ok (.iload 5, 2) := by decide +kernel
theorem dX8_doubt_60 : decode cX8_doubt 60 = .ok (.invokestatic 235, 3) := by decide +kernel
theorem dX8_doubt_63 : decode cX8_doubt 63 = .ok (.lmul, 1) := by decide +kernel
theorem dX8_doubt_64 : decode cX8_doubt 64 = .ok (.bipush 10, 2) := by decide +kernel
theorem dX8_doubt_66 : decode cX8_doubt 66 = .ok (.iload_n 2, 1) := by decide +kernel
theorem dX8_doubt_67 : decode cX8_doubt 67 = .ok (.isub, 1) := by decide +kernel
theorem dX8_doubt_68 : decode cX8_doubt 68 = .ok (.i2l, 1) := by decide +kernel
theorem dX8_doubt_69 : decode cX8_doubt 69 = .ok (.iload 4, 2) := by decide +kernel
theorem dX8_doubt_71 : decode cX8_doubt 71 = .ok (.iload 5, 2) := by decide +kernel
theorem dX8_doubt_73 : decode cX8_doubt 73 = .ok (.isub, 1) := by decide +kernel
theorem dX8_doubt_74 : decode cX8_doubt 74 = .ok (.invokestatic 235, 3) := by decide +kernel
theorem dX8_doubt_77 : decode cX8_doubt 77 = .ok (.lmul, 1) := by decide +kernel
theorem dX8_doubt_78 : decode cX8_doubt 78 = .ok (.lstore 7, 2) := by decide +kernel
theorem dX8_doubt_80 : decode cX8_doubt 80 = .ok (.bipush 10, 2) := by decide +kernel
theorem dX8_doubt_82 : decode cX8_doubt 82 = .ok (.iload_n 1, 1) := by decide +kernel
theorem dX8_doubt_83 : decode cX8_doubt 83 = .ok (.isub, 1) := by decide +kernel
theorem dX8_doubt_84 : decode cX8_doubt 84 = .ok (.i2l, 1) := by decide +kernel
theorem dX8_doubt_85 : decode cX8_doubt 85 = .ok (.iload_n 3, 1) := by decide +kernel
theorem dX8_doubt_86 : decode cX8_doubt 86 = .ok (.i2l, 1) := by decide +kernel
theorem dX8_doubt_87 : decode cX8_doubt 87 = .ok (.iload 5, 2) := by decide +kernel
theorem dX8_doubt_89 : decode cX8_doubt 89 = .ok (.invokestatic 235, 3) := by decide +kernel
theorem dX8_doubt_92 : decode cX8_doubt 92 = .ok (.lmul, 1) := by decide +kernel
theorem dX8_doubt_93 : decode cX8_doubt 93 = .ok (.bipush 10, 2) := by decide +kernel
theorem dX8_doubt_95 : decode cX8_doubt 95 = .ok (.iload_n 3, 1) := by decide +kernel
theorem dX8_doubt_96 : decode cX8_doubt 96 = .ok (.isub, 1) := by decide +kernel
theorem dX8_doubt_97 : decode cX8_doubt 97 = .ok (.i2l, 1) := by decide +kernel
theorem dX8_doubt_98 : decode cX8_doubt 98 = .ok (.iload 4, 2) := by decide +kernel
theorem dX8_doubt_100 : decode cX8_doubt 100 = .ok (.iload 5, 2) := by decide +kernel
theorem dX8_doubt_102 : decode cX8_doubt 102 = .ok (.isub, 1) := by decide +kernel
theorem dX8_doubt_103 : decode cX8_doubt 103 = .ok (.invokestatic 235, 3) := by decide +kernel
theorem dX8_doubt_106 : decode cX8_doubt 106 = .ok (.lmul, 1) := by decide +kernel
theorem dX8_doubt_107 : decode cX8_doubt 107 = .ok (.lstore 9, 2) := by decide +kernel
theorem dX8_doubt_109 : decode cX8_doubt 109 = .ok (.lload 7, 2) := by decide +kernel
theorem dX8_doubt_111 : decode cX8_doubt 111 = .ok (.lload 9, 2) := by decide +kernel
theorem dX8_doubt_113 : decode cX8_doubt 113 = .ok (.ladd, 1) := by decide +kernel
theorem dX8_doubt_114 : decode cX8_doubt 114 = .ok (.lconst 0, 1) := by decide +kernel
theorem dX8_doubt_115 : decode cX8_doubt 115 = .ok (.lcmp, 1) := by decide +kernel
theorem dX8_doubt_116 : decode cX8_doubt 116 = .ok (.ifCond .gt 7, 3) := by decide +kernel
theorem dX8_doubt_119 : decode cX8_doubt 119 = .ok (.ldc2_w 239, 3) := by decide +kernel
theorem dX8_doubt_122 : decode cX8_doubt 122 = .ok (.lreturn, 1) := by decide +kernel
theorem dX8_doubt_123 : decode cX8_doubt 123 = .ok (.lload 7, 2) := by decide +kernel
theorem dX8_doubt_125 : decode cX8_doubt 125 = .ok (.lload 7, 2) := by decide +kernel
theorem dX8_doubt_127 : decode cX8_doubt 127 = .ok (.lload 9, 2) := by decide +kernel
theorem dX8_doubt_129 : decode cX8_doubt 129 = .ok (.ladd, 1) := by decide +kernel
theorem dX8_doubt_130 : decode cX8_doubt 130 = .ok (.iload 6, 2) := by decide +kernel
theorem dX8_doubt_132 : decode cX8_doubt 132 = .ok (.invokestatic 241, 3) := by decide +kernel
theorem dX8_doubt_135 : decode cX8_doubt 135 = .ok (.lreturn, 1) := by decide +kernel
theorem dX8_among_0 : decode cX8_among 0 = .ok (.iload_n 1, 1) := by decide +kernel
theorem dX8_among_1 : decode cX8_among 1 = .ok (.iconst 1, 1) := by decide +kernel
theorem dX8_among_2 : decode cX8_among 2 = .ok (.if_icmp .lt 25, 3) := by decide +kernel
theorem dX8_among_5 : decode cX8_among 5 = .ok (.iload_n 1, 1) := by decide +kernel
theorem dX8_among_6 : decode cX8_among 6 = .ok (.bipush 10, 2) := by decide +kernel
theorem dX8_among_8 : decode cX8_among 8 = .ok (.if_icmp .gt 19, 3) := by decide +kernel
theorem dX8_among_11 : decode cX8_among 11 = .ok (.iload_n 2, 1) := by decide +kernel
theorem dX8_among_12 : decode cX8_among 12 = .ok (.invokestatic 230, 3) := by decide +kernel
theorem dX8_among_15 : decode cX8_among 15 = .ok (.ifCond .eq 12, 3) := by decide +kernel
theorem dX8_among_18 : decode cX8_among 18 = .ok (.iload_n 3, 1) := by decide +kernel
theorem dX8_among_19 : decode cX8_among 19 = .ok (.ifCond .lt 8, 3) := by decide +kernel
theorem dX8_among_22 : decode cX8_among 22 = .ok (.iload_n 3, 1) := by decide +kernel
theorem dX8_among_23 : decode cX8_among 23 = .ok (.iload_n 1, 1) := by decide +kernel
theorem dX8_among_24 : decode cX8_among 24 = .ok (.if_icmp .le 7, 3) := by decide +kernel
theorem dX8_among_27 : decode cX8_among 27 = .ok (.ldc2_w 233, 3) := by decide +kernel
theorem dX8_among_30 : decode cX8_among 30 = .ok (.lreturn, 1) := by decide +kernel
theorem dX8_among_31 : decode cX8_among 31 = .ok (.lconst 1, 1) := by decide +kernel
theorem dX8_among_32 : decode cX8_among 32 = .ok (.lstore 5, 2) := by decide +kernel
theorem dX8_among_34 : decode cX8_among 34 = .ok (.lconst 0, 1) := by decide +kernel
theorem dX8_among_35 : decode cX8_among 35 = .ok (.lstore 7, 2) := by decide +kernel
theorem dX8_among_37 : decode cX8_among 37 = .ok (.iconst 0, 1) := by decide +kernel
theorem dX8_among_38 : decode cX8_among 38 = .ok (.istore 9, 2) := by decide +kernel
theorem dX8_among_40 : decode cX8_among 40 = .ok (.iload 9, 2) := by decide +kernel
theorem dX8_among_42 : decode cX8_among 42 = .ok (.iload_n 1, 1) := by decide +kernel
theorem dX8_among_43 : decode cX8_among 43 = .ok (.if_icmp .gt 59, 3) := by decide +kernel
theorem dX8_among_46 : decode cX8_among 46 = .ok (.iload 9, 2) := by decide +kernel
theorem dX8_among_48 : decode cX8_among 48 = .ok (.iload_n 3, 1) := by decide +kernel
theorem dX8_among_49 : decode cX8_among 49 = .ok (.if_icmp .lt 31, 3) := by decide +kernel
theorem dX8_among_52 : decode cX8_among 52 = .ok (.lload 7, 2) := by decide +kernel
theorem dX8_among_54 : decode cX8_among 54 = .ok (.lload 5, 2) := by decide +kernel
theorem dX8_among_56 : decode cX8_among 56 = .ok (.iload_n 2, 1) := by decide +kernel
theorem dX8_among_57 : decode cX8_among 57 = .ok (.i2l, 1) := by decide +kernel
theorem dX8_among_58 : decode cX8_among 58 = .ok (.iload 9, 2) := by decide +kernel
theorem dX8_among_60 : decode cX8_among 60 = .ok (.invokestatic 235, 3) := by decide +kernel
theorem dX8_among_63 : decode cX8_among 63 = .ok (.lmul, 1) := by decide +kernel
theorem dX8_among_64 : decode cX8_among 64 = .ok (.bipush 10, 2) := by decide +kernel
theorem dX8_among_66 : decode cX8_among 66 = .ok (.iload_n 2, 1) := by decide +kernel
theorem dX8_among_67 : decode cX8_among 67 = .ok (.isub, 1) := by decide +kernel
theorem dX8_among_68 : decode cX8_among 68 = .ok (.i2l, 1) := by decide +kernel
theorem dX8_among_69 : decode cX8_among 69 = .ok (.iload_n 1, 1) := by decide +kernel
theorem dX8_among_70 : decode cX8_among 70 = .ok (.iload 9, 2) := by decide +kernel
theorem dX8_among_72 : decode cX8_among 72 = .ok (.isub, 1) := by decide +kernel
theorem dX8_among_73 : decode cX8_among 73 = .ok (.invokestatic 235, 3) := by decide +kernel
theorem dX8_among_76 : decode cX8_among 76 = .ok (.lmul, 1) := by decide +kernel
theorem dX8_among_77 : decode cX8_among 77 = .ok (.ladd, 1) := by decide +kernel
theorem dX8_among_78 : decode cX8_among 78 = .ok (.lstore 7, 2) := by decide +kernel
theorem dX8_among_80 : decode cX8_among 80 = .ok (.lload 5, 2) := by decide +kernel
theorem dX8_among_82 : decode cX8_among 82 = .ok (.iload_n 1, 1) := by decide +kernel
theorem dX8_among_83 : decode cX8_among 83 = .ok (.iload 9, 2) := by decide +kernel
theorem dX8_among_85 : decode cX8_among 85 = .ok (.isub, 1) := by decide +kernel
theorem dX8_among_86 : decode cX8_among 86 = .ok (.i2l, 1) := by decide +kernel
theorem dX8_among_87 : decode cX8_among 87 = .ok (.lmul, 1) := by decide +kernel
theorem dX8_among_88 : decode cX8_among 88 = .ok (.iload 9, 2) := by decide +kernel
theorem dX8_among_90 : decode cX8_among 90 = .ok (.iconst 1, 1) := by decide +kernel
theorem dX8_among_91 : decode cX8_among 91 = .ok (.iadd, 1) := by decide +kernel
theorem dX8_among_92 : decode cX8_among 92 = .ok (.i2l, 1) := by decide +kernel
theorem dX8_among_93 : decode cX8_among 93 = .ok (.ldiv, 1) := by decide +kernel
theorem dX8_among_94 : decode cX8_among 94 = .ok (.lstore 5, 2) := by decide +kernel
theorem dX8_among_96 : decode cX8_among 96 = .ok (.iinc 9 1, 3) := by decide +kernel
theorem dX8_among_99 : decode cX8_among 99 = .ok (.goto (-59), 3) := by decide +kernel
theorem dX8_among_102 : decode cX8_among 102 = .ok (.lload 7, 2) := by decide +kernel
theorem dX8_among_104 : decode cX8_among 104 = .ok (.ldc2_w 245, 3) := by decide +kernel
theorem dX8_among_107 : decode cX8_among 107 = .ok (.iload_n 1, 1) := by decide +kernel
theorem dX8_among_108 : decode cX8_among 108 = .ok (.invokestatic 235, 3) := by decide +kernel
theorem dX8_among_111 : decode cX8_among 111 = .ok (.iload 4, 2) := by decide +kernel
theorem dX8_among_113 : decode cX8_among 113 = .ok (.invokestatic 241, 3) := by decide +kernel
theorem dX8_among_116 : decode cX8_among 116 = .ok (.lreturn, 1) := by decide +kernel
theorem dX8_rate_0 : decode cX8_rate 0 = .ok (.iload_n 1, 1) := by decide +kernel
theorem dX8_rate_1 : decode cX8_rate 1 = .ok (.invokestatic 247, 3) := by decide +kernel
theorem dX8_rate_4 : decode cX8_rate 4 = .ok (.ifCond .eq 10, 3) := by decide +kernel
theorem dX8_rate_7 : decode cX8_rate 7 = .ok (.iload_n 2, 1) := by decide +kernel
theorem dX8_rate_8 : decode cX8_rate 8 = .ok (.invokestatic 247, 3) := by decide +kernel
theorem dX8_rate_11 : decode cX8_rate 11 = .ok (.ifCond .ne 5, 3) := by decide +kernel
theorem dX8_rate_14 : decode cX8_rate 14 = .ok (.iconst (-1), 1) := by decide +kernel
theorem dX8_rate_15 : decode cX8_rate 15 = .ok (.ireturn, 1) := by decide +kernel
theorem dX8_rate_16 : decode cX8_rate 16 = .ok (.iload_n 1, 1) := by decide +kernel
theorem dX8_rate_17 : decode cX8_rate 17 = .ok (.iload_n 2, 1) := by decide +kernel
theorem dX8_rate_18 : decode cX8_rate 18 = .ok (.if_icmp .eq 27, 3) := by decide +kernel
theorem dX8_rate_21 : decode cX8_rate 21 = .ok (.iload_n 3, 1) := by decide +kernel
theorem dX8_rate_22 : decode cX8_rate 22 = .ok (.iconst 1, 1) := by decide +kernel
theorem dX8_rate_23 : decode cX8_rate 23 = .ok (.if_icmp .lt 22, 3) := by decide +kernel
theorem dX8_rate_26 : decode cX8_rate 26 = .ok (.iload_n 3, 1) := by decide +kernel
theorem dX8_rate_27 : decode cX8_rate 27 = .ok (.bipush 99, 2) := by decide +kernel
theorem dX8_rate_29 : decode cX8_rate 29 = .ok (.if_icmp .gt 16, 3) := by decide +kernel
theorem dX8_rate_32 : decode cX8_rate 32 = .ok (.iload 4, 2) := by decide +kernel
theorem dX8_rate_34 : decode cX8_rate 34 = .ok (.iconst 1, 1) := by decide +kernel
theorem dX8_rate_35 : decode cX8_rate 35 = .ok (.if_icmp .lt 10, 3) := by decide +kernel
theorem dX8_rate_38 : decode cX8_rate 38 = .ok (.iload 4, 2) := by decide +kernel
theorem dX8_rate_40 : decode cX8_rate 40 = .ok (.bipush 99, 2) := by decide +kernel
theorem dX8_rate_42 : decode cX8_rate 42 = .ok (.if_icmp .le 6, 3) := by decide +kernel
theorem dX8_rate_45 : decode cX8_rate 45 = .ok (.bipush (-2), 2) := by decide +kernel
theorem dX8_rate_47 : decode cX8_rate 47 = .ok (.ireturn, 1) := by decide +kernel
theorem dX8_rate_48 : decode cX8_rate 48 = .ok (.bipush 100, 2) := by decide +kernel
theorem dX8_rate_50 : decode cX8_rate 50 = .ok (.aload_n 0, 1) := by decide +kernel
theorem dX8_rate_51 : decode cX8_rate 51 = .ok (.getfield 40, 3) := by decide +kernel
theorem dX8_rate_54 : decode cX8_rate 54 = .ok (.iload_n 1, 1) := by decide +kernel
theorem dX8_rate_55 : decode cX8_rate 55 = .ok (.iload_n 2, 1) := by decide +kernel
theorem dX8_rate_56 : decode cX8_rate 56 = .ok (.invokevirtual 250, 3) := by decide +kernel
theorem dX8_rate_59 : decode cX8_rate 59 = .ok (.imul, 1) := by decide +kernel
theorem dX8_rate_60 : decode cX8_rate 60 = .ok (.aload_n 0, 1) := by decide +kernel
theorem dX8_rate_61 : decode cX8_rate 61 = .ok (.getfield 40, 3) := by decide +kernel
theorem dX8_rate_64 : decode cX8_rate 64 = .ok (.iload_n 1, 1) := by decide +kernel
theorem dX8_rate_65 : decode cX8_rate 65 = .ok (.iload_n 2, 1) := by decide +kernel
theorem dX8_rate_66 : decode cX8_rate 66 = .ok (.invokevirtual 253, 3) := by decide +kernel
theorem dX8_rate_69 : decode cX8_rate 69 = .ok (.iadd, 1) := by decide +kernel
theorem dX8_rate_70 : decode cX8_rate 70 = .ok (.istore 5, 2) := by decide +kernel
theorem dX8_rate_72 : decode cX8_rate 72 = .ok (.aload_n 0, 1) := by decide +kernel
theorem dX8_rate_73 : decode cX8_rate 73 = .ok (.getfield 40, 3) := by decide +kernel
theorem dX8_rate_76 : decode cX8_rate 76 = .ok (.iload_n 1, 1) := by decide +kernel
theorem dX8_rate_77 : decode cX8_rate 77 = .ok (.iload_n 2, 1) := by decide +kernel
theorem dX8_rate_78 : decode cX8_rate 78 = .ok (.iload_n 3, 1) := by decide +kernel
theorem dX8_rate_79 : decode cX8_rate 79 = .ok (.iload 4, 2) := by decide +kernel
theorem dX8_rate_81 : decode cX8_rate 81 = .ok (.invokevirtual 256, 3) := by decide +kernel
theorem dX8_rate_84 : decode cX8_rate 84 = .ok (.iload 5, 2) := by decide +kernel
theorem dX8_rate_86 : decode cX8_rate 86 = .ok (.ireturn, 1) := by decide +kernel
theorem dX8_ring_0 : decode cX8_ring 0 = .ok (.aload_n 0, 1) := by decide +kernel
theorem dX8_ring_1 : decode cX8_ring 1 = .ok (.invokevirtual 260, 3) := by decide +kernel
theorem dX8_ring_4 : decode cX8_ring 4 = .ok (.aload_n 0, 1) := by decide +kernel
theorem dX8_ring_5 : decode cX8_ring 5 = .ok (.getfield 67, 3) := by decide +kernel
theorem dX8_ring_8 : decode cX8_ring 8 = .ok (.getfield 263, 3) := by decide +kernel
theorem dX8_ring_11 : decode cX8_ring 11 = .ok (.aload_n 0, 1) := by decide +kernel
theorem dX8_ring_12 : decode cX8_ring 12 = .ok (.getfield 67, 3) := by decide +kernel
theorem dX8_ring_15 : decode cX8_ring 15 = .ok (.getfield 267, 3) := by decide +kernel
theorem dX8_ring_18 : decode cX8_ring 18 = .ok (.iload_n 1, 1) := by decide +kernel
theorem dX8_ring_19 : decode cX8_ring 19 = .ok (.invokestatic 241, 3) := by decide +kernel
theorem dX8_ring_22 : decode cX8_ring 22 = .ok (.lreturn, 1) := by decide +kernel
theorem dX8_ringAt_0 : decode cX8_ringAt 0 = .ok (.aload_n 0, 1) := by decide +kernel
theorem dX8_ringAt_1 : decode cX8_ringAt 1 = .ok (.invokevirtual 260, 3) := by decide +kernel
theorem dX8_ringAt_4 : decode cX8_ringAt 4 = .ok (.iload_n 1, 1) := by decide +kernel
theorem dX8_ringAt_5 : decode cX8_ringAt 5 = .ok (.ifCond .lt 14, 3) := by decide +kernel
theorem dX8_ringAt_8 : decode cX8_ringAt 8 = .ok (.iload_n 1, 1) := by decide +kernel
theorem dX8_ringAt_9 : decode cX8_ringAt 9 = .ok (.aload_n 0, 1) := by decide +kernel
theorem dX8_ringAt_10 : decode cX8_ringAt 10 = .ok (.getfield 67, 3) := by decide +kernel
theorem dX8_ringAt_13 : decode cX8_ringAt 13 = .ok (.getfield 270, 3) := by decide +kernel
theorem dX8_ringAt_16 : decode cX8_ringAt 16 = .ok (.if_icmp .lt 8, 3) := by decide +kernel
theorem dX8_ringAt_19 : decode cX8_ringAt 19 = .ok (.bipush (-9), 2) := by decide +kernel
theorem dX8_ringAt_21 : decode cX8_ringAt 21 = .ok (.goto 21, 3) := by decide +kernel
theorem dX8_ringAt_24 : decode cX8_ringAt 24 = .ok (.aload_n 0, 1) := by decide +kernel
theorem dX8_ringAt_25 : decode cX8_ringAt 25 = .ok (.getfield 67, 3) := by decide +kernel
theorem dX8_ringAt_28 : decode cX8_ringAt 28 = .ok (.getfield 273, 3) := by decide +kernel
theorem dX8_ringAt_31 : decode cX8_ringAt 31 = .ok (.aload_n 0, 1) := by decide +kernel
theorem dX8_ringAt_32 : decode cX8_ringAt 32 = .ok (.getfield 67, 3) := by decide +kernel
theorem dX8_ringAt_35 : decode cX8_ringAt 35 = .ok (.getfield 270, 3) := by decide +kernel
theorem dX8_ringAt_38 : decode cX8_ringAt 38 = .ok (.iload_n 1, 1) := by decide +kernel
theorem dX8_ringAt_39 : decode cX8_ringAt 39 = .ok (.invokestatic 276, 3) := by decide +kernel
theorem dX8_ringAt_42 : decode cX8_ringAt 42 = .ok (.ireturn, 1) := by decide +kernel
theorem dX8_should_0 : decode cX8_should 0 = .ok (.aload_n 0, 1) := by decide +kernel
theorem dX8_should_1 : decode cX8_should 1 = .ok (.iload_n 1, 1) := by decide +kernel
theorem dX8_should_2 : decode cX8_should 2 = .ok (.invokevirtual 120, 3) := by decide +kernel
theorem dX8_should_5 : decode cX8_should 5 = .ok (.ifCond .ne 5, 3) := by decide +kernel
theorem dX8_should_8 : decode cX8_should 8 = .ok (.iconst (-1), 1) := by decide +kernel
theorem dX8_should_9 : decode cX8_should 9 = .ok (.ireturn, 1) := by decide +kernel
theorem dX8_should_10 : decode cX8_should 10 = .ok (.iload_n 2, 1) := by decide +kernel
theorem dX8_should_11 : decode cX8_should 11 = .ok (.ifCond .lt 9, 3) := by decide +kernel
theorem dX8_should_14 : decode cX8_should 14 = .ok (.iload_n 2, 1) := by decide +kernel
theorem dX8_should_15 : decode cX8_should 15 = .ok (.bipush 99, 2) := by decide +kernel
theorem dX8_should_17 : decode cX8_should 17 = .ok (.if_icmp .le 6, 3) := by decide +kernel
theorem dX8_should_20 : decode cX8_should 20 = .ok (.bipush (-2), 2) := by decide +kernel
theorem dX8_should_22 : decode cX8_should 22 = .ok (.ireturn, 1) := by decide +kernel
theorem dX8_should_23 : decode cX8_should 23 = .ok (.aload_n 0, 1) := by decide +kernel
theorem dX8_should_24 : decode cX8_should 24 = .ok (.getfield 19, 3) := by decide +kernel
theorem dX8_should_27 : decode cX8_should 27 = .ok (.iload_n 1, 1) := by decide +kernel
theorem dX8_should_28 : decode cX8_should 28 = .ok (.iconst 5, 1) := by decide +kernel
theorem dX8_should_29 : decode cX8_should 29 = .ok (.invokevirtual 124, 3) := by decide +kernel
theorem dX8_should_32 : decode cX8_should 32 = .ok (.istore_n 3, 1) := by decide +kernel
theorem dX8_should_33 : decode cX8_should 33 = .ok (.aload_n 0, 1) := by decide +kernel
theorem dX8_should_34 : decode cX8_should 34 = .ok (.getfield 19, 3) := by decide +kernel
theorem dX8_should_37 : decode cX8_should 37 = .ok (.iload_n 1, 1) := by decide +kernel
theorem dX8_should_38 : decode cX8_should 38 = .ok (.iconst 5, 1) := by decide +kernel
theorem dX8_should_39 : decode cX8_should 39 = .ok (.iload_n 2, 1) := by decide +kernel
theorem dX8_should_40 : decode cX8_should 40 = .ok (.invokevirtual 151, 3) := by decide +kernel
theorem dX8_should_43 : decode cX8_should 43 = .ok (.iload_n 3, 1) := by decide +kernel
theorem dX8_should_44 : decode cX8_should 44 = .ok (.ireturn, 1) := by decide +kernel
theorem dX8_stolen_0 : decode cX8_stolen 0 = .ok (.iconst 0, 1) := by decide +kernel
theorem dX8_stolen_1 : decode cX8_stolen 1 = .ok (.istore_n 1, 1) := by decide +kernel
theorem dX8_stolen_2 : decode cX8_stolen 2 = .ok (.iconst 0, 1) := by decide +kernel
theorem dX8_stolen_3 : decode cX8_stolen 3 = .ok (.istore_n 2, 1) := by decide +kernel
theorem dX8_stolen_4 : decode cX8_stolen 4 = .ok (.iload_n 2, 1) := by decide +kernel
theorem dX8_stolen_5 : decode cX8_stolen 5 = .ok (.aload_n 0, 1) := by decide +kernel
theorem dX8_stolen_6 : decode cX8_stolen 6 = .ok (.getfield 19, 3) := by decide +kernel
theorem dX8_stolen_9 : decode cX8_stolen 9 = .ok (.getfield 94, 3) := by decide +kernel
theorem dX8_stolen_12 : decode cX8_stolen 12 = .ok (.if_icmp .ge 26, 3) := by decide +kernel
theorem dX8_stolen_15 : decode cX8_stolen 15 = .ok (.aload_n 0, 1) := by decide +kernel
theorem dX8_stolen_16 : decode cX8_stolen 16 = .ok (.getfield 19, 3) := by decide +kernel
theorem dX8_stolen_19 : decode cX8_stolen 19 = .ok (.iload_n 2, 1) := by decide +kernel
theorem dX8_stolen_20 : decode cX8_stolen 20 = .ok (.invokevirtual 279, 3) := by decide +kernel
theorem dX8_stolen_23 : decode cX8_stolen 23 = .ok (.ifCond .le 9, 3) := by decide +kernel
theorem dX8_stolen_26 : decode cX8_stolen 26 = .ok (.iload_n 1, 1) := by decide +kernel
theorem dX8_stolen_27 : decode cX8_stolen 27 = .ok (.iconst 1, 1) := by decide +kernel
theorem dX8_stolen_28 : decode cX8_stolen 28 = .ok (.iload_n 2, 1) := by decide +kernel
theorem dX8_stolen_29 : decode cX8_stolen 29 = .ok (.ishl, 1) := by decide +kernel
theorem dX8_stolen_30 : decode cX8_stolen 30 = .ok (.ior, 1) := by decide +kernel
theorem dX8_stolen_31 : decode cX8_stolen 31 = .ok (.istore_n 1, 1) := by decide +kernel
theorem dX8_stolen_32 : decode cX8_stolen 32 = .ok (.iinc 2 1, 3) := by decide +kernel
theorem dX8_stolen_35 : decode cX8_stolen 35 = .ok (.goto (-31), 3) := by decide +kernel
theorem dX8_stolen_38 : decode cX8_stolen 38 = .ok (.iload_n 1, 1) := by decide +kernel
theorem dX8_stolen_39 : decode cX8_stolen 39 = .ok (.ireturn, 1) := by decide +kernel
theorem dX8_thief_0 : decode cX8_thief 0 = .ok (.iconst 0, 1) := by decide +kernel
theorem dX8_thief_1 : decode cX8_thief 1 = .ok (.istore_n 1, 1) := by decide +kernel
theorem dX8_thief_2 : decode cX8_thief 2 = .ok (.bipush (-9), 2) := by decide +kernel
theorem dX8_thief_4 : decode cX8_thief 4 = .ok (.istore_n 2, 1) := by decide +kernel
theorem dX8_thief_5 : decode cX8_thief 5 = .ok (.iconst 0, 1) := by decide +kernel
theorem dX8_thief_6 : decode cX8_thief 6 = .ok (.istore_n 3, 1) := by decide +kernel
theorem dX8_thief_7 : decode cX8_thief 7 = .ok (.iload_n 3, 1) := by decide +kernel
theorem dX8_thief_8 : decode cX8_thief 8 = .ok (.iconst 4, 1) := by decide +kernel
theorem dX8_thief_9 : decode cX8_thief 9 = .ok (.if_icmp .ge 30, 3) := by decide +kernel
theorem dX8_thief_12 : decode cX8_thief 12 = .ok (.aload_n 0, 1) := by decide +kernel
theorem dX8_thief_13 : decode cX8_thief 13 = .ok (.getfield 19, 3) := by decide +kernel
theorem dX8_thief_16 : decode cX8_thief 16 = .ok (.iload_n 3, 1) := by decide +kernel
theorem dX8_thief_17 : decode cX8_thief 17 = .ok (.invokevirtual 282, 3) := by decide +kernel
theorem dX8_thief_20 : decode cX8_thief 20 = .ok (.istore 4, 2) := by decide +kernel
theorem dX8_thief_22 : decode cX8_thief 22 = .ok (.iload 4, 2) := by decide +kernel
theorem dX8_thief_24 : decode cX8_thief 24 = .ok (.iload_n 1, 1) := by decide +kernel
theorem dX8_thief_25 : decode cX8_thief 25 = .ok (.if_icmp .le 8, 3) := by decide +kernel
theorem dX8_thief_28 : decode cX8_thief 28 = .ok (.iload 4, 2) := by decide +kernel
theorem dX8_thief_30 : decode cX8_thief 30 = .ok (.istore_n 1, 1) := by decide +kernel
theorem dX8_thief_31 : decode cX8_thief 31 = .ok (.iload_n 3, 1) := by decide +kernel
theorem dX8_thief_32 : decode cX8_thief 32 = .ok (.istore_n 2, 1) := by decide +kernel
theorem dX8_thief_33 : decode cX8_thief 33 = .ok (.iinc 3 1, 3) := by decide +kernel
theorem dX8_thief_36 : decode cX8_thief 36 = .ok (.goto (-29), 3) := by decide +kernel
theorem dX8_thief_39 : decode cX8_thief 39 = .ok (.iload_n 2, 1) := by decide +kernel
theorem dX8_thief_40 : decode cX8_thief 40 = .ok (.ireturn, 1) := by decide +kernel
theorem dX8_keep_0 : decode cX8_keep 0 = .ok (.aload_n 0, 1) := by decide +kernel
theorem dX8_keep_1 : decode cX8_keep 1 = .ok (.iload_n 1, 1) := by decide +kernel
theorem dX8_keep_2 : decode cX8_keep 2 = .ok (.invokevirtual 285, 3) := by decide +kernel
theorem dX8_keep_5 : decode cX8_keep 5 = .ok (.ifCond .ne 5, 3) := by decide +kernel
theorem dX8_keep_8 : decode cX8_keep 8 = .ok (.iconst (-1), 1) := by decide +kernel
theorem dX8_keep_9 : decode cX8_keep 9 = .ok (.ireturn, 1) := by decide +kernel
theorem dX8_keep_10 : decode cX8_keep 10 = .ok (.aload_n 0, 1) := by decide +kernel
theorem dX8_keep_11 : decode cX8_keep 11 = .ok (.getfield 46, 3) := by decide +kernel
theorem dX8_keep_14 : decode cX8_keep 14 = .ok (.iload_n 1, 1) := by decide +kernel
theorem dX8_keep_15 : decode cX8_keep 15 = .ok (.aaload, 1) := by decide +kernel
theorem dX8_keep_16 : decode cX8_keep 16 = .ok (.aload_n 0, 1) := by decide +kernel
theorem dX8_keep_17 : decode cX8_keep 17 = .ok (.getfield 19, 3) := by decide +kernel
theorem dX8_keep_20 : decode cX8_keep 20 = .ok (.aload_n 0, 1) := by decide +kernel
theorem dX8_keep_21 : decode cX8_keep 21 = .ok (.getfield 33, 3) := by decide +kernel
theorem dX8_keep_24 : decode cX8_keep 24 = .ok (.aload_n 0, 1) := by decide +kernel
theorem dX8_keep_25 : decode cX8_keep 25 = .ok (.getfield 40, 3) := by decide +kernel
theorem dX8_keep_28 : decode cX8_keep 28 = .ok (.invokevirtual 288, 3) := by decide +kernel
theorem dX8_keep_31 : decode cX8_keep 31 = .ok (.aload_n 0, 1) := by decide +kernel
theorem dX8_keep_32 : decode cX8_keep 32 = .ok (.getfield 19, 3) := by decide +kernel
theorem dX8_keep_35 : decode cX8_keep 35 = .ok (.getfield 94, 3) := by decide +kernel
theorem dX8_keep_38 : decode cX8_keep 38 = .ok (.ireturn, 1) := by decide +kernel
theorem dX8_again_0 : decode cX8_again 0 = .ok (.aload_n 0, 1) := by decide +kernel
theorem dX8_again_1 : decode cX8_again 1 = .ok (.iload_n 1, 1) := by decide +kernel
theorem dX8_again_2 : decode cX8_again 2 = .ok (.invokevirtual 285, 3) := by decide +kernel
theorem dX8_again_5 : decode cX8_again 5 = .ok (.ifCond .ne 5, 3) := by decide +kernel
theorem dX8_again_8 : decode cX8_again 8 = .ok (.iconst (-1), 1) := by decide +kernel
theorem dX8_again_9 : decode cX8_again 9 = .ok (.ireturn, 1) := by decide +kernel
theorem dX8_again_10 : decode cX8_again 10 = .ok (.aload_n 0, 1) := by decide +kernel
theorem dX8_again_11 : decode cX8_again 11 = .ok (.getfield 46, 3) := by decide +kernel
theorem dX8_again_14 : decode cX8_again 14 = .ok (.iload_n 1, 1) := by decide +kernel
theorem dX8_again_15 : decode cX8_again 15 = .ok (.aaload, 1) := by decide +kernel
theorem dX8_again_16 : decode cX8_again 16 = .ok (.getfield 292, 3) := by decide +kernel
theorem dX8_again_19 : decode cX8_again 19 = .ok (.ifCond .ne 6, 3) := by decide +kernel
theorem dX8_again_22 : decode cX8_again 22 = .ok (.bipush (-3), 2) := by decide +kernel
theorem dX8_again_24 : decode cX8_again 24 = .ok (.ireturn, 1) := by decide +kernel
theorem dX8_again_25 : decode cX8_again 25 = .ok (.aload_n 0, 1) := by decide +kernel
theorem dX8_again_26 : decode cX8_again 26 = .ok (.getfield 46, 3) := by decide +kernel
theorem dX8_again_29 : decode cX8_again 29 = .ok (.iload_n 1, 1) := by decide +kernel
theorem dX8_again_30 : decode cX8_again 30 = .ok (.aaload, 1) := by decide +kernel
theorem dX8_again_31 : decode cX8_again 31 = .ok (.aload_n 0, 1) := by decide +kernel
theorem dX8_again_32 : decode cX8_again 32 = .ok (.getfield 19, 3) := by decide +kernel
theorem dX8_again_35 : decode cX8_again 35 = .ok (.aload_n 0, 1) := by decide +kernel
theorem dX8_again_36 : decode cX8_again 36 = .ok (.getfield 33, 3) := by decide +kernel
theorem dX8_again_39 : decode cX8_again 39 = .ok (.aload_n 0, 1) := by decide +kernel
theorem dX8_again_40 : decode cX8_again 40 = .ok (.getfield 40, 3) := by decide +kernel
theorem dX8_again_43 : decode cX8_again 43 = .ok (.invokevirtual 295, 3) := by decide +kernel
theorem dX8_again_46 : decode cX8_again 46 = .ok (.aload_n 0, 1) := by decide +kernel
theorem dX8_again_47 : decode cX8_again 47 = .ok (.getfield 19, 3) := by decide +kernel
theorem dX8_again_50 : decode cX8_again 50 = .ok (.getfield 94, 3) := by decide +kernel
theorem dX8_again_53 : decode cX8_again 53 = .ok (.ireturn, 1) := by decide +kernel
theorem dX8_isTooth_0 : decode cX8_isTooth 0 = .ok (.iload_n 1, 1) := by decide +kernel
theorem dX8_isTooth_1 : decode cX8_isTooth 1 = .ok (.ifCond .lt 18, 3) := by decide +kernel
theorem dX8_isTooth_4 : decode cX8_isTooth 4 = .ok (.iload_n 1, 1) := by decide +kernel
theorem dX8_isTooth_5 : decode cX8_isTooth 5 = .ok (.aload_n 0, 1) := by decide +kernel
theorem dX8_isTooth_6 : decode cX8_isTooth 6 = .ok (.getfield 19, 3) := by decide +kernel
theorem dX8_isTooth_9 : decode cX8_isTooth 9 = .ok (.getfield 94, 3) := by decide +kernel
theorem dX8_isTooth_12 : decode cX8_isTooth 12 = .ok (.if_icmp .ge 7, 3) := by decide +kernel
theorem dX8_isTooth_15 : decode cX8_isTooth 15 = .ok (.iconst 1, 1) := by decide +kernel
theorem dX8_isTooth_16 : decode cX8_isTooth 16 = .ok (.goto 4, 3) := by decide +kernel
theorem dX8_isTooth_19 : decode cX8_isTooth 19 = .ok (.iconst 0, 1) := by decide +kernel
theorem dX8_isTooth_20 : decode cX8_isTooth 20 = .ok (.ireturn, 1) := by decide +kernel
theorem dX8_isGood_0 : decode cX8_isGood 0 = .ok (.iload_n 1, 1) := by decide +kernel
theorem dX8_isGood_1 : decode cX8_isGood 1 = .ok (.ifCond .lt 18, 3) := by decide +kernel
theorem dX8_isGood_4 : decode cX8_isGood 4 = .ok (.iload_n 1, 1) := by decide +kernel
theorem dX8_isGood_5 : decode cX8_isGood 5 = .ok (.aload_n 0, 1) := by decide +kernel
theorem dX8_isGood_6 : decode cX8_isGood 6 = .ok (.getfield 26, 3) := by decide +kernel
theorem dX8_isGood_9 : decode cX8_isGood 9 = .ok (.getfield 97, 3) := by decide +kernel
theorem dX8_isGood_12 : decode cX8_isGood 12 = .ok (.if_icmp .ge 7, 3) := by decide +kernel
theorem dX8_isGood_15 : decode cX8_isGood 15 = .ok (.iconst 1, 1) := by decide +kernel
theorem dX8_isGood_16 : decode cX8_isGood 16 = .ok (.goto 4, 3) := by decide +kernel
theorem dX8_isGood_19 : decode cX8_isGood 19 = .ok (.iconst 0, 1) := by decide +kernel
theorem dX8_isGood_20 : decode cX8_isGood 20 = .ok (.ireturn, 1) := by decide +kernel
theorem dX8_isSlot_0 : decode cX8_isSlot 0 = .ok (.iload_n 1, 1) := by decide +kernel
theorem dX8_isSlot_1 : decode cX8_isSlot 1 = .ok (.ifCond .lt 25, 3) := by decide +kernel
theorem dX8_isSlot_4 : decode cX8_isSlot 4 = .ok (.iload_n 1, 1) := by decide +kernel
theorem dX8_isSlot_5 : decode cX8_isSlot 5 = .ok (.aload_n 0, 1) := by decide +kernel
theorem dX8_isSlot_6 : decode cX8_isSlot 6 = .ok (.getfield 46, 3) := by decide +kernel
theorem dX8_isSlot_9 : decode cX8_isSlot 9 = .ok (.arraylength, 1) := by decide +kernel
theorem dX8_isSlot_10 : decode cX8_isSlot 10 = .ok (.if_icmp .ge 16, 3) := by decide +kernel
theorem dX8_isSlot_13 : decode cX8_isSlot 13 = .ok (.aload_n 0, 1) := by decide +kernel
theorem dX8_isSlot_14 : decode cX8_isSlot 14 = .ok (.getfield 46, 3) := by decide +kernel
theorem dX8_isSlot_17 : decode cX8_isSlot 17 = .ok (.iload_n 1, 1) := by decide +kernel
theorem dX8_isSlot_18 : decode cX8_isSlot 18 = .ok (.aaload, 1) := by decide +kernel
theorem dX8_isSlot_19 : decode cX8_isSlot 19 = .ok (.ifnull 7, 3) := by decide +kernel
theorem dX8_isSlot_22 : decode cX8_isSlot 22 = .ok (.iconst 1, 1) := by decide +kernel
theorem dX8_isSlot_23 : decode cX8_isSlot 23 = .ok (.goto 4, 3) := by decide +kernel
theorem dX8_isSlot_26 : decode cX8_isSlot 26 = .ok (.iconst 0, 1) := by decide +kernel
theorem dX8_isSlot_27 : decode cX8_isSlot 27 = .ok (.ireturn, 1) := by decide +kernel
theorem dX8_isPerson_0 : decode cX8_isPerson 0 = .ok (.iload_n 0, 1) := by decide +kernel
theorem dX8_isPerson_1 : decode cX8_isPerson 1 = .ok (.ifCond .lt 12, 3) := by decide +kernel
theorem dX8_isPerson_4 : decode cX8_isPerson 4 = .ok (.iload_n 0, 1) := by decide +kernel
theorem dX8_isPerson_5 : decode cX8_isPerson 5 = .ok (.iconst 4, 1) := by decide +kernel
theorem dX8_isPerson_6 : decode cX8_isPerson 6 = .ok (.if_icmp .ge 7, 3) := by decide +kernel
theorem dX8_isPerson_9 : decode cX8_isPerson 9 = .ok (.iconst 1, 1) := by decide +kernel
theorem dX8_isPerson_10 : decode cX8_isPerson 10 = .ok (.goto 4, 3) := by decide +kernel
theorem dX8_isPerson_13 : decode cX8_isPerson 13 = .ok (.iconst 0, 1) := by decide +kernel
theorem dX8_isPerson_14 : decode cX8_isPerson 14 = .ok (.ireturn, 1) := by decide +kernel
theorem dX8_isMoney_0 : decode cX8_isMoney 0 = .ok (.iload_n 0, 1) := by decide +kernel
theorem dX8_isMoney_1 : decode cX8_isMoney 1 = .ok (.ifCond .lt 12, 3) := by decide +kernel
theorem dX8_isMoney_4 : decode cX8_isMoney 4 = .ok (.iload_n 0, 1) := by decide +kernel
theorem dX8_isMoney_5 : decode cX8_isMoney 5 = .ok (.iconst 4, 1) := by decide +kernel
theorem dX8_isMoney_6 : decode cX8_isMoney 6 = .ok (.if_icmp .ge 7, 3) := by decide +kernel
theorem dX8_isMoney_9 : decode cX8_isMoney 9 = .ok (.iconst 1, 1) := by decide +kernel
theorem dX8_isMoney_10 : decode cX8_isMoney 10 = .ok (.goto 4, 3) := by decide +kernel
theorem dX8_isMoney_13 : decode cX8_isMoney 13 = .ok (.iconst 0, 1) := by decide +kernel
theorem dX8_isMoney_14 : decode cX8_isMoney 14 = .ok (.ireturn, 1) := by decide +kernel
theorem dX8_isPrice_0 : decode cX8_isPrice 0 = .ok (.iload_n 0, 1) := by decide +kernel
theorem dX8_isPrice_1 : decode cX8_isPrice 1 = .ok (.ifCond .lt 14, 3) := by decide +kernel
theorem dX8_isPrice_4 : decode cX8_isPrice 4 = .ok (.iload_n 0, 1) := by decide +kernel
theorem dX8_isPrice_5 : decode cX8_isPrice 5 = .ok (.sipush 999, 3) := by decide +kernel
theorem dX8_isPrice_8 : decode cX8_isPrice 8 = .ok (.if_icmp .gt 7, 3) := by decide +kernel
theorem dX8_isPrice_11 : decode cX8_isPrice 11 = .ok (.iconst 1, 1) := by decide +kernel
theorem dX8_isPrice_12 : decode cX8_isPrice 12 = .ok (.goto 4, 3) := by decide +kernel
theorem dX8_isPrice_15 : decode cX8_isPrice 15 = .ok (.iconst 0, 1) := by decide +kernel
theorem dX8_isPrice_16 : decode cX8_isPrice 16 = .ok (.ireturn, 1) := by decide +kernel
theorem dX8_isTenths_0 : decode cX8_isTenths 0 = .ok (.iload_n 0, 1) := by decide +kernel
theorem dX8_isTenths_1 : decode cX8_isTenths 1 = .ok (.ifCond .lt 13, 3) := by decide +kernel
theorem dX8_isTenths_4 : decode cX8_isTenths 4 = .ok (.iload_n 0, 1) := by decide +kernel
theorem dX8_isTenths_5 : decode cX8_isTenths 5 = .ok (.bipush 10, 2) := by decide +kernel
theorem dX8_isTenths_7 : decode cX8_isTenths 7 = .ok (.if_icmp .gt 7, 3) := by decide +kernel
theorem dX8_isTenths_10 : decode cX8_isTenths 10 = .ok (.iconst 1, 1) := by decide +kernel
theorem dX8_isTenths_11 : decode cX8_isTenths 11 = .ok (.goto 4, 3) := by decide +kernel
theorem dX8_isTenths_14 : decode cX8_isTenths 14 = .ok (.iconst 0, 1) := by decide +kernel
theorem dX8_isTenths_15 : decode cX8_isTenths 15 = .ok (.ireturn, 1) := by decide +kernel
theorem dX8_paymentRefusal_0 : decode cX8_paymentRefusal 0 = .ok (.iload_n 0, 1) := by decide +kernel
theorem dX8_paymentRefusal_1 : decode cX8_paymentRefusal 1 = .ok (.invokestatic 139, 3) := by decide +kernel
theorem dX8_paymentRefusal_4 : decode cX8_paymentRefusal 4 = .ok (.ifCond .eq 10, 3) := by decide +kernel
theorem dX8_paymentRefusal_7 : decode cX8_paymentRefusal 7 = .ok (.iload_n 1, 1) := by decide +kernel
theorem dX8_paymentRefusal_8 : decode cX8_paymentRefusal 8 = .ok (.invokestatic 139, 3) := by decide +kernel
theorem dX8_paymentRefusal_11 : decode cX8_paymentRefusal 11 = .ok (.ifCond .ne 5, 3) := by decide +kernel
theorem dX8_paymentRefusal_14 : decode cX8_paymentRefusal 14 = .ok (.iconst (-1), 1) := by decide +kernel
theorem dX8_paymentRefusal_15 : decode cX8_paymentRefusal 15 = .ok (.ireturn, 1) := by decide +kernel
theorem dX8_paymentRefusal_16 : decode cX8_paymentRefusal 16 = .ok (.iload_n 0, 1) := by decide +kernel
theorem dX8_paymentRefusal_17 : decode cX8_paymentRefusal 17 = .ok (.iload_n 1, 1) := by decide +kernel
theorem dX8_paymentRefusal_18 : decode cX8_paymentRefusal 18 = .ok (.if_icmp .eq 10, 3) := by decide +kernel
theorem dX8_paymentRefusal_21 : decode cX8_paymentRefusal 21 = .ok (.iload_n 2, 1) := by decide +kernel
theorem dX8_paymentRefusal_22 : decode cX8_paymentRefusal 22 = .ok (.invokestatic 186, 3) := by decide +kernel
theorem dX8_paymentRefusal_25 : decode cX8_paymentRefusal 25 = .ok (.ifCond .ne 8, 3) := by decide +kernel
theorem dX8_paymentRefusal_28 : decode cX8_paymentRefusal 28 = .ok (.bipush (-2), 2) := by decide +kernel
theorem dX8_paymentRefusal_30 : decode cX8_paymentRefusal 30 = .ok (.goto 4, 3) := by decide +kernel
theorem dX8_paymentRefusal_33 : decode cX8_paymentRefusal 33 = .ok (.iconst 0, 1) := by decide +kernel
theorem dX8_paymentRefusal_34 : decode cX8_paymentRefusal 34 = .ok (.ireturn, 1) := by decide +kernel
theorem dX8_readPart_0 : decode cX8_readPart 0 = .ok (.aload_n 0, 1) := by decide +kernel
theorem dX8_readPart_1 : decode cX8_readPart 1 = .ok (.getfield 10, 3) := by decide +kernel
theorem dX8_readPart_4 : decode cX8_readPart 4 = .ok (.iload_n 1, 1) := by decide +kernel
theorem dX8_readPart_5 : decode cX8_readPart 5 = .ok (.invokevirtual 105, 3) := by decide +kernel
theorem dX8_readPart_8 : decode cX8_readPart 8 = .ok (.istore_n 2, 1) := by decide +kernel
theorem dX8_readPart_9 : decode cX8_readPart 9 = .ok (.iload_n 2, 1) := by decide +kernel
theorem dX8_readPart_10 : decode cX8_readPart 10 = .ok (.invokestatic 298, 3) := by decide +kernel
theorem dX8_readPart_13 : decode cX8_readPart 13 = .ok (.ifCond .eq 112, 3) := by decide +kernel
theorem dX8_readPart_16 : decode cX8_readPart 16 = .ok (.aload_n 0, 1) := by decide +kernel
theorem dX8_readPart_17 : decode cX8_readPart 17 = .ok (.getfield 19, 3) := by decide +kernel
theorem dX8_readPart_20 : decode cX8_readPart 20 = .ok (.aload_n 0, 1) := by decide +kernel
theorem dX8_readPart_21 : decode cX8_readPart 21 = .ok (.getfield 10, 3) := by decide +kernel
theorem dX8_readPart_24 : decode cX8_readPart 24 = .ok (.iload_n 1, 1) := by decide +kernel
theorem dX8_readPart_25 : decode cX8_readPart 25 = .ok (.iconst 1, 1) := by decide +kernel
theorem dX8_readPart_26 : decode cX8_readPart 26 = .ok (.iadd, 1) := by decide +kernel
theorem dX8_readPart_27 : decode cX8_readPart 27 = .ok (.invokevirtual 90, 3) := by decide +kernel
theorem dX8_readPart_30 : decode cX8_readPart 30 = .ok (.aload_n 0, 1) := by decide +kernel
theorem dX8_readPart_31 : decode cX8_readPart 31 = .ok (.getfield 10, 3) := by decide +kernel
theorem dX8_readPart_34 : decode cX8_readPart 34 = .ok (.iload_n 1, 1) := by decide +kernel
theorem dX8_readPart_35 : decode cX8_readPart 35 = .ok (.iconst 2, 1) := by decide +kernel
theorem dX8_readPart_36 : decode cX8_readPart 36 = .ok (.iadd, 1) := by decide +kernel
theorem dX8_readPart_37 : decode cX8_readPart 37 = .ok (.invokevirtual 105, 3) := by decide +kernel
theorem dX8_readPart_40 : decode cX8_readPart 40 = .ok (.bipush 76, 2) := by decide +kernel
theorem dX8_readPart_42 : decode cX8_readPart 42 = .ok (.if_icmp .ne 7, 3) := by decide +kernel
theorem dX8_readPart_45 : decode cX8_readPart 45 = .ok (.iconst 1, 1) := by decide +kernel
theorem dX8_readPart_46 : decode cX8_readPart 46 = .ok (.goto 4, 3) := by decide +kernel
theorem dX8_readPart_49 : decode cX8_readPart 49 = .ok (.iconst 0, 1) := by decide +kernel
theorem dX8_readPart_50 : decode cX8_readPart 50 = .ok (.aload_n 0, 1) := by decide +kernel
theorem dX8_readPart_51 : decode cX8_readPart 51 = .ok (.getfield 10, 3) := by decide +kernel
theorem dX8_readPart_54 : decode cX8_readPart 54 = .ok (.iload_n 1, 1) := by decide +kernel
theorem dX8_readPart_55 : decode cX8_readPart 55 = .ok (.iconst 4, 1) := by decide +kernel
theorem dX8_readPart_56 : decode cX8_readPart 56 = .ok (.iadd, 1) := by decide +kernel
theorem dX8_readPart_57 : decode cX8_readPart 57 = .ok (.invokevirtual 90, 3) := by decide +kernel
theorem dX8_readPart_60 : decode cX8_readPart 60 = .ok (.invokevirtual 301, 3) := by decide +kernel
theorem dX8_readPart_63 : decode cX8_readPart 63 = .ok (.istore_n 3, 1) := by decide +kernel
theorem dX8_readPart_64 : decode cX8_readPart 64 = .ok (.aload_n 0, 1) := by decide +kernel
theorem dX8_readPart_65 : decode cX8_readPart 65 = .ok (.getfield 19, 3) := by decide +kernel
theorem dX8_readPart_68 : decode cX8_readPart 68 = .ok (.iload_n 3, 1) := by decide +kernel
theorem dX8_readPart_69 : decode cX8_readPart 69 = .ok (.iconst 2, 1) := by decide +kernel
theorem dX8_readPart_70 : decode cX8_readPart 70 = .ok (.aload_n 0, 1) := by decide +kernel
theorem dX8_readPart_71 : decode cX8_readPart 71 = .ok (.getfield 10, 3) := by decide +kernel
theorem dX8_readPart_74 : decode cX8_readPart 74 = .ok (.iload_n 1, 1) := by decide +kernel
theorem dX8_readPart_75 : decode cX8_readPart 75 = .ok (.iconst 3, 1) := by decide +kernel
theorem dX8_readPart_76 : decode cX8_readPart 76 = .ok (.iadd, 1) := by decide +kernel
theorem dX8_readPart_77 : decode cX8_readPart 77 = .ok (.invokevirtual 90, 3) := by decide +kernel
theorem dX8_readPart_80 : decode cX8_readPart 80 = .ok (.invokevirtual 151, 3) := by decide +kernel
theorem dX8_readPart_83 : decode cX8_readPart 83 = .ok (.aload_n 0, 1) := by decide +kernel
theorem dX8_readPart_84 : decode cX8_readPart 84 = .ok (.getfield 19, 3) := by decide +kernel
theorem dX8_readPart_87 : decode cX8_readPart 87 = .ok (.iload_n 3, 1) := by decide +kernel
theorem dX8_readPart_88 : decode cX8_readPart 88 = .ok (.iconst 5, 1) := by decide +kernel
theorem dX8_readPart_89 : decode cX8_readPart 89 = .ok (.aload_n 0, 1) := by decide +kernel
theorem dX8_readPart_90 : decode cX8_readPart 90 = .ok (.getfield 10, 3) := by decide +kernel
theorem dX8_readPart_93 : decode cX8_readPart 93 = .ok (.iload_n 1, 1) := by decide +kernel
theorem dX8_readPart_94 : decode cX8_readPart 94 = .ok (.iconst 3, 1) := by decide +kernel
theorem dX8_readPart_95 : decode cX8_readPart 95 = .ok (.iadd, 1) := by decide +kernel
theorem dX8_readPart_96 : decode cX8_readPart 96 = .ok (.invokevirtual 90, 3) := by decide +kernel
theorem dX8_readPart_99 : decode cX8_readPart 99 = .ok (.invokevirtual 151, 3) := by decide +kernel
theorem dX8_readPart_102 : decode cX8_readPart 102 = .ok (.aload_n 0, 1) := by decide +kernel
theorem dX8_readPart_103 : decode cX8_readPart 103 = .ok (.getfield 19, 3) := by decide +kernel
theorem dX8_readPart_106 : decode cX8_readPart 106 = .ok (.iload_n 3, 1) := by decide +kernel
theorem dX8_readPart_107 : decode cX8_readPart 107 = .ok (.iconst 4, 1) := by decide +kernel
theorem dX8_readPart_108 : decode cX8_readPart 108 = .ok (.iload_n 2, 1) := by decide +kernel
theorem dX8_readPart_109 : decode cX8_readPart 109 = .ok (.bipush 66, 2) := by decide +kernel
theorem dX8_readPart_111 : decode cX8_readPart 111 = .ok (.if_icmp .ne 7, 3) := by decide +kernel
theorem dX8_readPart_114 : decode cX8_readPart 114 = .ok (.iconst 1, 1) := by decide +kernel
theorem dX8_readPart_115 : decode cX8_readPart 115 = .ok (.goto 4, 3) := by decide +kernel
theorem dX8_readPart_118 : decode cX8_readPart 118 = .ok (.iconst 0, 1) := by decide +kernel
theorem dX8_readPart_119 : decode cX8_readPart 119 = .ok (.invokevirtual 151, 3) := by decide +kernel
theorem dX8_readPart_122 : decode cX8_readPart 122 = .ok (.goto 50, 3) := by decide +kernel
theorem dX8_readPart_125 : decode cX8_readPart 125 = .ok (.iload_n 2, 1) := by decide +kernel
theorem dX8_readPart_126 : decode cX8_readPart 126 = .ok (.bipush 71, 2) := by decide +kernel
theorem dX8_readPart_128 : decode cX8_readPart 128 = .ok (.if_icmp .ne 44, 3) := by decide +kernel
theorem dX8_readPart_131 : decode cX8_readPart 131 = .ok (.aload_n 0, 1) := by decide +kernel
theorem dX8_readPart_132 : decode cX8_readPart 132 = .ok (.getfield 26, 3) := by decide +kernel
theorem dX8_readPart_135 : decode cX8_readPart 135 = .ok (.bipush 10, 2) := by decide +kernel
theorem dX8_readPart_137 : decode cX8_readPart 137 = .ok (.aload_n 0, 1) := by decide +kernel
theorem dX8_readPart_138 : decode cX8_readPart 138 = .ok (.getfield 10, 3) := by decide +kernel
theorem dX8_readPart_141 : decode cX8_readPart 141 = .ok (.iload_n 1, 1) := by decide +kernel
theorem dX8_readPart_142 : decode cX8_readPart 142 = .ok (.iconst 1, 1) := by decide +kernel
theorem dX8_readPart_143 : decode cX8_readPart 143 = .ok (.iadd, 1) := by decide +kernel
theorem dX8_readPart_144 : decode cX8_readPart 144 = .ok (.invokevirtual 90, 3) := by decide +kernel
theorem dX8_readPart_147 : decode cX8_readPart 147 = .ok (.imul, 1) := by decide +kernel
theorem dX8_readPart_148 : decode cX8_readPart 148 = .ok (.aload_n 0, 1) := by decide +kernel
theorem dX8_readPart_149 : decode cX8_readPart 149 = .ok (.getfield 10, 3) := by decide +kernel
theorem dX8_readPart_152 : decode cX8_readPart 152 = .ok (.iload_n 1, 1) := by decide +kernel
theorem dX8_readPart_153 : decode cX8_readPart 153 = .ok (.iconst 2, 1) := by decide +kernel
theorem dX8_readPart_154 : decode cX8_readPart 154 = .ok (.iadd, 1) := by decide +kernel
theorem dX8_readPart_155 : decode cX8_readPart 155 = .ok (.invokevirtual 90, 3) := by decide +kernel
theorem dX8_readPart_158 : decode cX8_readPart 158 = .ok (.iadd, 1) := by decide +kernel
theorem dX8_readPart_159 : decode cX8_readPart 159 = .ok (.aload_n 0, 1) := by decide +kernel
theorem dX8_readPart_160 : decode cX8_readPart 160 = .ok (.getfield 10, 3) := by decide +kernel
theorem dX8_readPart_163 : decode cX8_readPart 163 = .ok (.iload_n 1, 1) := by decide +kernel
theorem dX8_readPart_164 : decode cX8_readPart 164 = .ok (.iconst 3, 1) := by decide +kernel
theorem dX8_readPart_165 : decode cX8_readPart 165 = .ok (.iadd, 1) := by decide +kernel
theorem dX8_readPart_166 : decode cX8_readPart 166 = .ok (.invokevirtual 90, 3) := by decide +kernel
theorem dX8_readPart_169 : decode cX8_readPart 169 = .ok (.invokevirtual 305, 3) := by decide +kernel
theorem dX8_readPart_172 : decode cX8_readPart 172 = .ok (.return_, 1) := by decide +kernel
theorem dX8_worthWorn_0 : decode cX8_worthWorn 0 = .ok (.iconst 0, 1) := by decide +kernel
theorem dX8_worthWorn_1 : decode cX8_worthWorn 1 = .ok (.bipush 10, 2) := by decide +kernel
theorem dX8_worthWorn_3 : decode cX8_worthWorn 3 = .ok (.aload_n 0, 1) := by decide +kernel
theorem dX8_worthWorn_4 : decode cX8_worthWorn 4 = .ok (.getfield 19, 3) := by decide +kernel
theorem dX8_worthWorn_7 : decode cX8_worthWorn 7 = .ok (.iload_n 1, 1) := by decide +kernel
theorem dX8_worthWorn_8 : decode cX8_worthWorn 8 = .ok (.iconst 0, 1) := by decide +kernel
theorem dX8_worthWorn_9 : decode cX8_worthWorn 9 = .ok (.invokevirtual 124, 3) := by decide +kernel
theorem dX8_worthWorn_12 : decode cX8_worthWorn 12 = .ok (.imul, 1) := by decide +kernel
theorem dX8_worthWorn_13 : decode cX8_worthWorn 13 = .ok (.aload_n 0, 1) := by decide +kernel
theorem dX8_worthWorn_14 : decode cX8_worthWorn 14 = .ok (.getfield 50, 3) := by decide +kernel
theorem dX8_worthWorn_17 : decode cX8_worthWorn 17 = .ok (.iload_n 2, 1) := by decide +kernel
theorem dX8_worthWorn_18 : decode cX8_worthWorn 18 = .ok (.imul, 1) := by decide +kernel
theorem dX8_worthWorn_19 : decode cX8_worthWorn 19 = .ok (.isub, 1) := by decide +kernel
theorem dX8_worthWorn_20 : decode cX8_worthWorn 20 = .ok (.invokestatic 111, 3) := by decide +kernel
theorem dX8_worthWorn_23 : decode cX8_worthWorn 23 = .ok (.istore_n 3, 1) := by decide +kernel
theorem dX8_worthWorn_24 : decode cX8_worthWorn 24 = .ok (.aload_n 0, 1) := by decide +kernel
theorem dX8_worthWorn_25 : decode cX8_worthWorn 25 = .ok (.getfield 19, 3) := by decide +kernel
theorem dX8_worthWorn_28 : decode cX8_worthWorn 28 = .ok (.iload_n 1, 1) := by decide +kernel
theorem dX8_worthWorn_29 : decode cX8_worthWorn 29 = .ok (.iconst 1, 1) := by decide +kernel
theorem dX8_worthWorn_30 : decode cX8_worthWorn 30 = .ok (.invokevirtual 124, 3) := by decide +kernel
theorem dX8_worthWorn_33 : decode cX8_worthWorn 33 = .ok (.iconst 1, 1) := by decide +kernel
theorem dX8_worthWorn_34 : decode cX8_worthWorn 34 = .ok (.if_icmp .ne 12, 3) := by decide +kernel
theorem dX8_worthWorn_37 : decode cX8_worthWorn 37 = .ok (.aload_n 0, 1) := by decide +kernel
theorem dX8_worthWorn_38 : decode cX8_worthWorn 38 = .ok (.getfield 54, 3) := by decide +kernel
theorem dX8_worthWorn_41 : decode cX8_worthWorn 41 = .ok (.iload_n 3, 1) := by decide +kernel
theorem dX8_worthWorn_42 : decode cX8_worthWorn 42 = .ok (.imul, 1) := by decide +kernel
theorem dX8_worthWorn_43 : decode cX8_worthWorn 43 = .ok (.goto 4, 3) := by decide +kernel
theorem dX8_worthWorn_46 : decode cX8_worthWorn 46 = .ok (.iload_n 3, 1) := by decide +kernel
theorem dX8_worthWorn_47 : decode cX8_worthWorn 47 = .ok (.ireturn, 1) := by decide +kernel
theorem dX8_worthOf_0 : decode cX8_worthOf 0 = .ok (.aload_n 0, 1) := by decide +kernel
theorem dX8_worthOf_1 : decode cX8_worthOf 1 = .ok (.iload_n 1, 1) := by decide +kernel
theorem dX8_worthOf_2 : decode cX8_worthOf 2 = .ok (.aload_n 0, 1) := by decide +kernel
theorem dX8_worthOf_3 : decode cX8_worthOf 3 = .ok (.getfield 19, 3) := by decide +kernel
theorem dX8_worthOf_6 : decode cX8_worthOf 6 = .ok (.iload_n 1, 1) := by decide +kernel
theorem dX8_worthOf_7 : decode cX8_worthOf 7 = .ok (.iconst 2, 1) := by decide +kernel
theorem dX8_worthOf_8 : decode cX8_worthOf 8 = .ok (.invokevirtual 124, 3) := by decide +kernel
theorem dX8_worthOf_11 : decode cX8_worthOf 11 = .ok (.invokevirtual 224, 3) := by decide +kernel
theorem dX8_worthOf_14 : decode cX8_worthOf 14 = .ok (.ireturn, 1) := by decide +kernel
theorem dX8_worthOfSet_0 : decode cX8_worthOfSet 0 = .ok (.iconst 0, 1) := by decide +kernel
theorem dX8_worthOfSet_1 : decode cX8_worthOfSet 1 = .ok (.istore_n 2, 1) := by decide +kernel
theorem dX8_worthOfSet_2 : decode cX8_worthOfSet 2 = .ok (.iconst 0, 1) := by decide +kernel
theorem dX8_worthOfSet_3 : decode cX8_worthOfSet 3 = .ok (.istore_n 3, 1) := by decide +kernel
theorem dX8_worthOfSet_4 : decode cX8_worthOfSet 4 = .ok (.iload_n 3, 1) := by decide +kernel
theorem dX8_worthOfSet_5 : decode cX8_worthOfSet 5 = .ok (.aload_n 0, 1) := by decide +kernel
theorem dX8_worthOfSet_6 : decode cX8_worthOfSet 6 = .ok (.getfield 19, 3) := by decide +kernel
theorem dX8_worthOfSet_9 : decode cX8_worthOfSet 9 = .ok (.getfield 94, 3) := by decide +kernel
theorem dX8_worthOfSet_12 : decode cX8_worthOfSet 12 = .ok (.if_icmp .ge 26, 3) := by decide +kernel
theorem dX8_worthOfSet_15 : decode cX8_worthOfSet 15 = .ok (.iload_n 1, 1) := by decide +kernel
theorem dX8_worthOfSet_16 : decode cX8_worthOfSet 16 = .ok (.iload_n 3, 1) := by decide +kernel
theorem dX8_worthOfSet_17 : decode cX8_worthOfSet 17 = .ok (.ishr, 1) := by decide +kernel
theorem dX8_worthOfSet_18 : decode cX8_worthOfSet 18 = .ok (.iconst 1, 1) := by decide +kernel
theorem dX8_worthOfSet_19 : decode cX8_worthOfSet 19 = .ok (.iand, 1) := by decide +kernel
theorem dX8_worthOfSet_20 : decode cX8_worthOfSet 20 = .ok (.iconst 1, 1) := by decide +kernel
theorem dX8_worthOfSet_21 : decode cX8_worthOfSet 21 = .ok (.if_icmp .ne 11, 3) := by decide +kernel
theorem dX8_worthOfSet_24 : decode cX8_worthOfSet 24 = .ok (.iload_n 2, 1) := by decide +kernel
theorem dX8_worthOfSet_25 : decode cX8_worthOfSet 25 = .ok (.aload_n 0, 1) := by decide +kernel
theorem dX8_worthOfSet_26 : decode cX8_worthOfSet 26 = .ok (.iload_n 3, 1) := by decide +kernel
theorem dX8_worthOfSet_27 : decode cX8_worthOfSet 27 = .ok (.invokevirtual 127, 3) := by decide +kernel
theorem dX8_worthOfSet_30 : decode cX8_worthOfSet 30 = .ok (.iadd, 1) := by decide +kernel
theorem dX8_worthOfSet_31 : decode cX8_worthOfSet 31 = .ok (.istore_n 2, 1) := by decide +kernel
theorem dX8_worthOfSet_32 : decode cX8_worthOfSet 32 = .ok (.iinc 3 1, 3) := by decide +kernel
theorem dX8_worthOfSet_35 : decode cX8_worthOfSet 35 = .ok (.goto (-31), 3) := by decide +kernel
theorem dX8_worthOfSet_38 : decode cX8_worthOfSet 38 = .ok (.iload_n 2, 1) := by decide +kernel
theorem dX8_worthOfSet_39 : decode cX8_worthOfSet 39 = .ok (.ireturn, 1) := by decide +kernel
theorem dX8_setsOfTeeth_0 : decode cX8_setsOfTeeth 0 = .ok (.iconst 1, 1) := by decide +kernel
theorem dX8_setsOfTeeth_1 : decode cX8_setsOfTeeth 1 = .ok (.aload_n 0, 1) := by decide +kernel
theorem dX8_setsOfTeeth_2 : decode cX8_setsOfTeeth 2 = .ok (.getfield 19, 3) := by decide +kernel
theorem dX8_setsOfTeeth_5 : decode cX8_setsOfTeeth 5 = .ok (.getfield 94, 3) := by decide +kernel
theorem dX8_setsOfTeeth_8 : decode cX8_setsOfTeeth 8 = .ok (.ishl, 1) := by decide +kernel
theorem dX8_setsOfTeeth_9 : decode cX8_setsOfTeeth 9 = .ok (.aload_n 0, 1) := by decide +kernel
theorem dX8_setsOfTeeth_10 : decode cX8_setsOfTeeth 10 = .ok (.getfield 71, 3) := by decide +kernel
theorem dX8_setsOfTeeth_13 : decode cX8_setsOfTeeth 13 = .ok (.arraylength, 1) := by decide +kernel
theorem dX8_setsOfTeeth_14 : decode cX8_setsOfTeeth 14 = .ok (.invokestatic 307, 3) := by decide +kernel
theorem dX8_setsOfTeeth_17 : decode cX8_setsOfTeeth 17 = .ok (.ireturn, 1) := by decide +kernel
theorem dX8_weighSets_0 : decode cX8_weighSets 0 = .ok (.iconst 0, 1) := by decide +kernel
theorem dX8_weighSets_1 : decode cX8_weighSets 1 = .ok (.istore_n 2, 1) := by decide +kernel
theorem dX8_weighSets_2 : decode cX8_weighSets 2 = .ok (.iload_n 2, 1) := by decide +kernel
theorem dX8_weighSets_3 : decode cX8_weighSets 3 = .ok (.aload_n 0, 1) := by decide +kernel
theorem dX8_weighSets_4 : decode cX8_weighSets 4 = .ok (.getfield 19, 3) := by decide +kernel
theorem dX8_weighSets_7 : decode cX8_weighSets 7 = .ok (.getfield 94, 3) := by decide +kernel
theorem dX8_weighSets_10 : decode cX8_weighSets 10 = .ok (.if_icmp .ge 81, 3) := by decide +kernel
theorem dX8_weighSets_13 : decode cX8_weighSets 13 = .ok (.iconst 1, 1) := by decide +kernel
theorem dX8_weighSets_14 : decode cX8_weighSets 14 = .ok (.iload_n 2, 1) := by decide +kernel
theorem dX8_weighSets_15 : decode cX8_weighSets 15 = .ok (.ishl, 1) := by decide +kernel
theorem dX8_weighSets_16 : decode cX8_weighSets 16 = .ok (.istore_n 3, 1) := by decide +kernel
theorem dX8_weighSets_17 : decode cX8_weighSets 17 = .ok (.iload_n 1, 1) := by decide +kernel
theorem dX8_weighSets_18 : decode cX8_weighSets 18 = .ok (.iload_n 3, 1) := by decide +kernel
theorem dX8_weighSets_19 : decode cX8_weighSets 19 = .ok (.iand, 1) := by decide +kernel
theorem dX8_weighSets_20 : decode cX8_weighSets 20 = .ok (.ifCond .ne 11, 3) := by decide +kernel
theorem dX8_weighSets_23 : decode cX8_weighSets 23 = .ok (.aload_n 0, 1) := by decide +kernel
theorem dX8_weighSets_24 : decode cX8_weighSets 24 = .ok (.iload_n 2, 1) := by decide +kernel
theorem dX8_weighSets_25 : decode cX8_weighSets 25 = .ok (.invokevirtual 127, 3) := by decide +kernel
theorem dX8_weighSets_28 : decode cX8_weighSets 28 = .ok (.goto 9, 3) := by decide +kernel
theorem dX8_weighSets_31 : decode cX8_weighSets 31 = .ok (.aload_n 0, 1) := by decide +kernel
theorem dX8_weighSets_32 : decode cX8_weighSets 32 = .ok (.iload_n 2, 1) := by decide +kernel
theorem dX8_weighSets_33 : decode cX8_weighSets 33 = .ok (.invokevirtual 127, 3) := by decide +kernel
theorem dX8_weighSets_36 : decode cX8_weighSets 36 = .ok (.ineg, 1) := by decide +kernel
theorem dX8_weighSets_37 : decode cX8_weighSets 37 = .ok (.istore 4, 2) := by decide +kernel
theorem dX8_weighSets_39 : decode cX8_weighSets 39 = .ok (.iconst 0, 1) := by decide +kernel
theorem dX8_weighSets_40 : decode cX8_weighSets 40 = .ok (.istore 5, 2) := by decide +kernel
theorem dX8_weighSets_42 : decode cX8_weighSets 42 = .ok (.iload 5, 2) := by decide +kernel
theorem dX8_weighSets_44 : decode cX8_weighSets 44 = .ok (.iload_n 3, 1) := by decide +kernel
theorem dX8_weighSets_45 : decode cX8_weighSets 45 = .ok (.if_icmp .ge 40, 3) := by decide +kernel
theorem dX8_weighSets_48 : decode cX8_weighSets 48 = .ok (.iload_n 3, 1) := by decide +kernel
theorem dX8_weighSets_49 : decode cX8_weighSets 49 = .ok (.iload 5, 2) := by decide +kernel
theorem dX8_weighSets_51 : decode cX8_weighSets 51 = .ok (.iadd, 1) := by decide +kernel
theorem dX8_weighSets_52 : decode cX8_weighSets 52 = .ok (.aload_n 0, 1) := by decide +kernel
theorem dX8_weighSets_53 : decode cX8_weighSets 53 = .ok (.getfield 71, 3) := by decide +kernel
theorem dX8_weighSets_56 : decode cX8_weighSets 56 = .ok (.arraylength, 1) := by decide +kernel
theorem dX8_weighSets_57 : decode cX8_weighSets 57 = .ok (.if_icmp .ge 28, 3) := by decide +kernel
theorem dX8_weighSets_60 : decode cX8_weighSets 60 = .ok (.aload_n 0, 1) := by decide +kernel
theorem dX8_weighSets_61 : decode cX8_weighSets 61 = .ok (.getfield 71, 3) := by decide +kernel
theorem dX8_weighSets_64 : decode cX8_weighSets 64 = .ok (.iload_n 3, 1) := by decide +kernel
theorem dX8_weighSets_65 : decode cX8_weighSets 65 = .ok (.iload 5, 2) := by decide +kernel
theorem dX8_weighSets_67 : decode cX8_weighSets 67 = .ok (.iadd, 1) := by decide +kernel
theorem dX8_weighSets_68 : decode cX8_weighSets 68 = .ok (.aload_n 0, 1) := by decide +kernel
theorem dX8_weighSets_69 : decode cX8_weighSets 69 = .ok (.getfield 71, 3) := by decide +kernel
theorem dX8_weighSets_72 : decode cX8_weighSets 72 = .ok (.iload 5, 2) := by decide +kernel
theorem dX8_weighSets_74 : decode cX8_weighSets 74 = .ok (.iaload, 1) := by decide +kernel
theorem dX8_weighSets_75 : decode cX8_weighSets 75 = .ok (.iload 4, 2) := by decide +kernel
theorem dX8_weighSets_77 : decode cX8_weighSets 77 = .ok (.iadd, 1) := by decide +kernel
theorem dX8_weighSets_78 : decode cX8_weighSets 78 = .ok (.iastore, 1) := by decide +kernel
theorem dX8_weighSets_79 : decode cX8_weighSets 79 = .ok (.iinc 5 1, 3) := by decide +kernel
theorem dX8_weighSets_82 : decode cX8_weighSets 82 = .ok (.goto (-40), 3) := by decide +kernel
theorem dX8_weighSets_85 : decode cX8_weighSets 85 = .ok (.iinc 2 1, 3) := by decide +kernel
theorem dX8_weighSets_88 : decode cX8_weighSets 88 = .ok (.goto (-86), 3) := by decide +kernel
theorem dX8_weighSets_91 : decode cX8_weighSets 91 = .ok (.return_, 1) := by decide +kernel
theorem dX8_seekFewest_0 : decode cX8_seekFewest 0 = .ok (.aload_n 0, 1) := by decide +kernel
theorem dX8_seekFewest_1 : decode cX8_seekFewest 1 = .ok (.getfield 19, 3) := by decide +kernel
theorem dX8_seekFewest_4 : decode cX8_seekFewest 4 = .ok (.iload_n 1, 1) := by decide +kernel
theorem dX8_seekFewest_5 : decode cX8_seekFewest 5 = .ok (.invokevirtual 142, 3) := by decide +kernel
theorem dX8_seekFewest_8 : decode cX8_seekFewest 8 = .ok (.istore 4, 2) := by decide +kernel
theorem dX8_seekFewest_10 : decode cX8_seekFewest 10 = .ok (.aload_n 0, 1) := by decide +kernel
theorem dX8_seekFewest_11 : decode cX8_seekFewest 11 = .ok (.getfield 19, 3) := by decide +kernel
theorem dX8_seekFewest_14 : decode cX8_seekFewest 14 = .ok (.iload_n 2, 1) := by decide +kernel
theorem dX8_seekFewest_15 : decode cX8_seekFewest 15 = .ok (.invokevirtual 142, 3) := by decide +kernel
theorem dX8_seekFewest_18 : decode cX8_seekFewest 18 = .ok (.istore 5, 2) := by decide +kernel
theorem dX8_seekFewest_20 : decode cX8_seekFewest 20 = .ok (.iload 4, 2) := by decide +kernel
theorem dX8_seekFewest_22 : decode cX8_seekFewest 22 = .ok (.iload 5, 2) := by decide +kernel
theorem dX8_seekFewest_24 : decode cX8_seekFewest 24 = .ok (.ior, 1) := by decide +kernel
theorem dX8_seekFewest_25 : decode cX8_seekFewest 25 = .ok (.iconst (-1), 1) := by decide +kernel
theorem dX8_seekFewest_26 : decode cX8_seekFewest 26 = .ok (.ixor, 1) := by decide +kernel
theorem dX8_seekFewest_27 : decode cX8_seekFewest 27 = .ok (.istore 6, 2) := by decide +kernel
theorem dX8_seekFewest_29 : decode cX8_seekFewest 29 = .ok (.aload_n 0, 1) := by decide +kernel
theorem dX8_seekFewest_30 : decode cX8_seekFewest 30 = .ok (.iload 5, 2) := by decide +kernel
theorem dX8_seekFewest_32 : decode cX8_seekFewest 32 = .ok (.invokevirtual 192, 3) := by decide +kernel
theorem dX8_seekFewest_35 : decode cX8_seekFewest 35 = .ok (.aload_n 0, 1) := by decide +kernel
theorem dX8_seekFewest_36 : decode cX8_seekFewest 36 = .ok (.getfield 60, 3) := by decide +kernel
theorem dX8_seekFewest_39 : decode cX8_seekFewest 39 = .ok (.invokevirtual 204, 3) := by decide +kernel
theorem dX8_seekFewest_42 : decode cX8_seekFewest 42 = .ok (.iconst 0, 1) := by decide +kernel
theorem dX8_seekFewest_43 : decode cX8_seekFewest 43 = .ok (.istore 7, 2) := by decide +kernel
theorem dX8_seekFewest_45 : decode cX8_seekFewest 45 = .ok (.iload 7, 2) := by decide +kernel
theorem dX8_seekFewest_47 : decode cX8_seekFewest 47 = .ok (.aload_n 0, 1) := by decide +kernel
theorem dX8_seekFewest_48 : decode cX8_seekFewest 48 = .ok (.invokevirtual 201, 3) := by decide +kernel
theorem dX8_seekFewest_51 : decode cX8_seekFewest 51 = .ok (.if_icmp .ge 50, 3) := by decide +kernel
theorem dX8_seekFewest_54 : decode cX8_seekFewest 54 = .ok (.iload 7, 2) := by decide +kernel
theorem dX8_seekFewest_56 : decode cX8_seekFewest 56 = .ok (.iload 6, 2) := by decide +kernel
theorem dX8_seekFewest_58 : decode cX8_seekFewest 58 = .ok (.iand, 1) := by decide +kernel
theorem dX8_seekFewest_59 : decode cX8_seekFewest 59 = .ok (.ifCond .ne 36, 3) := by decide +kernel
theorem dX8_seekFewest_62 : decode cX8_seekFewest 62 = .ok (.aload_n 0, 1) := by decide +kernel
theorem dX8_seekFewest_63 : decode cX8_seekFewest 63 = .ok (.getfield 71, 3) := by decide +kernel
theorem dX8_seekFewest_66 : decode cX8_seekFewest 66 = .ok (.iload 7, 2) := by decide +kernel
theorem dX8_seekFewest_68 : decode cX8_seekFewest 68 = .ok (.iaload, 1) := by decide +kernel
theorem dX8_seekFewest_69 : decode cX8_seekFewest 69 = .ok (.iload_n 3, 1) := by decide +kernel
theorem dX8_seekFewest_70 : decode cX8_seekFewest 70 = .ok (.if_icmp .ne 25, 3) := by decide +kernel
theorem dX8_seekFewest_73 : decode cX8_seekFewest 73 = .ok (.aload_n 0, 1) := by decide +kernel
theorem dX8_seekFewest_74 : decode cX8_seekFewest 74 = .ok (.getfield 60, 3) := by decide +kernel
theorem dX8_seekFewest_77 : decode cX8_seekFewest 77 = .ok (.iload 7, 2) := by decide +kernel
theorem dX8_seekFewest_79 : decode cX8_seekFewest 79 = .ok (.invokestatic 310, 3) := by decide +kernel
theorem dX8_seekFewest_82 : decode cX8_seekFewest 82 = .ok (.iload 7, 2) := by decide +kernel
theorem dX8_seekFewest_84 : decode cX8_seekFewest 84 = .ok (.iload 4, 2) := by decide +kernel
theorem dX8_seekFewest_86 : decode cX8_seekFewest 86 = .ok (.iand, 1) := by decide +kernel
theorem dX8_seekFewest_87 : decode cX8_seekFewest 87 = .ok (.iload 7, 2) := by decide +kernel
theorem dX8_seekFewest_89 : decode cX8_seekFewest 89 = .ok (.iload 5, 2) := by decide +kernel
theorem dX8_seekFewest_91 : decode cX8_seekFewest 91 = .ok (.iand, 1) := by decide +kernel
theorem dX8_seekFewest_92 : decode cX8_seekFewest 92 = .ok (.invokevirtual 213, 3) := by decide +kernel
theorem dX8_seekFewest_95 : decode cX8_seekFewest 95 = .ok (.iinc 7 1, 3) := by decide +kernel
theorem dX8_seekFewest_98 : decode cX8_seekFewest 98 = .ok (.goto (-53), 3) := by decide +kernel
theorem dX8_seekFewest_101 : decode cX8_seekFewest 101 = .ok (.return_, 1) := by decide +kernel
theorem dX8_seekTooMuch_0 : decode cX8_seekTooMuch 0 = .ok (.aload_n 0, 1) := by decide +kernel
theorem dX8_seekTooMuch_1 : decode cX8_seekTooMuch 1 = .ok (.iconst 0, 1) := by decide +kernel
theorem dX8_seekTooMuch_2 : decode cX8_seekTooMuch 2 = .ok (.invokevirtual 192, 3) := by decide +kernel
theorem dX8_seekTooMuch_5 : decode cX8_seekTooMuch 5 = .ok (.aload_n 0, 1) := by decide +kernel
theorem dX8_seekTooMuch_6 : decode cX8_seekTooMuch 6 = .ok (.getfield 60, 3) := by decide +kernel
theorem dX8_seekTooMuch_9 : decode cX8_seekTooMuch 9 = .ok (.invokevirtual 204, 3) := by decide +kernel
theorem dX8_seekTooMuch_12 : decode cX8_seekTooMuch 12 = .ok (.iconst 0, 1) := by decide +kernel
theorem dX8_seekTooMuch_13 : decode cX8_seekTooMuch 13 = .ok (.istore_n 3, 1) := by decide +kernel
theorem dX8_seekTooMuch_14 : decode cX8_seekTooMuch 14 = .ok (.iload_n 3, 1) := by decide +kernel
theorem dX8_seekTooMuch_15 : decode cX8_seekTooMuch 15 = .ok (.aload_n 0, 1) := by decide +kernel
theorem dX8_seekTooMuch_16 : decode cX8_seekTooMuch 16 = .ok (.invokevirtual 201, 3) := by decide +kernel
theorem dX8_seekTooMuch_19 : decode cX8_seekTooMuch 19 = .ok (.if_icmp .ge 45, 3) := by decide +kernel
theorem dX8_seekTooMuch_22 : decode cX8_seekTooMuch 22 = .ok (.iload_n 3, 1) := by decide +kernel
theorem dX8_seekTooMuch_23 : decode cX8_seekTooMuch 23 = .ok (.iload_n 1, 1) := by decide +kernel
theorem dX8_seekTooMuch_24 : decode cX8_seekTooMuch 24 = .ok (.iconst (-1), 1) := by decide +kernel
theorem dX8_seekTooMuch_25 : decode cX8_seekTooMuch 25 = .ok (.ixor, 1) := by decide +kernel
theorem dX8_seekTooMuch_26 : decode cX8_seekTooMuch 26 = .ok (.iand, 1) := by decide +kernel
theorem dX8_seekTooMuch_27 : decode cX8_seekTooMuch 27 = .ok (.ifCond .ne 31, 3) := by decide +kernel
theorem dX8_seekTooMuch_30 : decode cX8_seekTooMuch 30 = .ok (.aload_n 0, 1) := by decide +kernel
theorem dX8_seekTooMuch_31 : decode cX8_seekTooMuch 31 = .ok (.getfield 71, 3) := by decide +kernel
theorem dX8_seekTooMuch_34 : decode cX8_seekTooMuch 34 = .ok (.iload_n 3, 1) := by decide +kernel
theorem dX8_seekTooMuch_35 : decode cX8_seekTooMuch 35 = .ok (.iaload, 1) := by decide +kernel
theorem dX8_seekTooMuch_36 : decode cX8_seekTooMuch 36 = .ok (.iload_n 2, 1) := by decide +kernel
theorem dX8_seekTooMuch_37 : decode cX8_seekTooMuch 37 = .ok (.if_icmp .lt 21, 3) := by decide +kernel
theorem dX8_seekTooMuch_40 : decode cX8_seekTooMuch 40 = .ok (.aload_n 0, 1) := by decide +kernel
theorem dX8_seekTooMuch_41 : decode cX8_seekTooMuch 41 = .ok (.getfield 60, 3) := by decide +kernel
theorem dX8_seekTooMuch_44 : decode cX8_seekTooMuch 44 = .ok (.aload_n 0, 1) := by decide +kernel
theorem dX8_seekTooMuch_45 : decode cX8_seekTooMuch 45 = .ok (.getfield 71, 3) := by decide +kernel
theorem dX8_seekTooMuch_48 : decode cX8_seekTooMuch 48 = .ok (.iload_n 3, 1) := by decide +kernel
theorem dX8_seekTooMuch_49 : decode cX8_seekTooMuch 49 = .ok (.iaload, 1) := by decide +kernel
theorem dX8_seekTooMuch_50 : decode cX8_seekTooMuch 50 = .ok (.iload_n 3, 1) := by decide +kernel
theorem dX8_seekTooMuch_51 : decode cX8_seekTooMuch 51 = .ok (.invokestatic 310, 3) := by decide +kernel
theorem dX8_seekTooMuch_54 : decode cX8_seekTooMuch 54 = .ok (.iload_n 3, 1) := by decide +kernel
theorem dX8_seekTooMuch_55 : decode cX8_seekTooMuch 55 = .ok (.invokevirtual 213, 3) := by decide +kernel
theorem dX8_seekTooMuch_58 : decode cX8_seekTooMuch 58 = .ok (.iinc 3 1, 3) := by decide +kernel
theorem dX8_seekTooMuch_61 : decode cX8_seekTooMuch 61 = .ok (.goto (-47), 3) := by decide +kernel
theorem dX8_seekTooMuch_64 : decode cX8_seekTooMuch 64 = .ok (.return_, 1) := by decide +kernel
theorem dX8_handOver_0 : decode cX8_handOver 0 = .ok (.iconst 0, 1) := by decide +kernel
theorem dX8_handOver_1 : decode cX8_handOver 1 = .ok (.istore_n 3, 1) := by decide +kernel
theorem dX8_handOver_2 : decode cX8_handOver 2 = .ok (.iload_n 3, 1) := by decide +kernel
theorem dX8_handOver_3 : decode cX8_handOver 3 = .ok (.aload_n 0, 1) := by decide +kernel
theorem dX8_handOver_4 : decode cX8_handOver 4 = .ok (.getfield 19, 3) := by decide +kernel
theorem dX8_handOver_7 : decode cX8_handOver 7 = .ok (.getfield 94, 3) := by decide +kernel
theorem dX8_handOver_10 : decode cX8_handOver 10 = .ok (.if_icmp .ge 35, 3) := by decide +kernel
theorem dX8_handOver_13 : decode cX8_handOver 13 = .ok (.iload_n 1, 1) := by decide +kernel
theorem dX8_handOver_14 : decode cX8_handOver 14 = .ok (.iload_n 3, 1) := by decide +kernel
theorem dX8_handOver_15 : decode cX8_handOver 15 = .ok (.ishr, 1) := by decide +kernel
theorem dX8_handOver_16 : decode cX8_handOver 16 = .ok (.iconst 1, 1) := by decide +kernel
theorem dX8_handOver_17 : decode cX8_handOver 17 = .ok (.iand, 1) := by decide +kernel
theorem dX8_handOver_18 : decode cX8_handOver 18 = .ok (.iconst 1, 1) := by decide +kernel
theorem dX8_handOver_19 : decode cX8_handOver 19 = .ok (.if_icmp .ne 20, 3) := by decide +kernel
theorem dX8_handOver_22 : decode cX8_handOver 22 = .ok (.aload_n 0, 1) := by decide +kernel
theorem dX8_handOver_23 : decode cX8_handOver 23 = .ok (.getfield 19, 3) := by decide +kernel
theorem dX8_handOver_26 : decode cX8_handOver 26 = .ok (.iload_n 3, 1) := by decide +kernel
theorem dX8_handOver_27 : decode cX8_handOver 27 = .ok (.invokevirtual 148, 3) := by decide +kernel
theorem dX8_handOver_30 : decode cX8_handOver 30 = .ok (.aload_n 0, 1) := by decide +kernel
theorem dX8_handOver_31 : decode cX8_handOver 31 = .ok (.getfield 19, 3) := by decide +kernel
theorem dX8_handOver_34 : decode cX8_handOver 34 = .ok (.iload_n 3, 1) := by decide +kernel
theorem dX8_handOver_35 : decode cX8_handOver 35 = .ok (.iload_n 2, 1) := by decide +kernel
theorem dX8_handOver_36 : decode cX8_handOver 36 = .ok (.invokevirtual 315, 3) := by decide +kernel
theorem dX8_handOver_39 : decode cX8_handOver 39 = .ok (.iinc 3 1, 3) := by decide +kernel
theorem dX8_handOver_42 : decode cX8_handOver 42 = .ok (.goto (-40), 3) := by decide +kernel
theorem dX8_handOver_45 : decode cX8_handOver 45 = .ok (.return_, 1) := by decide +kernel
theorem dX8_drawFrom_0 : decode cX8_drawFrom 0 = .ok (.lload_n 0, 1) := by decide +kernel
theorem dX8_drawFrom_1 : decode cX8_drawFrom 1 = .ok (.ldc2_w 318, 3) := by decide +kernel
theorem dX8_drawFrom_4 : decode cX8_drawFrom 4 = .ok (.lmul, 1) := by decide +kernel
theorem dX8_drawFrom_5 : decode cX8_drawFrom 5 = .ok (.ldc2_w 320, 3) := by decide +kernel
theorem dX8_drawFrom_8 : decode cX8_drawFrom 8 = .ok (.ladd, 1) := by decide +kernel
theorem dX8_drawFrom_9 : decode cX8_drawFrom 9 = .ok (.lreturn, 1) := by decide +kernel
theorem dX8_addDrawn_0 : decode cX8_addDrawn 0 = .ok (.lload_n 2, 1) := by decide +kernel
theorem dX8_addDrawn_1 : decode cX8_addDrawn 1 = .ok (.bipush 33, 2) := by decide +kernel
theorem dX8_addDrawn_3 : decode cX8_addDrawn 3 = .ok (.lushr, 1) := by decide +kernel
theorem dX8_addDrawn_4 : decode cX8_addDrawn 4 = .ok (.lstore 4, 2) := by decide +kernel
theorem dX8_addDrawn_6 : decode cX8_addDrawn 6 = .ok (.aload_n 0, 1) := by decide +kernel
theorem dX8_addDrawn_7 : decode cX8_addDrawn 7 = .ok (.getfield 19, 3) := by decide +kernel
theorem dX8_addDrawn_10 : decode cX8_addDrawn 10 = .ok (.lload 4, 2) := by decide +kernel
theorem dX8_addDrawn_12 : decode cX8_addDrawn 12 = .ok (.ldc2_w 322, 3) := by decide +kernel
theorem dX8_addDrawn_15 : decode cX8_addDrawn 15 = .ok (.lrem, 1) := by decide +kernel
theorem dX8_addDrawn_16 : decode cX8_addDrawn 16 = .ok (.l2i, 1) := by decide +kernel
theorem dX8_addDrawn_17 : decode cX8_addDrawn 17 = .ok (.iconst 1, 1) := by decide +kernel
theorem dX8_addDrawn_18 : decode cX8_addDrawn 18 = .ok (.iadd, 1) := by decide +kernel
theorem dX8_addDrawn_19 : decode cX8_addDrawn 19 = .ok (.lload 4, 2) := by decide +kernel
theorem dX8_addDrawn_21 : decode cX8_addDrawn 21 = .ok (.ldc2_w 322, 3) := by decide +kernel
theorem dX8_addDrawn_24 : decode cX8_addDrawn 24 = .ok (.ldiv, 1) := by decide +kernel
theorem dX8_addDrawn_25 : decode cX8_addDrawn 25 = .ok (.ldc2_w 324, 3) := by decide +kernel
theorem dX8_addDrawn_28 : decode cX8_addDrawn 28 = .ok (.lrem, 1) := by decide +kernel
theorem dX8_addDrawn_29 : decode cX8_addDrawn 29 = .ok (.lconst 0, 1) := by decide +kernel
theorem dX8_addDrawn_30 : decode cX8_addDrawn 30 = .ok (.lcmp, 1) := by decide +kernel
theorem dX8_addDrawn_31 : decode cX8_addDrawn 31 = .ok (.ifCond .ne 7, 3) := by decide +kernel
theorem dX8_addDrawn_34 : decode cX8_addDrawn 34 = .ok (.iconst 1, 1) := by decide +kernel
theorem dX8_addDrawn_35 : decode cX8_addDrawn 35 = .ok (.goto 4, 3) := by decide +kernel
theorem dX8_addDrawn_38 : decode cX8_addDrawn 38 = .ok (.iconst 0, 1) := by decide +kernel
theorem dX8_addDrawn_39 : decode cX8_addDrawn 39 = .ok (.iload_n 1, 1) := by decide +kernel
theorem dX8_addDrawn_40 : decode cX8_addDrawn 40 = .ok (.invokevirtual 301, 3) := by decide +kernel
theorem dX8_addDrawn_43 : decode cX8_addDrawn 43 = .ok (.pop, 1) := by decide +kernel
theorem dX8_addDrawn_44 : decode cX8_addDrawn 44 = .ok (.return_, 1) := by decide +kernel
theorem dX8_power_0 : decode cX8_power 0 = .ok (.lconst 1, 1) := by decide +kernel
theorem dX8_power_1 : decode cX8_power 1 = .ok (.lstore_n 3, 1) := by decide +kernel
theorem dX8_power_2 : decode cX8_power 2 = .ok (.iconst 0, 1) := by decide +kernel
theorem dX8_power_3 : decode cX8_power 3 = .ok (.istore 5, 2) := by decide +kernel
theorem dX8_power_5 : decode cX8_power 5 = .ok (.iload 5, 2) := by decide +kernel
theorem dX8_power_7 : decode cX8_power 7 = .ok (.iload_n 2, 1) := by decide +kernel
theorem dX8_power_8 : decode cX8_power 8 = .ok (.if_icmp .ge 13, 3) := by decide +kernel
theorem dX8_power_11 : decode cX8_power 11 = .ok (.lload_n 3, 1) := by decide +kernel
theorem dX8_power_12 : decode cX8_power 12 = .ok (.lload_n 0, 1) := by decide +kernel
theorem dX8_power_13 : decode cX8_power 13 = .ok (.lmul, 1) := by decide +kernel
theorem dX8_power_14 : decode cX8_power 14 = .ok (.lstore_n 3, 1) := by decide +kernel
theorem dX8_power_15 : decode cX8_power 15 = .ok (.iinc 5 1, 3) := by decide +kernel
theorem dX8_power_18 : decode cX8_power 18 = .ok (.goto (-13), 3) := by decide +kernel
theorem dX8_power_21 : decode cX8_power 21 = .ok (.lload_n 3, 1) := by decide +kernel
theorem dX8_power_22 : decode cX8_power 22 = .ok (.lreturn, 1) := by decide +kernel
theorem dX8_ofFraction_0 : decode cX8_ofFraction 0 = .ok (.lload_n 0, 1) := by decide +kernel
theorem dX8_ofFraction_1 : decode cX8_ofFraction 1 = .ok (.lload_n 2, 1) := by decide +kernel
theorem dX8_ofFraction_2 : decode cX8_ofFraction 2 = .ok (.invokestatic 326, 3) := by decide +kernel
theorem dX8_ofFraction_5 : decode cX8_ofFraction 5 = .ok (.lstore 5, 2) := by decide +kernel
theorem dX8_ofFraction_7 : decode cX8_ofFraction 7 = .ok (.lload 5, 2) := by decide +kernel
theorem dX8_ofFraction_9 : decode cX8_ofFraction 9 = .ok (.lconst 0, 1) := by decide +kernel
theorem dX8_ofFraction_10 : decode cX8_ofFraction 10 = .ok (.lcmp, 1) := by decide +kernel
theorem dX8_ofFraction_11 : decode cX8_ofFraction 11 = .ok (.ifCond .gt 5, 3) := by decide +kernel
theorem dX8_ofFraction_14 : decode cX8_ofFraction 14 = .ok (.lconst 0, 1) := by decide +kernel
theorem dX8_ofFraction_15 : decode cX8_ofFraction 15 = .ok (.lreturn, 1) := by decide +kernel
theorem dX8_ofFraction_16 : decode cX8_ofFraction 16 = .ok (.iload 4, 2) := by decide +kernel
theorem dX8_ofFraction_18 : decode cX8_ofFraction 18 = .ok (.ifCond .eq 7, 3) := by decide +kernel
theorem dX8_ofFraction_21 : decode cX8_ofFraction 21 = .ok (.lload_n 0, 1) := by decide +kernel
theorem dX8_ofFraction_22 : decode cX8_ofFraction 22 = .ok (.goto 4, 3) := by decide +kernel
theorem dX8_ofFraction_25 : decode cX8_ofFraction 25 = .ok (.lload_n 2, 1) := by decide +kernel
theorem dX8_ofFraction_26 : decode cX8_ofFraction 26 = .ok (.lload 5, 2) := by decide +kernel
theorem dX8_ofFraction_28 : decode cX8_ofFraction 28 = .ok (.ldiv, 1) := by decide +kernel
theorem dX8_ofFraction_29 : decode cX8_ofFraction 29 = .ok (.lreturn, 1) := by decide +kernel
theorem dX8_commonDivisor_0 : decode cX8_commonDivisor 0 = .ok (.lload_n 0, 1) := by decide +kernel
theorem dX8_commonDivisor_1 : decode cX8_commonDivisor 1 = .ok (.lstore 4, 2) := by decide +kernel
theorem dX8_commonDivisor_3 : decode cX8_commonDivisor 3 = .ok (.lload_n 2, 1) := by decide +kernel
theorem dX8_commonDivisor_4 : decode cX8_commonDivisor 4 = .ok (.lstore 6, 2) := by decide +kernel
theorem dX8_commonDivisor_6 : decode cX8_commonDivisor 6 = .ok (.iconst 0, 1) := by decide +kernel
theorem dX8_commonDivisor_7 : decode cX8_commonDivisor 7 = .ok (.istore 8, 2) := by decide +kernel
theorem dX8_commonDivisor_9 : decode cX8_commonDivisor 9 = .ok (.iload 8, 2) := by decide +kernel
theorem dX8_commonDivisor_11 : decode cX8_commonDivisor 11 = .ok (.bipush 100, 2) := by decide +kernel
theorem dX8_commonDivisor_13 : decode cX8_commonDivisor 13 = .ok (.if_icmp .ge 31, 3) := by decide +kernel
theorem dX8_commonDivisor_16 : decode cX8_commonDivisor 16 = .ok (.lload 6, 2) := by decide +kernel
theorem dX8_commonDivisor_18 : decode cX8_commonDivisor 18 = .ok (.lconst 0, 1) := by decide +kernel
theorem dX8_commonDivisor_19 : decode cX8_commonDivisor 19 = .ok (.lcmp, 1) := by decide +kernel
theorem dX8_commonDivisor_20 : decode cX8_commonDivisor 20 = .ok (.ifCond .eq 24, 3) := by decide +kernel
theorem dX8_commonDivisor_23 : decode cX8_commonDivisor 23 = .ok (.lload 4, 2) := by decide +kernel
theorem dX8_commonDivisor_25 : decode cX8_commonDivisor 25 = .ok (.lload 6, 2) := by decide +kernel
theorem dX8_commonDivisor_27 : decode cX8_commonDivisor 27 = .ok (.lrem, 1) := by decide +kernel
theorem dX8_commonDivisor_28 : decode cX8_commonDivisor 28 = .ok (.lstore 9, 2) := by decide +kernel
theorem dX8_commonDivisor_30 : decode cX8_commonDivisor 30 = .ok (.lload 6, 2) := by decide +kernel
theorem dX8_commonDivisor_32 : decode cX8_commonDivisor 32 = .ok (.lstore 4, 2) := by decide +kernel
theorem dX8_commonDivisor_34 : decode cX8_commonDivisor 34 = .ok (.lload 9, 2) := by decide +kernel
theorem dX8_commonDivisor_36 : decode cX8_commonDivisor 36 = .ok (.lstore 6, 2) := by decide +kernel
theorem dX8_commonDivisor_38 : decode cX8_commonDivisor 38 = .ok (.iinc 8 1, 3) := by decide +kernel
theorem dX8_commonDivisor_41 : decode cX8_commonDivisor 41 = .ok (.goto (-32), 3) := by decide +kernel
theorem dX8_commonDivisor_44 : decode cX8_commonDivisor 44 = .ok (.lload 4, 2) := by decide +kernel
theorem dX8_commonDivisor_46 : decode cX8_commonDivisor 46 = .ok (.lreturn, 1) := by decide +kernel
theorem dX8_seekRing_0 : decode cX8_seekRing 0 = .ok (.aload_n 0, 1) := by decide +kernel
theorem dX8_seekRing_1 : decode cX8_seekRing 1 = .ok (.getfield 67, 3) := by decide +kernel
theorem dX8_seekRing_4 : decode cX8_seekRing 4 = .ok (.invokevirtual 330, 3) := by decide +kernel
theorem dX8_seekRing_7 : decode cX8_seekRing 7 = .ok (.iconst 2, 1) := by decide +kernel
theorem dX8_seekRing_8 : decode cX8_seekRing 8 = .ok (.istore_n 1, 1) := by decide +kernel
theorem dX8_seekRing_9 : decode cX8_seekRing 9 = .ok (.iload_n 1, 1) := by decide +kernel
theorem dX8_seekRing_10 : decode cX8_seekRing 10 = .ok (.iconst 4, 1) := by decide +kernel
theorem dX8_seekRing_11 : decode cX8_seekRing 11 = .ok (.if_icmp .gt 49, 3) := by decide +kernel
theorem dX8_seekRing_14 : decode cX8_seekRing 14 = .ok (.iconst 1, 1) := by decide +kernel
theorem dX8_seekRing_15 : decode cX8_seekRing 15 = .ok (.iconst 2, 1) := by decide +kernel
theorem dX8_seekRing_16 : decode cX8_seekRing 16 = .ok (.iload_n 1, 1) := by decide +kernel
theorem dX8_seekRing_17 : decode cX8_seekRing 17 = .ok (.imul, 1) := by decide +kernel
theorem dX8_seekRing_18 : decode cX8_seekRing 18 = .ok (.ishl, 1) := by decide +kernel
theorem dX8_seekRing_19 : decode cX8_seekRing 19 = .ok (.istore_n 2, 1) := by decide +kernel
theorem dX8_seekRing_20 : decode cX8_seekRing 20 = .ok (.iconst 0, 1) := by decide +kernel
theorem dX8_seekRing_21 : decode cX8_seekRing 21 = .ok (.istore_n 3, 1) := by decide +kernel
theorem dX8_seekRing_22 : decode cX8_seekRing 22 = .ok (.iload_n 3, 1) := by decide +kernel
theorem dX8_seekRing_23 : decode cX8_seekRing 23 = .ok (.iload_n 2, 1) := by decide +kernel
theorem dX8_seekRing_24 : decode cX8_seekRing 24 = .ok (.if_icmp .ge 30, 3) := by decide +kernel
theorem dX8_seekRing_27 : decode cX8_seekRing 27 = .ok (.iload_n 3, 1) := by decide +kernel
theorem dX8_seekRing_28 : decode cX8_seekRing 28 = .ok (.iload_n 1, 1) := by decide +kernel
theorem dX8_seekRing_29 : decode cX8_seekRing 29 = .ok (.invokestatic 331, 3) := by decide +kernel
theorem dX8_seekRing_32 : decode cX8_seekRing 32 = .ok (.ifCond .eq 16, 3) := by decide +kernel
theorem dX8_seekRing_35 : decode cX8_seekRing 35 = .ok (.aload_n 0, 1) := by decide +kernel
theorem dX8_seekRing_36 : decode cX8_seekRing 36 = .ok (.getfield 67, 3) := by decide +kernel
theorem dX8_seekRing_39 : decode cX8_seekRing 39 = .ok (.aload_n 0, 1) := by decide +kernel
theorem dX8_seekRing_40 : decode cX8_seekRing 40 = .ok (.getfield 40, 3) := by decide +kernel
theorem dX8_seekRing_43 : decode cX8_seekRing 43 = .ok (.iload_n 3, 1) := by decide +kernel
theorem dX8_seekRing_44 : decode cX8_seekRing 44 = .ok (.iload_n 1, 1) := by decide +kernel
theorem dX8_seekRing_45 : decode cX8_seekRing 45 = .ok (.invokevirtual 335, 3) := by decide +kernel
theorem dX8_seekRing_48 : decode cX8_seekRing 48 = .ok (.iinc 3 1, 3) := by decide +kernel
theorem dX8_seekRing_51 : decode cX8_seekRing 51 = .ok (.goto (-29), 3) := by decide +kernel
theorem dX8_seekRing_54 : decode cX8_seekRing 54 = .ok (.iinc 1 1, 3) := by decide +kernel
theorem dX8_seekRing_57 : decode cX8_seekRing 57 = .ok (.goto (-48), 3) := by decide +kernel
theorem dX8_seekRing_60 : decode cX8_seekRing 60 = .ok (.return_, 1) := by decide +kernel
theorem kX8_write_0 {X : Scr} {M : Mem} {P : Option AV → Mem → Prop} {x1 x2 : Int} (k1 : x1 < (1 : Int) → Runs X mX8_write 11 [] [] M P) (k2 : (1 : Int) ≤ x1 → Runs X mX8_write 5 [(0, vr 0), (1, vi x1), (2, vl x2)] [] M P) : Runs X mX8_write 0 [(0, vr 0), (1, vi x1), (2, vl x2)] [] M P := by
  refine Runs.iload_n (j := 1) dX8_write_0 rfl ?_
  refine Runs.iconst dX8_write_1 (by decide) ?_
  refine Runs.icmp_lt (tgt := 11) dX8_write_2 (by decide) (fun h => ?_) (fun h => ?_)
  · refine Runs.picks (loc' := []) [] rfl ?_
    exact k1 h
  · exact k2 h
theorem kX8_write_5 {X : Scr} {M : Mem} {P : Option AV → Mem → Prop} {x1 x2 : Int} (k1 : x1 ≤ (8 : Int) → Runs X mX8_write 14 [(0, vr 0), (1, vi x1), (2, vl x2)] [] M P) (k2 : (8 : Int) < x1 → Runs X mX8_write 11 [] [] M P) : Runs X mX8_write 5 [(0, vr 0), (1, vi x1), (2, vl x2)] [] M P := by
  refine Runs.iload_n (j := 1) dX8_write_5 rfl ?_
  refine Runs.bipush dX8_write_6 (by decide) (by decide) ?_
  refine Runs.icmp_le (tgt := 14) dX8_write_8 (by decide) (fun h => ?_) (fun h => ?_)
  · exact k1 h
  · refine Runs.picks (loc' := []) [] rfl ?_
    exact k2 h
theorem kX8_write_11 {X : Scr} {M : Mem} {P : Option AV → Mem → Prop} (k : P (some (vi (-2 : Int))) M) : Runs X mX8_write 11 [] [] M P := by
  refine Runs.bipush dX8_write_11 (by decide) (by decide) ?_
  exact Runs.reti dX8_write_13 rfl k
theorem kX8_write_14 {X : Scr} {M : Mem} {P : Option AV → Mem → Prop} {x1 x2 : Int} (k1 : ((M 1 1) + x1) ≤ (72 : Int) → Runs X mX8_write 31 [(0, vr 0), (1, vi x1), (2, vl x2)] [] M P) (k2 : (72 : Int) < ((M 1 1) + x1) → Runs X mX8_write 28 [] [] M P) (h1 : -2147483648 ≤ ((M 1 1) + x1) ∧ ((M 1 1) + x1) ≤ 2147483647 := by omega) : Runs X mX8_write 14 [(0, vr 0), (1, vi x1), (2, vl x2)] [] M P := by
  refine Runs.aload_n (j := 0) dX8_write_14 rfl ?_
  refine Runs.getr (o' := 1) (ci := 8) (j := 0) (C := RX8) (T := TX8) (N := 12) dX8_write_15 rfl cls_X8 (by decide) rfl fl_X8_10 rfl ⟨rfl, _, Or.inl rfl⟩ ?_
  refine Runs.geti (ci := 7) (j := 1) (C := RX7) (T := TX7) (N := 2) dX8_write_18 rfl cls_X7 (by decide) rfl fl_X8_79 (Or.inl rfl) ?_
  refine Runs.iload_n (j := 1) dX8_write_21 rfl ?_
  refine Runs.iadd dX8_write_22 h1 ?_
  refine Runs.bipush dX8_write_23 (by decide) (by decide) ?_
  refine Runs.icmp_le (tgt := 31) dX8_write_25 (by decide) (fun h => ?_) (fun h => ?_)
  · exact k1 h
  · refine Runs.picks (loc' := []) [] rfl ?_
    exact k2 h
theorem kX8_write_28 {X : Scr} {M : Mem} {P : Option AV → Mem → Prop} (k : P (some (vi (-4 : Int))) M) : Runs X mX8_write 28 [] [] M P := by
  refine Runs.bipush dX8_write_28 (by decide) (by decide) ?_
  exact Runs.reti dX8_write_30 rfl k
theorem kX8_write_31 {X : Scr} {M : Mem} {P : Option AV → Mem → Prop} {x1 x2 : Int} (k : Runs X mX8_write 36 [(0, vr 0), (2, vl x2), (4, vi (x1 - (1 : Int)))] [] M P) (h1 : -2147483648 ≤ (x1 - (1 : Int)) ∧ (x1 - (1 : Int)) ≤ 2147483647 := by omega) : Runs X mX8_write 31 [(0, vr 0), (1, vi x1), (2, vl x2)] [] M P := by
  refine Runs.iload_n (j := 1) dX8_write_31 rfl ?_
  refine Runs.iconst dX8_write_32 (by decide) ?_
  refine Runs.isub dX8_write_33 h1 ?_
  refine Runs.istore (loc' := [(0, vr 0), (1, vi x1), (2, vl x2), (4, vi (x1 - (1 : Int)))]) dX8_write_34 (by decide) rfl ?_
  refine Runs.picks (loc' := [(0, vr 0), (2, vl x2), (4, vi (x1 - (1 : Int)))]) [0, 2, 3] rfl ?_
  exact k
theorem kX8_write_36 {X : Scr} {M : Mem} {P : Option AV → Mem → Prop} {x2 x4 : Int} (k1 : x4 < 0 → Runs X mX8_write 63 [(0, vr 0)] [] M P) (k2 : 0 ≤ x4 → Runs X mX8_write 41 [(0, vr 0), (2, vl x2), (4, vi x4)] [] M P) : Runs X mX8_write 36 [(0, vr 0), (2, vl x2), (4, vi x4)] [] M P := by
  refine Runs.iload (j := 2) dX8_write_36 rfl ?_
  refine Runs.if_lt (tgt := 63) dX8_write_38 (by decide) (fun h => ?_) (fun h => ?_)
  · refine Runs.picks (loc' := [(0, vr 0)]) [0] rfl ?_
    exact k1 h
  · exact k2 h
theorem kX8_write_41 {X : Scr} {M : Mem} {P Q : Option AV → Mem → Prop} {x2 x4 : Int} (hC : Call X mX7_append [vr 1, vi (i2b (l2i (qushr x2 ((8 : Int) * x4))))] M Q) (k : ∀ (M1 : Mem), Q none M1 → Runs X mX8_write 57 [(0, vr 0), (2, vl x2), (4, vi x4)] [] M1 P) (h1 : -2147483648 ≤ ((8 : Int) * x4) ∧ ((8 : Int) * x4) ≤ 2147483647 := by omega) : Runs X mX8_write 41 [(0, vr 0), (2, vl x2), (4, vi x4)] [] M P := by
  refine Runs.aload_n (j := 0) dX8_write_41 rfl ?_
  refine Runs.getr (o' := 1) (ci := 8) (j := 0) (C := RX8) (T := TX8) (N := 12) dX8_write_42 rfl cls_X8 (by decide) rfl fl_X8_10 rfl ⟨rfl, _, Or.inl rfl⟩ ?_
  refine Runs.lload_n (j := 1) dX8_write_45 rfl ?_
  refine Runs.bipush dX8_write_46 (by decide) (by decide) ?_
  refine Runs.iload (j := 2) dX8_write_48 rfl ?_
  refine Runs.imul dX8_write_50 h1 ?_
  refine Runs.lushr dX8_write_51 ?_
  refine Runs.l2i dX8_write_52 ?_
  refine Runs.i2b dX8_write_53 ?_
  refine Runs.callVv (y := mX7_append) (n := 1) (as := [vi (i2b (l2i (qushr x2 ((8 : Int) * x4))))]) (st := []) (q := (RX7, TX7, 2)) dX8_write_54 oc_X7_append im_X7_append se_X7_append ml_X8_82 rfl ⟨(Nat.le_of_ble_eq_true rfl), (Nat.le_of_ble_eq_true rfl)⟩ (Nat.le_of_ble_eq_true rfl) (Nat.le_of_ble_eq_true rfl) rfl rfl rfl rfl hC (fun M1 hQ => ?_)
  exact k M1 hQ
theorem kX8_write_57 {X : Scr} {M : Mem} {P : Option AV → Mem → Prop} {x2 x4 : Int} (k : Runs X mX8_write 36 [(0, vr 0), (2, vl x2), (4, vi (x4 + (-1 : Int)))] [] M P) (h1 : -2147483648 ≤ (x4 + (-1 : Int)) ∧ (x4 + (-1 : Int)) ≤ 2147483647 := by omega) : Runs X mX8_write 57 [(0, vr 0), (2, vl x2), (4, vi x4)] [] M P := by
  refine Runs.iinc (k := 2) (loc' := [(0, vr 0), (2, vl x2), (4, vi (x4 + (-1 : Int)))]) dX8_write_57 rfl h1 (by decide) rfl ?_
  refine Runs.goto (tgt := 36) dX8_write_60 (by decide) ?_
  exact k
theorem kX8_write_63 {X : Scr} {M : Mem} {P : Option AV → Mem → Prop} (k : P (some (vi (M 1 1))) M) : Runs X mX8_write 63 [(0, vr 0)] [] M P := by
  refine Runs.aload_n (j := 0) dX8_write_63 rfl ?_
  refine Runs.getr (o' := 1) (ci := 8) (j := 0) (C := RX8) (T := TX8) (N := 12) dX8_write_64 rfl cls_X8 (by decide) rfl fl_X8_10 rfl ⟨rfl, _, Or.inl rfl⟩ ?_
  refine Runs.geti (ci := 7) (j := 1) (C := RX7) (T := TX7) (N := 2) dX8_write_67 rfl cls_X7 (by decide) rfl fl_X8_79 (Or.inl rfl) ?_
  exact Runs.reti dX8_write_70 rfl k
theorem kX8_wipe_0 {X : Scr} {M : Mem} {P : Option AV → Mem → Prop} (k : P (some (vi (M 1 1))) (up2 M 1 1 (0 : Int))) : Runs X mX8_wipe 0 [(0, vr 0)] [] M P := by
  refine Runs.aload_n (j := 0) dX8_wipe_0 rfl ?_
  refine Runs.getr (o' := 1) (ci := 8) (j := 0) (C := RX8) (T := TX8) (N := 12) dX8_wipe_1 rfl cls_X8 (by decide) rfl fl_X8_10 rfl ⟨rfl, _, Or.inl rfl⟩ ?_
  refine Runs.geti (ci := 7) (j := 1) (C := RX7) (T := TX7) (N := 2) dX8_wipe_4 rfl cls_X7 (by decide) rfl fl_X8_79 (Or.inl rfl) ?_
  refine Runs.istore_n (loc' := [(0, vr 0), (1, vi (M 1 1))]) dX8_wipe_7 rfl (by decide) rfl ?_
  refine Runs.aload_n (j := 0) dX8_wipe_8 rfl ?_
  refine Runs.getr (o' := 1) (ci := 8) (j := 0) (C := RX8) (T := TX8) (N := 12) dX8_wipe_9 rfl cls_X8 (by decide) rfl fl_X8_10 rfl ⟨rfl, _, Or.inl rfl⟩ ?_
  refine Runs.iconst dX8_wipe_12 (by decide) ?_
  refine Runs.puti (ci := 7) (j := 1) (C := RX7) (T := TX7) (N := 2) dX8_wipe_13 rfl cls_X7 (by decide) rfl fl_X8_79 rfl rfl ?_
  refine Runs.iload_n (j := 1) dX8_wipe_16 rfl ?_
  exact Runs.reti dX8_wipe_17 rfl k
theorem kX8_fault_0 {X : Scr} {M : Mem} {P Q : Option AV → Mem → Prop} (hC : Call X mX7_faultPlace [vr 1] M Q) (k : ∀ (z : Int) (M1 : Mem), Q (some (vi z)) M1 → Runs X mX8_fault 7 [] [vi z] M1 P) : Runs X mX8_fault 0 [(0, vr 0)] [] M P := by
  refine Runs.aload_n (j := 0) dX8_fault_0 rfl ?_
  refine Runs.getr (o' := 1) (ci := 8) (j := 0) (C := RX8) (T := TX8) (N := 12) dX8_fault_1 rfl cls_X8 (by decide) rfl fl_X8_10 rfl ⟨rfl, _, Or.inl rfl⟩ ?_
  refine Runs.callVi (y := mX7_faultPlace) (n := 0) (as := []) (st := []) (q := (RX7, TX7, 2)) dX8_fault_4 oc_X7_faultPlace im_X7_faultPlace se_X7_faultPlace ml_X8_86 rfl ⟨(Nat.le_of_ble_eq_true rfl), (Nat.le_of_ble_eq_true rfl)⟩ (Nat.le_of_ble_eq_true rfl) (Nat.le_of_ble_eq_true rfl) rfl rfl rfl (Or.inl rfl) hC (fun z M1 hQ => ?_)
  refine Runs.picks (loc' := []) [] rfl ?_
  exact k z M1 hQ
theorem kX8_fault_7 {X : Scr} {M : Mem} {P : Option AV → Mem → Prop} {xs0 : Int} (k : P (some (vi xs0)) M) : Runs X mX8_fault 7 [] [vi xs0] M P := by
  exact Runs.reti dX8_fault_7 rfl k
theorem kX8_market_0 {X : Scr} {M : Mem} {P Q : Option AV → Mem → Prop} (hC : Call X mX7_faultPlace [vr 1] M Q) (k : ∀ (z : Int) (M1 : Mem), Q (some (vi z)) M1 → Runs X mX8_market 7 [(0, vr 0)] [vi z] M1 P) : Runs X mX8_market 0 [(0, vr 0)] [] M P := by
  refine Runs.aload_n (j := 0) dX8_market_0 rfl ?_
  refine Runs.getr (o' := 1) (ci := 8) (j := 0) (C := RX8) (T := TX8) (N := 12) dX8_market_1 rfl cls_X8 (by decide) rfl fl_X8_10 rfl ⟨rfl, _, Or.inl rfl⟩ ?_
  refine Runs.callVi (y := mX7_faultPlace) (n := 0) (as := []) (st := []) (q := (RX7, TX7, 2)) dX8_market_4 oc_X7_faultPlace im_X7_faultPlace se_X7_faultPlace ml_X8_86 rfl ⟨(Nat.le_of_ble_eq_true rfl), (Nat.le_of_ble_eq_true rfl)⟩ (Nat.le_of_ble_eq_true rfl) (Nat.le_of_ble_eq_true rfl) rfl rfl rfl (Or.inl rfl) hC (fun z M1 hQ => ?_)
  exact k z M1 hQ
theorem kX8_market_7 {X : Scr} {M : Mem} {P : Option AV → Mem → Prop} {xs0 : Int} (k1 : xs0 = (-9 : Int) → Runs X mX8_market 15 [(0, vr 0)] [] M P) (k2 : xs0 ≠ (-9 : Int) → Runs X mX8_market 12 [] [] M P) : Runs X mX8_market 7 [(0, vr 0)] [vi xs0] M P := by
  refine Runs.bipush dX8_market_7 (by decide) (by decide) ?_
  refine Runs.icmp_eq (tgt := 15) dX8_market_9 (by decide) (fun h => ?_) (fun h => ?_)
  · exact k1 h
  · refine Runs.picks (loc' := []) [] rfl ?_
    exact k2 h
theorem kX8_market_12 {X : Scr} {M : Mem} {P : Option AV → Mem → Prop} (k : P (some (vi (-3 : Int))) M) : Runs X mX8_market 12 [] [] M P := by
  refine Runs.bipush dX8_market_12 (by decide) (by decide) ?_
  exact Runs.reti dX8_market_14 rfl k
theorem kX8_market_15 {X : Scr} {M : Mem} {P Q : Option AV → Mem → Prop} (hC : Call X mX7_figureAt [vr 1, vi (1 : Int)] M Q) (k : ∀ (z : Int) (M1 : Mem), Q (some (vi z)) M1 → Runs X mX8_market 24 [(0, vr 0)] [vi z, vr 0] M1 P) : Runs X mX8_market 15 [(0, vr 0)] [] M P := by
  refine Runs.aload_n (j := 0) dX8_market_15 rfl ?_
  refine Runs.aload_n (j := 0) dX8_market_16 rfl ?_
  refine Runs.getr (o' := 1) (ci := 8) (j := 0) (C := RX8) (T := TX8) (N := 12) dX8_market_17 rfl cls_X8 (by decide) rfl fl_X8_10 rfl ⟨rfl, _, Or.inl rfl⟩ ?_
  refine Runs.iconst dX8_market_20 (by decide) ?_
  refine Runs.callVi (y := mX7_figureAt) (n := 1) (as := [vi (1 : Int)]) (st := [vr 0]) (q := (RX7, TX7, 2)) dX8_market_21 oc_X7_figureAt im_X7_figureAt se_X7_figureAt ml_X8_90 rfl ⟨(Nat.le_of_ble_eq_true rfl), (Nat.le_of_ble_eq_true rfl)⟩ (Nat.le_of_ble_eq_true rfl) (Nat.le_of_ble_eq_true rfl) rfl rfl rfl (Or.inl rfl) hC (fun z M1 hQ => ?_)
  exact k z M1 hQ
theorem kX8_market_24 {X : Scr} {M : Mem} {P Q : Option AV → Mem → Prop} {xs1 : Int} (hC : Call X mX7_figureAt [vr 1, vi (2 : Int)] (up2 M 0 6 xs1) Q) (k : ∀ (z : Int) (M1 : Mem), Q (some (vi z)) M1 → Runs X mX8_market 36 [(0, vr 0)] [vi z, vr 0] M1 P) : Runs X mX8_market 24 [(0, vr 0)] [vi xs1, vr 0] M P := by
  refine Runs.puti (ci := 8) (j := 6) (C := RX8) (T := TX8) (N := 12) dX8_market_24 rfl cls_X8 (by decide) rfl fl_X8_50 rfl rfl ?_
  refine Runs.aload_n (j := 0) dX8_market_27 rfl ?_
  refine Runs.aload_n (j := 0) dX8_market_28 rfl ?_
  refine Runs.getr (o' := 1) (ci := 8) (j := 0) (C := RX8) (T := TX8) (N := 12) dX8_market_29 rfl cls_X8 (by decide) rfl fl_X8_10 rfl ⟨rfl, _, Or.inl rfl⟩ ?_
  refine Runs.iconst dX8_market_32 (by decide) ?_
  refine Runs.callVi (y := mX7_figureAt) (n := 1) (as := [vi (2 : Int)]) (st := [vr 0]) (q := (RX7, TX7, 2)) dX8_market_33 oc_X7_figureAt im_X7_figureAt se_X7_figureAt ml_X8_90 rfl ⟨(Nat.le_of_ble_eq_true rfl), (Nat.le_of_ble_eq_true rfl)⟩ (Nat.le_of_ble_eq_true rfl) (Nat.le_of_ble_eq_true rfl) rfl rfl rfl (Or.inl rfl) hC (fun z M1 hQ => ?_)
  exact k z M1 hQ
theorem kX8_market_36 {X : Scr} {M : Mem} {P : Option AV → Mem → Prop} {xs1 : Int} (k : Runs X mX8_market 65 [(0, vr 0), (1, vi (3 : Int))] [] (up2 (up2 (up2 (up2 M 0 7 xs1) (oT 0) 1 (0 : Int)) 3 2 (0 : Int)) (oB 0) 1 (0 : Int)) P) : Runs X mX8_market 36 [(0, vr 0)] [vi xs1, vr 0] M P := by
  refine Runs.puti (ci := 8) (j := 7) (C := RX8) (T := TX8) (N := 12) dX8_market_36 rfl cls_X8 (by decide) rfl fl_X8_54 rfl rfl ?_
  refine Runs.aload_n (j := 0) dX8_market_39 rfl ?_
  refine Runs.getr (o' := (oT 0)) (ci := 8) (j := 1) (C := RX8) (T := TX8) (N := 12) dX8_market_40 rfl cls_X8 (by decide) rfl fl_X8_19 rfl ⟨rfl, _, Or.inl rfl⟩ ?_
  refine Runs.iconst dX8_market_43 (by decide) ?_
  refine Runs.puti (ci := 6) (j := 1) (C := RX6) (T := TX6) (N := 2) dX8_market_44 (kd_oT (by omega)) cls_X6 (by decide) rfl fl_X8_94 rfl rfl ?_
  refine Runs.aload_n (j := 0) dX8_market_47 rfl ?_
  refine Runs.getr (o' := 3) (ci := 8) (j := 2) (C := RX8) (T := TX8) (N := 12) dX8_market_48 rfl cls_X8 (by decide) rfl fl_X8_26 rfl ⟨rfl, _, Or.inl rfl⟩ ?_
  refine Runs.iconst dX8_market_51 (by decide) ?_
  refine Runs.puti (ci := 1) (j := 2) (C := RX1) (T := TX1) (N := 3) dX8_market_52 rfl cls_X1 (by decide) rfl fl_X8_97 rfl rfl ?_
  refine Runs.aload_n (j := 0) dX8_market_55 rfl ?_
  refine Runs.getr (o' := (oB 0)) (ci := 8) (j := 3) (C := RX8) (T := TX8) (N := 12) dX8_market_56 rfl cls_X8 (by decide) rfl fl_X8_33 rfl ⟨rfl, _, Or.inl rfl⟩ ?_
  refine Runs.iconst dX8_market_59 (by decide) ?_
  refine Runs.puti (ci := 0) (j := 1) (C := RX0) (T := TX0) (N := 2) dX8_market_60 (kd_oB (by omega)) cls_X0 (by decide) rfl fl_X8_98 rfl rfl ?_
  refine Runs.iconst dX8_market_63 (by decide) ?_
  refine Runs.istore_n (loc' := [(0, vr 0), (1, vi (3 : Int))]) dX8_market_64 rfl (by decide) rfl ?_
  exact k
theorem kX8_market_65 {X : Scr} {M : Mem} {P : Option AV → Mem → Prop} {x1 : Int} (k1 : (M 1 1) ≤ x1 → Runs X mX8_market 102 [(0, vr 0)] [] M P) (k2 : x1 < (M 1 1) → Runs X mX8_market 76 [(0, vr 0), (1, vi x1)] [] M P) : Runs X mX8_market 65 [(0, vr 0), (1, vi x1)] [] M P := by
  refine Runs.iload_n (j := 1) dX8_market_65 rfl ?_
  refine Runs.aload_n (j := 0) dX8_market_66 rfl ?_
  refine Runs.getr (o' := 1) (ci := 8) (j := 0) (C := RX8) (T := TX8) (N := 12) dX8_market_67 rfl cls_X8 (by decide) rfl fl_X8_10 rfl ⟨rfl, _, Or.inl rfl⟩ ?_
  refine Runs.geti (ci := 7) (j := 1) (C := RX7) (T := TX7) (N := 2) dX8_market_70 rfl cls_X7 (by decide) rfl fl_X8_79 (Or.inl rfl) ?_
  refine Runs.icmp_ge (tgt := 102) dX8_market_73 (by decide) (fun h => ?_) (fun h => ?_)
  · refine Runs.picks (loc' := [(0, vr 0)]) [0] rfl ?_
    exact k1 h
  · exact k2 h
theorem kX8_market_76 {X : Scr} {M : Mem} {P Q : Option AV → Mem → Prop} {x1 : Int} (hC : Call X mX8_readPart [vr 0, vi x1] M Q) (k : ∀ (M1 : Mem), Q none M1 → Runs X mX8_market 81 [(0, vr 0), (1, vi x1)] [] M1 P) : Runs X mX8_market 76 [(0, vr 0), (1, vi x1)] [] M P := by
  refine Runs.aload_n (j := 0) dX8_market_76 rfl ?_
  refine Runs.iload_n (j := 1) dX8_market_77 rfl ?_
  refine Runs.callVv (y := mX8_readPart) (n := 1) (as := [vi x1]) (st := []) (q := (RX8, TX8, 12)) dX8_market_78 oc_X8_readPart im_X8_readPart se_X8_readPart ml_X8_101 rfl ⟨(Nat.le_of_ble_eq_true rfl), (Nat.le_of_ble_eq_true rfl)⟩ (Nat.le_of_ble_eq_true rfl) (Nat.le_of_ble_eq_true rfl) rfl rfl rfl rfl hC (fun M1 hQ => ?_)
  exact k M1 hQ
theorem kX8_market_81 {X : Scr} {M : Mem} {P Q : Option AV → Mem → Prop} {x1 : Int} (hC : Call X mX7_byteAt [vr 1, vi x1] M Q) (k : ∀ (z : Int) (M1 : Mem), Q (some (vi z)) M1 → Runs X mX8_market 91 [(0, vr 0)] [vi z, vi (1 : Int), vi x1] M1 P) : Runs X mX8_market 81 [(0, vr 0), (1, vi x1)] [] M P := by
  refine Runs.iload_n (j := 1) dX8_market_81 rfl ?_
  refine Runs.iconst dX8_market_82 (by decide) ?_
  refine Runs.aload_n (j := 0) dX8_market_83 rfl ?_
  refine Runs.getr (o' := 1) (ci := 8) (j := 0) (C := RX8) (T := TX8) (N := 12) dX8_market_84 rfl cls_X8 (by decide) rfl fl_X8_10 rfl ⟨rfl, _, Or.inl rfl⟩ ?_
  refine Runs.iload_n (j := 1) dX8_market_87 rfl ?_
  refine Runs.callVi (y := mX7_byteAt) (n := 1) (as := [vi x1]) (st := [vi (1 : Int), vi x1]) (q := (RX7, TX7, 2)) dX8_market_88 oc_X7_byteAt im_X7_byteAt se_X7_byteAt ml_X8_105 rfl ⟨(Nat.le_of_ble_eq_true rfl), (Nat.le_of_ble_eq_true rfl)⟩ (Nat.le_of_ble_eq_true rfl) (Nat.le_of_ble_eq_true rfl) rfl rfl rfl (Or.inl rfl) hC (fun z M1 hQ => ?_)
  refine Runs.picks (loc' := [(0, vr 0)]) [0] rfl ?_
  exact k z M1 hQ
theorem kX8_market_91 {X : Scr} {M : Mem} {P Q : Option AV → Mem → Prop} {xs0 xs1 xs2 : Int} (hC : Call X mX7_partLength [vi xs2] M Q) (k : ∀ (z : Int) (M1 : Mem), Q (some (vi z)) M1 → Runs X mX8_market 94 [(0, vr 0)] [vi z, vi xs1, vi xs0] M1 P) : Runs X mX8_market 91 [(0, vr 0)] [vi xs2, vi xs1, vi xs0] M P := by
  refine Runs.callSi (y := mX7_partLength) (n := 1) (as := [vi xs2]) (st := [vi xs1, vi xs0]) dX8_market_91 oc_X7_partLength sm_X7_partLength ml_X8_108 rfl ⟨(Nat.le_of_ble_eq_true rfl), (Nat.le_of_ble_eq_true rfl)⟩ (Nat.le_of_ble_eq_true rfl) (Nat.le_of_ble_eq_true rfl) (Or.inl rfl) hC (fun z M1 hQ => ?_)
  exact k z M1 hQ
theorem kX8_market_94 {X : Scr} {M : Mem} {P : Option AV → Mem → Prop} {xs0 xs1 xs2 : Int} (k : Runs X mX8_market 65 [(0, vr 0), (1, vi (xs0 + (max xs1 xs2)))] [] M P) (h1 : -2147483648 ≤ (xs0 + (max xs1 xs2)) ∧ (xs0 + (max xs1 xs2)) ≤ 2147483647 := by omega) : Runs X mX8_market 94 [(0, vr 0)] [vi xs2, vi xs1, vi xs0] M P := by
  refine Runs.mmax dX8_market_94 w2_47 nat_mmax ⟨by decide, Nat.le_of_ble_eq_true rfl⟩ ?_
  refine Runs.iadd dX8_market_97 h1 ?_
  refine Runs.istore_n (loc' := [(0, vr 0), (1, vi (xs0 + (max xs1 xs2)))]) dX8_market_98 rfl (by decide) rfl ?_
  refine Runs.goto (tgt := 65) dX8_market_99 (by decide) ?_
  exact k
theorem kX8_market_102 {X : Scr} {M : Mem} {P : Option AV → Mem → Prop} (k : P (some (vi (M (oT 0) 1))) M) : Runs X mX8_market 102 [(0, vr 0)] [] M P := by
  refine Runs.aload_n (j := 0) dX8_market_102 rfl ?_
  refine Runs.getr (o' := (oT 0)) (ci := 8) (j := 1) (C := RX8) (T := TX8) (N := 12) dX8_market_103 rfl cls_X8 (by decide) rfl fl_X8_19 rfl ⟨rfl, _, Or.inl rfl⟩ ?_
  refine Runs.geti (ci := 6) (j := 1) (C := RX6) (T := TX6) (N := 2) dX8_market_106 (kd_oT (by omega)) cls_X6 (by decide) rfl fl_X8_94 (Or.inl rfl) ?_
  exact Runs.reti dX8_market_109 rfl k
theorem kX8_about_0 {X : Scr} {M : Mem} {P : Option AV → Mem → Prop} {x1 : Int} (c0 : x1 = 0 → Runs X mX8_about 44 [(0, vr 0)] [] M P) (c1 : x1 = 1 → Runs X mX8_about 52 [(0, vr 0)] [] M P) (c2 : x1 = 2 → Runs X mX8_about 60 [(0, vr 0)] [] M P) (c3 : x1 = 3 → Runs X mX8_about 65 [(0, vr 0)] [] M P) (c4 : x1 = 4 → Runs X mX8_about 70 [(0, vr 0)] [] M P) (c5 : x1 = 5 → Runs X mX8_about 78 [(0, vr 0)] [] M P) (c6 : x1 = 6 → Runs X mX8_about 86 [(0, vr 0)] [] M P) (cd : x1 < 0 ∨ 6 < x1 → Runs X mX8_about 94 [] [] M P) : Runs X mX8_about 0 [(0, vr 0), (1, vi x1)] [] M P := by
  refine Runs.iload_n (j := 1) dX8_about_0 rfl ?_
  rcases Classical.em (0 ≤ x1 ∧ x1 ≤ 6) with hq | hq
  · obtain ⟨hq1, hq2⟩ := hq
    rcases (show x1 = 0 ∨ x1 = 1 ∨ x1 = 2 ∨ x1 = 3 ∨ x1 = 4 ∨ x1 = 5 ∨ x1 = 6 by omega) with h | h | h | h | h | h | h
    · refine Runs.tableIn (tgt := 44) dX8_about_1 hq1 hq2 (by rw [h] <;> rfl) (by decide) ?_
      refine Runs.picks (loc' := [(0, vr 0)]) [0] rfl ?_
      exact c0 h
    · refine Runs.tableIn (tgt := 52) dX8_about_1 hq1 hq2 (by rw [h] <;> rfl) (by decide) ?_
      refine Runs.picks (loc' := [(0, vr 0)]) [0] rfl ?_
      exact c1 h
    · refine Runs.tableIn (tgt := 60) dX8_about_1 hq1 hq2 (by rw [h] <;> rfl) (by decide) ?_
      refine Runs.picks (loc' := [(0, vr 0)]) [0] rfl ?_
      exact c2 h
    · refine Runs.tableIn (tgt := 65) dX8_about_1 hq1 hq2 (by rw [h] <;> rfl) (by decide) ?_
      refine Runs.picks (loc' := [(0, vr 0)]) [0] rfl ?_
      exact c3 h
    · refine Runs.tableIn (tgt := 70) dX8_about_1 hq1 hq2 (by rw [h] <;> rfl) (by decide) ?_
      refine Runs.picks (loc' := [(0, vr 0)]) [0] rfl ?_
      exact c4 h
    · refine Runs.tableIn (tgt := 78) dX8_about_1 hq1 hq2 (by rw [h] <;> rfl) (by decide) ?_
      refine Runs.picks (loc' := [(0, vr 0)]) [0] rfl ?_
      exact c5 h
    · refine Runs.tableIn (tgt := 86) dX8_about_1 hq1 hq2 (by rw [h] <;> rfl) (by decide) ?_
      refine Runs.picks (loc' := [(0, vr 0)]) [0] rfl ?_
      exact c6 h
  · have hq : x1 < 0 ∨ 6 < x1 := by omega
    refine Runs.tableOut (tgt := 94) dX8_about_1 hq (by decide) ?_
    refine Runs.picks (loc' := []) [] rfl ?_
    exact cd hq
theorem kX8_about_44 {X : Scr} {M : Mem} {P : Option AV → Mem → Prop} (k : P (some (vi (M (oT 0) 1))) M) : Runs X mX8_about 44 [(0, vr 0)] [] M P := by
  refine Runs.aload_n (j := 0) dX8_about_44 rfl ?_
  refine Runs.getr (o' := (oT 0)) (ci := 8) (j := 1) (C := RX8) (T := TX8) (N := 12) dX8_about_45 rfl cls_X8 (by decide) rfl fl_X8_19 rfl ⟨rfl, _, Or.inl rfl⟩ ?_
  refine Runs.geti (ci := 6) (j := 1) (C := RX6) (T := TX6) (N := 2) dX8_about_48 (kd_oT (by omega)) cls_X6 (by decide) rfl fl_X8_94 (Or.inl rfl) ?_
  exact Runs.reti dX8_about_51 rfl k
theorem kX8_about_52 {X : Scr} {M : Mem} {P : Option AV → Mem → Prop} (k : P (some (vi (M 3 2))) M) : Runs X mX8_about 52 [(0, vr 0)] [] M P := by
  refine Runs.aload_n (j := 0) dX8_about_52 rfl ?_
  refine Runs.getr (o' := 3) (ci := 8) (j := 2) (C := RX8) (T := TX8) (N := 12) dX8_about_53 rfl cls_X8 (by decide) rfl fl_X8_26 rfl ⟨rfl, _, Or.inl rfl⟩ ?_
  refine Runs.geti (ci := 1) (j := 2) (C := RX1) (T := TX1) (N := 3) dX8_about_56 rfl cls_X1 (by decide) rfl fl_X8_97 (Or.inl rfl) ?_
  exact Runs.reti dX8_about_59 rfl k
theorem kX8_about_60 {X : Scr} {M : Mem} {P : Option AV → Mem → Prop} (k : P (some (vi (M 0 6))) M) : Runs X mX8_about 60 [(0, vr 0)] [] M P := by
  refine Runs.aload_n (j := 0) dX8_about_60 rfl ?_
  refine Runs.geti (ci := 8) (j := 6) (C := RX8) (T := TX8) (N := 12) dX8_about_61 rfl cls_X8 (by decide) rfl fl_X8_50 (Or.inl rfl) ?_
  exact Runs.reti dX8_about_64 rfl k
theorem kX8_about_65 {X : Scr} {M : Mem} {P : Option AV → Mem → Prop} (k : P (some (vi (M 0 7))) M) : Runs X mX8_about 65 [(0, vr 0)] [] M P := by
  refine Runs.aload_n (j := 0) dX8_about_65 rfl ?_
  refine Runs.geti (ci := 8) (j := 7) (C := RX8) (T := TX8) (N := 12) dX8_about_66 rfl cls_X8 (by decide) rfl fl_X8_54 (Or.inl rfl) ?_
  exact Runs.reti dX8_about_69 rfl k
theorem kX8_about_70 {X : Scr} {M : Mem} {P : Option AV → Mem → Prop} (k : P (some (vi (M (oB 0) 1))) M) : Runs X mX8_about 70 [(0, vr 0)] [] M P := by
  refine Runs.aload_n (j := 0) dX8_about_70 rfl ?_
  refine Runs.getr (o' := (oB 0)) (ci := 8) (j := 3) (C := RX8) (T := TX8) (N := 12) dX8_about_71 rfl cls_X8 (by decide) rfl fl_X8_33 rfl ⟨rfl, _, Or.inl rfl⟩ ?_
  refine Runs.geti (ci := 0) (j := 1) (C := RX0) (T := TX0) (N := 2) dX8_about_74 (kd_oB (by omega)) cls_X0 (by decide) rfl fl_X8_98 (Or.inl rfl) ?_
  exact Runs.reti dX8_about_77 rfl k
theorem kX8_about_78 {X : Scr} {M : Mem} {P : Option AV → Mem → Prop} (k : P (some (vi (M 1 1))) M) : Runs X mX8_about 78 [(0, vr 0)] [] M P := by
  refine Runs.aload_n (j := 0) dX8_about_78 rfl ?_
  refine Runs.getr (o' := 1) (ci := 8) (j := 0) (C := RX8) (T := TX8) (N := 12) dX8_about_79 rfl cls_X8 (by decide) rfl fl_X8_10 rfl ⟨rfl, _, Or.inl rfl⟩ ?_
  refine Runs.geti (ci := 7) (j := 1) (C := RX7) (T := TX7) (N := 2) dX8_about_82 rfl cls_X7 (by decide) rfl fl_X8_79 (Or.inl rfl) ?_
  exact Runs.reti dX8_about_85 rfl k
theorem kX8_about_86 {X : Scr} {M : Mem} {P Q : Option AV → Mem → Prop} (hC : Call X mX6_fakes [vr (oT 0)] M Q) (k : ∀ (z : Int) (M1 : Mem), Q (some (vi z)) M1 → Runs X mX8_about 93 [] [vi z] M1 P) : Runs X mX8_about 86 [(0, vr 0)] [] M P := by
  refine Runs.aload_n (j := 0) dX8_about_86 rfl ?_
  refine Runs.getr (o' := (oT 0)) (ci := 8) (j := 1) (C := RX8) (T := TX8) (N := 12) dX8_about_87 rfl cls_X8 (by decide) rfl fl_X8_19 rfl ⟨rfl, _, Or.inl rfl⟩ ?_
  refine Runs.callVi (y := mX6_fakes) (n := 0) (as := []) (st := []) (q := (RX6, TX6, 2)) dX8_about_90 oc_X6_fakes im_X6_fakes se_X6_fakes ml_X8_117 rfl ⟨(Nat.le_of_ble_eq_true rfl), (Nat.le_of_ble_eq_true rfl)⟩ (Nat.le_of_ble_eq_true rfl) (Nat.le_of_ble_eq_true rfl) (kd_oT (by omega)) rfl rfl (Or.inl rfl) hC (fun z M1 hQ => ?_)
  refine Runs.picks (loc' := []) [] rfl ?_
  exact k z M1 hQ
theorem kX8_about_93 {X : Scr} {M : Mem} {P : Option AV → Mem → Prop} {xs0 : Int} (k : P (some (vi xs0)) M) : Runs X mX8_about 93 [] [vi xs0] M P := by
  exact Runs.reti dX8_about_93 rfl k
theorem kX8_about_94 {X : Scr} {M : Mem} {P : Option AV → Mem → Prop} (k : P (some (vi (-2 : Int))) M) : Runs X mX8_about 94 [] [] M P := by
  refine Runs.bipush dX8_about_94 (by decide) (by decide) ?_
  exact Runs.reti dX8_about_96 rfl k
theorem kX8_tooth_0 {X : Scr} {M : Mem} {P Q : Option AV → Mem → Prop} {x1 x2 : Int} (hC : Call X mX8_isTooth [vr 0, vi x1] M Q) (k : ∀ (z : Int) (M1 : Mem), Q (some (vi z)) M1 → Runs X mX8_tooth 5 [(0, vr 0), (1, vi x1), (2, vi x2)] [vi z] M1 P) : Runs X mX8_tooth 0 [(0, vr 0), (1, vi x1), (2, vi x2)] [] M P := by
  refine Runs.aload_n (j := 0) dX8_tooth_0 rfl ?_
  refine Runs.iload_n (j := 1) dX8_tooth_1 rfl ?_
  refine Runs.callVi (y := mX8_isTooth) (n := 1) (as := [vi x1]) (st := []) (q := (RX8, TX8, 12)) dX8_tooth_2 oc_X8_isTooth im_X8_isTooth se_X8_isTooth ml_X8_120 rfl ⟨(Nat.le_of_ble_eq_true rfl), (Nat.le_of_ble_eq_true rfl)⟩ (Nat.le_of_ble_eq_true rfl) (Nat.le_of_ble_eq_true rfl) rfl rfl rfl (Or.inr rfl) hC (fun z M1 hQ => ?_)
  exact k z M1 hQ
theorem kX8_tooth_5 {X : Scr} {M : Mem} {P : Option AV → Mem → Prop} {x1 x2 xs0 : Int} (k1 : xs0 ≠ 0 → Runs X mX8_tooth 10 [(0, vr 0), (1, vi x1), (2, vi x2)] [] M P) (k2 : xs0 = 0 → Runs X mX8_tooth 8 [] [] M P) : Runs X mX8_tooth 5 [(0, vr 0), (1, vi x1), (2, vi x2)] [vi xs0] M P := by
  refine Runs.if_ne (tgt := 10) dX8_tooth_5 (by decide) (fun h => ?_) (fun h => ?_)
  · exact k1 h
  · refine Runs.picks (loc' := []) [] rfl ?_
    exact k2 h
theorem kX8_tooth_8 {X : Scr} {M : Mem} {P : Option AV → Mem → Prop} (k : P (some (vi (-1 : Int))) M) : Runs X mX8_tooth 8 [] [] M P := by
  refine Runs.iconst dX8_tooth_8 (by decide) ?_
  exact Runs.reti dX8_tooth_9 rfl k
theorem kX8_tooth_10 {X : Scr} {M : Mem} {P : Option AV → Mem → Prop} {x1 x2 : Int} (c0 : x2 = 0 → Runs X mX8_tooth 48 [(0, vr 0), (1, vi x1)] [] M P) (c1 : x2 = 1 → Runs X mX8_tooth 58 [(0, vr 0), (1, vi x1)] [] M P) (c2 : x2 = 2 → Runs X mX8_tooth 68 [(0, vr 0), (1, vi x1)] [] M P) (c3 : x2 = 3 → Runs X mX8_tooth 78 [(0, vr 0), (1, vi x1)] [] M P) (c4 : x2 = 4 → Runs X mX8_tooth 88 [(0, vr 0), (1, vi x1)] [] M P) (c5 : x2 = 5 → Runs X mX8_tooth 94 [(0, vr 0), (1, vi x1)] [] M P) (cd : x2 < 0 ∨ 5 < x2 → Runs X mX8_tooth 104 [] [] M P) : Runs X mX8_tooth 10 [(0, vr 0), (1, vi x1), (2, vi x2)] [] M P := by
  refine Runs.iload_n (j := 2) dX8_tooth_10 rfl ?_
  rcases Classical.em (0 ≤ x2 ∧ x2 ≤ 5) with hq | hq
  · obtain ⟨hq1, hq2⟩ := hq
    rcases (show x2 = 0 ∨ x2 = 1 ∨ x2 = 2 ∨ x2 = 3 ∨ x2 = 4 ∨ x2 = 5 by omega) with h | h | h | h | h | h
    · refine Runs.tableIn (tgt := 48) dX8_tooth_11 hq1 hq2 (by rw [h] <;> rfl) (by decide) ?_
      refine Runs.picks (loc' := [(0, vr 0), (1, vi x1)]) [0, 1] rfl ?_
      exact c0 h
    · refine Runs.tableIn (tgt := 58) dX8_tooth_11 hq1 hq2 (by rw [h] <;> rfl) (by decide) ?_
      refine Runs.picks (loc' := [(0, vr 0), (1, vi x1)]) [0, 1] rfl ?_
      exact c1 h
    · refine Runs.tableIn (tgt := 68) dX8_tooth_11 hq1 hq2 (by rw [h] <;> rfl) (by decide) ?_
      refine Runs.picks (loc' := [(0, vr 0), (1, vi x1)]) [0, 1] rfl ?_
      exact c2 h
    · refine Runs.tableIn (tgt := 78) dX8_tooth_11 hq1 hq2 (by rw [h] <;> rfl) (by decide) ?_
      refine Runs.picks (loc' := [(0, vr 0), (1, vi x1)]) [0, 1] rfl ?_
      exact c3 h
    · refine Runs.tableIn (tgt := 88) dX8_tooth_11 hq1 hq2 (by rw [h] <;> rfl) (by decide) ?_
      refine Runs.picks (loc' := [(0, vr 0), (1, vi x1)]) [0, 1] rfl ?_
      exact c4 h
    · refine Runs.tableIn (tgt := 94) dX8_tooth_11 hq1 hq2 (by rw [h] <;> rfl) (by decide) ?_
      refine Runs.picks (loc' := [(0, vr 0), (1, vi x1)]) [0, 1] rfl ?_
      exact c5 h
  · have hq : x2 < 0 ∨ 5 < x2 := by omega
    refine Runs.tableOut (tgt := 104) dX8_tooth_11 hq (by decide) ?_
    refine Runs.picks (loc' := []) [] rfl ?_
    exact cd hq
theorem kX8_tooth_48 {X : Scr} {M : Mem} {P Q : Option AV → Mem → Prop} {x1 : Int} (hC : Call X mX6_get [vr (oT 0), vi x1, vi (0 : Int)] M Q) (k : ∀ (z : Int) (M1 : Mem), Q (some (vi z)) M1 → Runs X mX8_tooth 57 [] [vi z] M1 P) : Runs X mX8_tooth 48 [(0, vr 0), (1, vi x1)] [] M P := by
  refine Runs.aload_n (j := 0) dX8_tooth_48 rfl ?_
  refine Runs.getr (o' := (oT 0)) (ci := 8) (j := 1) (C := RX8) (T := TX8) (N := 12) dX8_tooth_49 rfl cls_X8 (by decide) rfl fl_X8_19 rfl ⟨rfl, _, Or.inl rfl⟩ ?_
  refine Runs.iload_n (j := 1) dX8_tooth_52 rfl ?_
  refine Runs.iconst dX8_tooth_53 (by decide) ?_
  refine Runs.callVi (y := mX6_get) (n := 2) (as := [vi x1, vi (0 : Int)]) (st := []) (q := (RX6, TX6, 2)) dX8_tooth_54 oc_X6_get im_X6_get se_X6_get ml_X8_124 rfl ⟨(Nat.le_of_ble_eq_true rfl), (Nat.le_of_ble_eq_true rfl)⟩ (Nat.le_of_ble_eq_true rfl) (Nat.le_of_ble_eq_true rfl) (kd_oT (by omega)) rfl rfl (Or.inl rfl) hC (fun z M1 hQ => ?_)
  refine Runs.picks (loc' := []) [] rfl ?_
  exact k z M1 hQ
theorem kX8_tooth_57 {X : Scr} {M : Mem} {P : Option AV → Mem → Prop} {xs0 : Int} (k : P (some (vi xs0)) M) : Runs X mX8_tooth 57 [] [vi xs0] M P := by
  exact Runs.reti dX8_tooth_57 rfl k
theorem kX8_tooth_58 {X : Scr} {M : Mem} {P Q : Option AV → Mem → Prop} {x1 : Int} (hC : Call X mX6_get [vr (oT 0), vi x1, vi (1 : Int)] M Q) (k : ∀ (z : Int) (M1 : Mem), Q (some (vi z)) M1 → Runs X mX8_tooth 67 [] [vi z] M1 P) : Runs X mX8_tooth 58 [(0, vr 0), (1, vi x1)] [] M P := by
  refine Runs.aload_n (j := 0) dX8_tooth_58 rfl ?_
  refine Runs.getr (o' := (oT 0)) (ci := 8) (j := 1) (C := RX8) (T := TX8) (N := 12) dX8_tooth_59 rfl cls_X8 (by decide) rfl fl_X8_19 rfl ⟨rfl, _, Or.inl rfl⟩ ?_
  refine Runs.iload_n (j := 1) dX8_tooth_62 rfl ?_
  refine Runs.iconst dX8_tooth_63 (by decide) ?_
  refine Runs.callVi (y := mX6_get) (n := 2) (as := [vi x1, vi (1 : Int)]) (st := []) (q := (RX6, TX6, 2)) dX8_tooth_64 oc_X6_get im_X6_get se_X6_get ml_X8_124 rfl ⟨(Nat.le_of_ble_eq_true rfl), (Nat.le_of_ble_eq_true rfl)⟩ (Nat.le_of_ble_eq_true rfl) (Nat.le_of_ble_eq_true rfl) (kd_oT (by omega)) rfl rfl (Or.inl rfl) hC (fun z M1 hQ => ?_)
  refine Runs.picks (loc' := []) [] rfl ?_
  exact k z M1 hQ
theorem kX8_tooth_67 {X : Scr} {M : Mem} {P : Option AV → Mem → Prop} {xs0 : Int} (k : P (some (vi xs0)) M) : Runs X mX8_tooth 67 [] [vi xs0] M P := by
  exact Runs.reti dX8_tooth_67 rfl k
theorem kX8_tooth_68 {X : Scr} {M : Mem} {P Q : Option AV → Mem → Prop} {x1 : Int} (hC : Call X mX6_get [vr (oT 0), vi x1, vi (2 : Int)] M Q) (k : ∀ (z : Int) (M1 : Mem), Q (some (vi z)) M1 → Runs X mX8_tooth 77 [] [vi z] M1 P) : Runs X mX8_tooth 68 [(0, vr 0), (1, vi x1)] [] M P := by
  refine Runs.aload_n (j := 0) dX8_tooth_68 rfl ?_
  refine Runs.getr (o' := (oT 0)) (ci := 8) (j := 1) (C := RX8) (T := TX8) (N := 12) dX8_tooth_69 rfl cls_X8 (by decide) rfl fl_X8_19 rfl ⟨rfl, _, Or.inl rfl⟩ ?_
  refine Runs.iload_n (j := 1) dX8_tooth_72 rfl ?_
  refine Runs.iconst dX8_tooth_73 (by decide) ?_
  refine Runs.callVi (y := mX6_get) (n := 2) (as := [vi x1, vi (2 : Int)]) (st := []) (q := (RX6, TX6, 2)) dX8_tooth_74 oc_X6_get im_X6_get se_X6_get ml_X8_124 rfl ⟨(Nat.le_of_ble_eq_true rfl), (Nat.le_of_ble_eq_true rfl)⟩ (Nat.le_of_ble_eq_true rfl) (Nat.le_of_ble_eq_true rfl) (kd_oT (by omega)) rfl rfl (Or.inl rfl) hC (fun z M1 hQ => ?_)
  refine Runs.picks (loc' := []) [] rfl ?_
  exact k z M1 hQ
theorem kX8_tooth_77 {X : Scr} {M : Mem} {P : Option AV → Mem → Prop} {xs0 : Int} (k : P (some (vi xs0)) M) : Runs X mX8_tooth 77 [] [vi xs0] M P := by
  exact Runs.reti dX8_tooth_77 rfl k
theorem kX8_tooth_78 {X : Scr} {M : Mem} {P Q : Option AV → Mem → Prop} {x1 : Int} (hC : Call X mX6_get [vr (oT 0), vi x1, vi (3 : Int)] M Q) (k : ∀ (z : Int) (M1 : Mem), Q (some (vi z)) M1 → Runs X mX8_tooth 87 [] [vi z] M1 P) : Runs X mX8_tooth 78 [(0, vr 0), (1, vi x1)] [] M P := by
  refine Runs.aload_n (j := 0) dX8_tooth_78 rfl ?_
  refine Runs.getr (o' := (oT 0)) (ci := 8) (j := 1) (C := RX8) (T := TX8) (N := 12) dX8_tooth_79 rfl cls_X8 (by decide) rfl fl_X8_19 rfl ⟨rfl, _, Or.inl rfl⟩ ?_
  refine Runs.iload_n (j := 1) dX8_tooth_82 rfl ?_
  refine Runs.iconst dX8_tooth_83 (by decide) ?_
  refine Runs.callVi (y := mX6_get) (n := 2) (as := [vi x1, vi (3 : Int)]) (st := []) (q := (RX6, TX6, 2)) dX8_tooth_84 oc_X6_get im_X6_get se_X6_get ml_X8_124 rfl ⟨(Nat.le_of_ble_eq_true rfl), (Nat.le_of_ble_eq_true rfl)⟩ (Nat.le_of_ble_eq_true rfl) (Nat.le_of_ble_eq_true rfl) (kd_oT (by omega)) rfl rfl (Or.inl rfl) hC (fun z M1 hQ => ?_)
  refine Runs.picks (loc' := []) [] rfl ?_
  exact k z M1 hQ
theorem kX8_tooth_87 {X : Scr} {M : Mem} {P : Option AV → Mem → Prop} {xs0 : Int} (k : P (some (vi xs0)) M) : Runs X mX8_tooth 87 [] [vi xs0] M P := by
  exact Runs.reti dX8_tooth_87 rfl k
theorem kX8_tooth_88 {X : Scr} {M : Mem} {P Q : Option AV → Mem → Prop} {x1 : Int} (hC : Call X mX8_worthOf [vr 0, vi x1] M Q) (k : ∀ (z : Int) (M1 : Mem), Q (some (vi z)) M1 → Runs X mX8_tooth 93 [] [vi z] M1 P) : Runs X mX8_tooth 88 [(0, vr 0), (1, vi x1)] [] M P := by
  refine Runs.aload_n (j := 0) dX8_tooth_88 rfl ?_
  refine Runs.iload_n (j := 1) dX8_tooth_89 rfl ?_
  refine Runs.callVi (y := mX8_worthOf) (n := 1) (as := [vi x1]) (st := []) (q := (RX8, TX8, 12)) dX8_tooth_90 oc_X8_worthOf im_X8_worthOf se_X8_worthOf ml_X8_127 rfl ⟨(Nat.le_of_ble_eq_true rfl), (Nat.le_of_ble_eq_true rfl)⟩ (Nat.le_of_ble_eq_true rfl) (Nat.le_of_ble_eq_true rfl) rfl rfl rfl (Or.inl rfl) hC (fun z M1 hQ => ?_)
  refine Runs.picks (loc' := []) [] rfl ?_
  exact k z M1 hQ
theorem kX8_tooth_93 {X : Scr} {M : Mem} {P : Option AV → Mem → Prop} {xs0 : Int} (k : P (some (vi xs0)) M) : Runs X mX8_tooth 93 [] [vi xs0] M P := by
  exact Runs.reti dX8_tooth_93 rfl k
theorem kX8_tooth_94 {X : Scr} {M : Mem} {P Q : Option AV → Mem → Prop} {x1 : Int} (hC : Call X mX6_get [vr (oT 0), vi x1, vi (4 : Int)] M Q) (k : ∀ (z : Int) (M1 : Mem), Q (some (vi z)) M1 → Runs X mX8_tooth 103 [] [vi z] M1 P) : Runs X mX8_tooth 94 [(0, vr 0), (1, vi x1)] [] M P := by
  refine Runs.aload_n (j := 0) dX8_tooth_94 rfl ?_
  refine Runs.getr (o' := (oT 0)) (ci := 8) (j := 1) (C := RX8) (T := TX8) (N := 12) dX8_tooth_95 rfl cls_X8 (by decide) rfl fl_X8_19 rfl ⟨rfl, _, Or.inl rfl⟩ ?_
  refine Runs.iload_n (j := 1) dX8_tooth_98 rfl ?_
  refine Runs.iconst dX8_tooth_99 (by decide) ?_
  refine Runs.callVi (y := mX6_get) (n := 2) (as := [vi x1, vi (4 : Int)]) (st := []) (q := (RX6, TX6, 2)) dX8_tooth_100 oc_X6_get im_X6_get se_X6_get ml_X8_124 rfl ⟨(Nat.le_of_ble_eq_true rfl), (Nat.le_of_ble_eq_true rfl)⟩ (Nat.le_of_ble_eq_true rfl) (Nat.le_of_ble_eq_true rfl) (kd_oT (by omega)) rfl rfl (Or.inl rfl) hC (fun z M1 hQ => ?_)
  refine Runs.picks (loc' := []) [] rfl ?_
  exact k z M1 hQ
theorem kX8_tooth_103 {X : Scr} {M : Mem} {P : Option AV → Mem → Prop} {xs0 : Int} (k : P (some (vi xs0)) M) : Runs X mX8_tooth 103 [] [vi xs0] M P := by
  exact Runs.reti dX8_tooth_103 rfl k
theorem kX8_tooth_104 {X : Scr} {M : Mem} {P : Option AV → Mem → Prop} (k : P (some (vi (-2 : Int))) M) : Runs X mX8_tooth 104 [] [] M P := by
  refine Runs.bipush dX8_tooth_104 (by decide) (by decide) ?_
  exact Runs.reti dX8_tooth_106 rfl k
theorem kX8_good_0 {X : Scr} {M : Mem} {P Q : Option AV → Mem → Prop} {x1 x2 : Int} (hC : Call X mX8_isGood [vr 0, vi x1] M Q) (k : ∀ (z : Int) (M1 : Mem), Q (some (vi z)) M1 → Runs X mX8_good 5 [(0, vr 0), (1, vi x1), (2, vi x2)] [vi z] M1 P) : Runs X mX8_good 0 [(0, vr 0), (1, vi x1), (2, vi x2)] [] M P := by
  refine Runs.aload_n (j := 0) dX8_good_0 rfl ?_
  refine Runs.iload_n (j := 1) dX8_good_1 rfl ?_
  refine Runs.callVi (y := mX8_isGood) (n := 1) (as := [vi x1]) (st := []) (q := (RX8, TX8, 12)) dX8_good_2 oc_X8_isGood im_X8_isGood se_X8_isGood ml_X8_130 rfl ⟨(Nat.le_of_ble_eq_true rfl), (Nat.le_of_ble_eq_true rfl)⟩ (Nat.le_of_ble_eq_true rfl) (Nat.le_of_ble_eq_true rfl) rfl rfl rfl (Or.inr rfl) hC (fun z M1 hQ => ?_)
  exact k z M1 hQ
theorem kX8_good_5 {X : Scr} {M : Mem} {P : Option AV → Mem → Prop} {x1 x2 xs0 : Int} (k1 : xs0 ≠ 0 → Runs X mX8_good 10 [(0, vr 0), (1, vi x1), (2, vi x2)] [] M P) (k2 : xs0 = 0 → Runs X mX8_good 8 [] [] M P) : Runs X mX8_good 5 [(0, vr 0), (1, vi x1), (2, vi x2)] [vi xs0] M P := by
  refine Runs.if_ne (tgt := 10) dX8_good_5 (by decide) (fun h => ?_) (fun h => ?_)
  · exact k1 h
  · refine Runs.picks (loc' := []) [] rfl ?_
    exact k2 h
theorem kX8_good_8 {X : Scr} {M : Mem} {P : Option AV → Mem → Prop} (k : P (some (vi (-1 : Int))) M) : Runs X mX8_good 8 [] [] M P := by
  refine Runs.iconst dX8_good_8 (by decide) ?_
  exact Runs.reti dX8_good_9 rfl k
theorem kX8_good_10 {X : Scr} {M : Mem} {P : Option AV → Mem → Prop} {x1 x2 : Int} (c0 : x2 = 0 → Runs X mX8_good 36 [(0, vr 0), (1, vi x1)] [] M P) (c1 : x2 = 1 → Runs X mX8_good 45 [(0, vr 0), (1, vi x1)] [] M P) (cd : x2 ≠ 0 ∧ x2 ≠ 1 → Runs X mX8_good 54 [] [] M P) : Runs X mX8_good 10 [(0, vr 0), (1, vi x1), (2, vi x2)] [] M P := by
  refine Runs.iload_n (j := 2) dX8_good_10 rfl ?_
  rcases (show x2 = 0 ∨ x2 = 1 ∨ (x2 ≠ 0 ∧ x2 ≠ 1) by omega) with h | h | h
  · refine Runs.lookup (tgt := 36) dX8_good_11 (by decide) (by rw [h] <;> rfl) (by decide) ?_
    refine Runs.picks (loc' := [(0, vr 0), (1, vi x1)]) [0, 1] rfl ?_
    exact c0 h
  · refine Runs.lookup (tgt := 45) dX8_good_11 (by decide) (by rw [h] <;> rfl) (by decide) ?_
    refine Runs.picks (loc' := [(0, vr 0), (1, vi x1)]) [0, 1] rfl ?_
    exact c1 h
  · refine Runs.lookup (off := (43 : Int)) (tgt := 54) dX8_good_11 (by decide) (by simp [Op.lookupswitch.offset]; omega) (by decide) ?_
    refine Runs.picks (loc' := []) [] rfl ?_
    exact cd h
theorem kX8_good_36 {X : Scr} {M : Mem} {P Q : Option AV → Mem → Prop} {x1 : Int} (hC : Call X mX1_priceOf [vr 3, vi x1] M Q) (k : ∀ (z : Int) (M1 : Mem), Q (some (vi z)) M1 → Runs X mX8_good 44 [] [vi z] M1 P) : Runs X mX8_good 36 [(0, vr 0), (1, vi x1)] [] M P := by
  refine Runs.aload_n (j := 0) dX8_good_36 rfl ?_
  refine Runs.getr (o' := 3) (ci := 8) (j := 2) (C := RX8) (T := TX8) (N := 12) dX8_good_37 rfl cls_X8 (by decide) rfl fl_X8_26 rfl ⟨rfl, _, Or.inl rfl⟩ ?_
  refine Runs.iload_n (j := 1) dX8_good_40 rfl ?_
  refine Runs.callVi (y := mX1_priceOf) (n := 1) (as := [vi x1]) (st := []) (q := (RX1, TX1, 3)) dX8_good_41 oc_X1_priceOf im_X1_priceOf se_X1_priceOf ml_X8_133 rfl ⟨(Nat.le_of_ble_eq_true rfl), (Nat.le_of_ble_eq_true rfl)⟩ (Nat.le_of_ble_eq_true rfl) (Nat.le_of_ble_eq_true rfl) rfl rfl rfl (Or.inl rfl) hC (fun z M1 hQ => ?_)
  refine Runs.picks (loc' := []) [] rfl ?_
  exact k z M1 hQ
theorem kX8_good_44 {X : Scr} {M : Mem} {P : Option AV → Mem → Prop} {xs0 : Int} (k : P (some (vi xs0)) M) : Runs X mX8_good 44 [] [vi xs0] M P := by
  exact Runs.reti dX8_good_44 rfl k
theorem kX8_good_45 {X : Scr} {M : Mem} {P Q : Option AV → Mem → Prop} {x1 : Int} (hC : Call X mX1_useOf [vr 3, vi x1] M Q) (k : ∀ (z : Int) (M1 : Mem), Q (some (vi z)) M1 → Runs X mX8_good 53 [] [vi z] M1 P) : Runs X mX8_good 45 [(0, vr 0), (1, vi x1)] [] M P := by
  refine Runs.aload_n (j := 0) dX8_good_45 rfl ?_
  refine Runs.getr (o' := 3) (ci := 8) (j := 2) (C := RX8) (T := TX8) (N := 12) dX8_good_46 rfl cls_X8 (by decide) rfl fl_X8_26 rfl ⟨rfl, _, Or.inl rfl⟩ ?_
  refine Runs.iload_n (j := 1) dX8_good_49 rfl ?_
  refine Runs.callVi (y := mX1_useOf) (n := 1) (as := [vi x1]) (st := []) (q := (RX1, TX1, 3)) dX8_good_50 oc_X1_useOf im_X1_useOf se_X1_useOf ml_X8_136 rfl ⟨(Nat.le_of_ble_eq_true rfl), (Nat.le_of_ble_eq_true rfl)⟩ (Nat.le_of_ble_eq_true rfl) (Nat.le_of_ble_eq_true rfl) rfl rfl rfl (Or.inl rfl) hC (fun z M1 hQ => ?_)
  refine Runs.picks (loc' := []) [] rfl ?_
  exact k z M1 hQ
theorem kX8_good_53 {X : Scr} {M : Mem} {P : Option AV → Mem → Prop} {xs0 : Int} (k : P (some (vi xs0)) M) : Runs X mX8_good 53 [] [vi xs0] M P := by
  exact Runs.reti dX8_good_53 rfl k
theorem kX8_good_54 {X : Scr} {M : Mem} {P : Option AV → Mem → Prop} (k : P (some (vi (-2 : Int))) M) : Runs X mX8_good 54 [] [] M P := by
  refine Runs.bipush dX8_good_54 (by decide) (by decide) ?_
  exact Runs.reti dX8_good_56 rfl k
theorem kX8_purse_0 {X : Scr} {M : Mem} {P Q : Option AV → Mem → Prop} {x1 : Int} (hC : Call X mX8_isPerson [vi x1] M Q) (k : ∀ (z : Int) (M1 : Mem), Q (some (vi z)) M1 → Runs X mX8_purse 4 [(0, vr 0), (1, vi x1)] [vi z] M1 P) : Runs X mX8_purse 0 [(0, vr 0), (1, vi x1)] [] M P := by
  refine Runs.iload_n (j := 1) dX8_purse_0 rfl ?_
  refine Runs.callSi (y := mX8_isPerson) (n := 1) (as := [vi x1]) (st := []) dX8_purse_1 oc_X8_isPerson sm_X8_isPerson ml_X8_139 rfl ⟨(Nat.le_of_ble_eq_true rfl), (Nat.le_of_ble_eq_true rfl)⟩ (Nat.le_of_ble_eq_true rfl) (Nat.le_of_ble_eq_true rfl) (Or.inr rfl) hC (fun z M1 hQ => ?_)
  exact k z M1 hQ
theorem kX8_purse_4 {X : Scr} {M : Mem} {P : Option AV → Mem → Prop} {x1 xs0 : Int} (k1 : xs0 = 0 → Runs X mX8_purse 22 [] [] M P) (k2 : xs0 ≠ 0 → Runs X mX8_purse 7 [(0, vr 0), (1, vi x1)] [] M P) : Runs X mX8_purse 4 [(0, vr 0), (1, vi x1)] [vi xs0] M P := by
  refine Runs.if_eq (tgt := 22) dX8_purse_4 (by decide) (fun h => ?_) (fun h => ?_)
  · refine Runs.picks (loc' := []) [] rfl ?_
    exact k1 h
  · exact k2 h
theorem kX8_purse_7 {X : Scr} {M : Mem} {P Q : Option AV → Mem → Prop} {x1 : Int} (hC : Call X mX6_ownedBy [vr (oT 0), vi x1] M Q) (k : ∀ (z : Int) (M1 : Mem), Q (some (vi z)) M1 → Runs X mX8_purse 16 [] [vi z, vr 0] M1 P) : Runs X mX8_purse 7 [(0, vr 0), (1, vi x1)] [] M P := by
  refine Runs.aload_n (j := 0) dX8_purse_7 rfl ?_
  refine Runs.aload_n (j := 0) dX8_purse_8 rfl ?_
  refine Runs.getr (o' := (oT 0)) (ci := 8) (j := 1) (C := RX8) (T := TX8) (N := 12) dX8_purse_9 rfl cls_X8 (by decide) rfl fl_X8_19 rfl ⟨rfl, _, Or.inl rfl⟩ ?_
  refine Runs.iload_n (j := 1) dX8_purse_12 rfl ?_
  refine Runs.callVi (y := mX6_ownedBy) (n := 1) (as := [vi x1]) (st := [vr 0]) (q := (RX6, TX6, 2)) dX8_purse_13 oc_X6_ownedBy im_X6_ownedBy se_X6_ownedBy ml_X8_142 rfl ⟨(Nat.le_of_ble_eq_true rfl), (Nat.le_of_ble_eq_true rfl)⟩ (Nat.le_of_ble_eq_true rfl) (Nat.le_of_ble_eq_true rfl) (kd_oT (by omega)) rfl rfl (Or.inl rfl) hC (fun z M1 hQ => ?_)
  refine Runs.picks (loc' := []) [] rfl ?_
  exact k z M1 hQ
theorem kX8_purse_16 {X : Scr} {M : Mem} {P Q : Option AV → Mem → Prop} {xs1 : Int} (hC : Call X mX8_worthOfSet [vr 0, vi xs1] M Q) (k : ∀ (z : Int) (M1 : Mem), Q (some (vi z)) M1 → Runs X mX8_purse 19 [] [vi z] M1 P) : Runs X mX8_purse 16 [] [vi xs1, vr 0] M P := by
  refine Runs.callVi (y := mX8_worthOfSet) (n := 1) (as := [vi xs1]) (st := []) (q := (RX8, TX8, 12)) dX8_purse_16 oc_X8_worthOfSet im_X8_worthOfSet se_X8_worthOfSet ml_X8_145 rfl ⟨(Nat.le_of_ble_eq_true rfl), (Nat.le_of_ble_eq_true rfl)⟩ (Nat.le_of_ble_eq_true rfl) (Nat.le_of_ble_eq_true rfl) rfl rfl rfl (Or.inl rfl) hC (fun z M1 hQ => ?_)
  exact k z M1 hQ
theorem kX8_purse_19 {X : Scr} {M : Mem} {P : Option AV → Mem → Prop} {xs0 : Int} (k : Runs X mX8_purse 23 [] [vi xs0] M P) : Runs X mX8_purse 19 [] [vi xs0] M P := by
  refine Runs.goto (tgt := 23) dX8_purse_19 (by decide) ?_
  exact k
theorem kX8_purse_22 {X : Scr} {M : Mem} {P : Option AV → Mem → Prop} (k : Runs X mX8_purse 23 [] [vi (-1 : Int)] M P) : Runs X mX8_purse 22 [] [] M P := by
  refine Runs.iconst dX8_purse_22 (by decide) ?_
  exact k
theorem kX8_purse_23 {X : Scr} {M : Mem} {P : Option AV → Mem → Prop} {xs0 : Int} (k : P (some (vi xs0)) M) : Runs X mX8_purse 23 [] [vi xs0] M P := by
  exact Runs.reti dX8_purse_23 rfl k
theorem kX8_handle_0 {X : Scr} {M : Mem} {P Q : Option AV → Mem → Prop} {x1 : Int} (hC : Call X mX8_isTooth [vr 0, vi x1] M Q) (k : ∀ (z : Int) (M1 : Mem), Q (some (vi z)) M1 → Runs X mX8_handle 5 [(0, vr 0), (1, vi x1)] [vi z] M1 P) : Runs X mX8_handle 0 [(0, vr 0), (1, vi x1)] [] M P := by
  refine Runs.aload_n (j := 0) dX8_handle_0 rfl ?_
  refine Runs.iload_n (j := 1) dX8_handle_1 rfl ?_
  refine Runs.callVi (y := mX8_isTooth) (n := 1) (as := [vi x1]) (st := []) (q := (RX8, TX8, 12)) dX8_handle_2 oc_X8_isTooth im_X8_isTooth se_X8_isTooth ml_X8_120 rfl ⟨(Nat.le_of_ble_eq_true rfl), (Nat.le_of_ble_eq_true rfl)⟩ (Nat.le_of_ble_eq_true rfl) (Nat.le_of_ble_eq_true rfl) rfl rfl rfl (Or.inr rfl) hC (fun z M1 hQ => ?_)
  exact k z M1 hQ
theorem kX8_handle_5 {X : Scr} {M : Mem} {P : Option AV → Mem → Prop} {x1 xs0 : Int} (k1 : xs0 ≠ 0 → Runs X mX8_handle 10 [(0, vr 0), (1, vi x1)] [] M P) (k2 : xs0 = 0 → Runs X mX8_handle 8 [] [] M P) : Runs X mX8_handle 5 [(0, vr 0), (1, vi x1)] [vi xs0] M P := by
  refine Runs.if_ne (tgt := 10) dX8_handle_5 (by decide) (fun h => ?_) (fun h => ?_)
  · exact k1 h
  · refine Runs.picks (loc' := []) [] rfl ?_
    exact k2 h
theorem kX8_handle_8 {X : Scr} {M : Mem} {P : Option AV → Mem → Prop} (k : P (some (vi (-1 : Int))) M) : Runs X mX8_handle 8 [] [] M P := by
  refine Runs.iconst dX8_handle_8 (by decide) ?_
  exact Runs.reti dX8_handle_9 rfl k
theorem kX8_handle_10 {X : Scr} {M : Mem} {P Q : Option AV → Mem → Prop} {x1 : Int} (hC : Call X mX6_wearDown [vr (oT 0), vi x1] M Q) (k : ∀ (M1 : Mem), Q none M1 → Runs X mX8_handle 18 [(0, vr 0), (1, vi x1)] [] M1 P) : Runs X mX8_handle 10 [(0, vr 0), (1, vi x1)] [] M P := by
  refine Runs.aload_n (j := 0) dX8_handle_10 rfl ?_
  refine Runs.getr (o' := (oT 0)) (ci := 8) (j := 1) (C := RX8) (T := TX8) (N := 12) dX8_handle_11 rfl cls_X8 (by decide) rfl fl_X8_19 rfl ⟨rfl, _, Or.inl rfl⟩ ?_
  refine Runs.iload_n (j := 1) dX8_handle_14 rfl ?_
  refine Runs.callVv (y := mX6_wearDown) (n := 1) (as := [vi x1]) (st := []) (q := (RX6, TX6, 2)) dX8_handle_15 oc_X6_wearDown im_X6_wearDown se_X6_wearDown ml_X8_148 rfl ⟨(Nat.le_of_ble_eq_true rfl), (Nat.le_of_ble_eq_true rfl)⟩ (Nat.le_of_ble_eq_true rfl) (Nat.le_of_ble_eq_true rfl) (kd_oT (by omega)) rfl rfl rfl hC (fun M1 hQ => ?_)
  exact k M1 hQ
theorem kX8_handle_18 {X : Scr} {M : Mem} {P Q : Option AV → Mem → Prop} {x1 : Int} (hC : Call X mX8_worthOf [vr 0, vi x1] M Q) (k : ∀ (z : Int) (M1 : Mem), Q (some (vi z)) M1 → Runs X mX8_handle 23 [] [vi z] M1 P) : Runs X mX8_handle 18 [(0, vr 0), (1, vi x1)] [] M P := by
  refine Runs.aload_n (j := 0) dX8_handle_18 rfl ?_
  refine Runs.iload_n (j := 1) dX8_handle_19 rfl ?_
  refine Runs.callVi (y := mX8_worthOf) (n := 1) (as := [vi x1]) (st := []) (q := (RX8, TX8, 12)) dX8_handle_20 oc_X8_worthOf im_X8_worthOf se_X8_worthOf ml_X8_127 rfl ⟨(Nat.le_of_ble_eq_true rfl), (Nat.le_of_ble_eq_true rfl)⟩ (Nat.le_of_ble_eq_true rfl) (Nat.le_of_ble_eq_true rfl) rfl rfl rfl (Or.inl rfl) hC (fun z M1 hQ => ?_)
  refine Runs.picks (loc' := []) [] rfl ?_
  exact k z M1 hQ
theorem kX8_handle_23 {X : Scr} {M : Mem} {P : Option AV → Mem → Prop} {xs0 : Int} (k : P (some (vi xs0)) M) : Runs X mX8_handle 23 [] [vi xs0] M P := by
  exact Runs.reti dX8_handle_23 rfl k
theorem kX8_bite_0 {X : Scr} {M : Mem} {P Q : Option AV → Mem → Prop} {x1 : Int} (hC : Call X mX8_isTooth [vr 0, vi x1] M Q) (k : ∀ (z : Int) (M1 : Mem), Q (some (vi z)) M1 → Runs X mX8_bite 5 [(0, vr 0), (1, vi x1)] [vi z] M1 P) : Runs X mX8_bite 0 [(0, vr 0), (1, vi x1)] [] M P := by
  refine Runs.aload_n (j := 0) dX8_bite_0 rfl ?_
  refine Runs.iload_n (j := 1) dX8_bite_1 rfl ?_
  refine Runs.callVi (y := mX8_isTooth) (n := 1) (as := [vi x1]) (st := []) (q := (RX8, TX8, 12)) dX8_bite_2 oc_X8_isTooth im_X8_isTooth se_X8_isTooth ml_X8_120 rfl ⟨(Nat.le_of_ble_eq_true rfl), (Nat.le_of_ble_eq_true rfl)⟩ (Nat.le_of_ble_eq_true rfl) (Nat.le_of_ble_eq_true rfl) rfl rfl rfl (Or.inr rfl) hC (fun z M1 hQ => ?_)
  exact k z M1 hQ
theorem kX8_bite_5 {X : Scr} {M : Mem} {P : Option AV → Mem → Prop} {x1 xs0 : Int} (k1 : xs0 ≠ 0 → Runs X mX8_bite 10 [(0, vr 0), (1, vi x1)] [] M P) (k2 : xs0 = 0 → Runs X mX8_bite 8 [] [] M P) : Runs X mX8_bite 5 [(0, vr 0), (1, vi x1)] [vi xs0] M P := by
  refine Runs.if_ne (tgt := 10) dX8_bite_5 (by decide) (fun h => ?_) (fun h => ?_)
  · exact k1 h
  · refine Runs.picks (loc' := []) [] rfl ?_
    exact k2 h
theorem kX8_bite_8 {X : Scr} {M : Mem} {P : Option AV → Mem → Prop} (k : P (some (vi (-1 : Int))) M) : Runs X mX8_bite 8 [] [] M P := by
  refine Runs.iconst dX8_bite_8 (by decide) ?_
  exact Runs.reti dX8_bite_9 rfl k
theorem kX8_bite_10 {X : Scr} {M : Mem} {P Q : Option AV → Mem → Prop} {x1 : Int} (hC : Call X mX6_get [vr (oT 0), vi x1, vi (0 : Int)] M Q) (k : ∀ (z : Int) (M1 : Mem), Q (some (vi z)) M1 → Runs X mX8_bite 19 [(0, vr 0), (1, vi x1)] [vi z] M1 P) : Runs X mX8_bite 10 [(0, vr 0), (1, vi x1)] [] M P := by
  refine Runs.aload_n (j := 0) dX8_bite_10 rfl ?_
  refine Runs.getr (o' := (oT 0)) (ci := 8) (j := 1) (C := RX8) (T := TX8) (N := 12) dX8_bite_11 rfl cls_X8 (by decide) rfl fl_X8_19 rfl ⟨rfl, _, Or.inl rfl⟩ ?_
  refine Runs.iload_n (j := 1) dX8_bite_14 rfl ?_
  refine Runs.iconst dX8_bite_15 (by decide) ?_
  refine Runs.callVi (y := mX6_get) (n := 2) (as := [vi x1, vi (0 : Int)]) (st := []) (q := (RX6, TX6, 2)) dX8_bite_16 oc_X6_get im_X6_get se_X6_get ml_X8_124 rfl ⟨(Nat.le_of_ble_eq_true rfl), (Nat.le_of_ble_eq_true rfl)⟩ (Nat.le_of_ble_eq_true rfl) (Nat.le_of_ble_eq_true rfl) (kd_oT (by omega)) rfl rfl (Or.inl rfl) hC (fun z M1 hQ => ?_)
  exact k z M1 hQ
theorem kX8_bite_19 {X : Scr} {M : Mem} {P : Option AV → Mem → Prop} {x1 xs0 : Int} (k1 : (1 : Int) < xs0 → Runs X mX8_bite 28 [(0, vr 0), (1, vi x1), (2, vi xs0)] [] M P) (k2 : xs0 ≤ (1 : Int) → Runs X mX8_bite 25 [] [] M P) : Runs X mX8_bite 19 [(0, vr 0), (1, vi x1)] [vi xs0] M P := by
  refine Runs.istore_n (loc' := [(0, vr 0), (1, vi x1), (2, vi xs0)]) dX8_bite_19 rfl (by decide) rfl ?_
  refine Runs.iload_n (j := 2) dX8_bite_20 rfl ?_
  refine Runs.iconst dX8_bite_21 (by decide) ?_
  refine Runs.icmp_gt (tgt := 28) dX8_bite_22 (by decide) (fun h => ?_) (fun h => ?_)
  · exact k1 h
  · refine Runs.picks (loc' := []) [] rfl ?_
    exact k2 h
theorem kX8_bite_25 {X : Scr} {M : Mem} {P : Option AV → Mem → Prop} (k : P (some (vi (-3 : Int))) M) : Runs X mX8_bite 25 [] [] M P := by
  refine Runs.bipush dX8_bite_25 (by decide) (by decide) ?_
  exact Runs.reti dX8_bite_27 rfl k
theorem kX8_bite_28 {X : Scr} {M : Mem} {P Q : Option AV → Mem → Prop} {x1 x2 : Int} (hC : Call X mX6_set [vr (oT 0), vi x1, vi (0 : Int), vi (x2 - (1 : Int))] M Q) (k : ∀ (M1 : Mem), Q none M1 → Runs X mX8_bite 40 [(0, vr 0), (1, vi x1)] [] M1 P) (h1 : -2147483648 ≤ (x2 - (1 : Int)) ∧ (x2 - (1 : Int)) ≤ 2147483647 := by omega) : Runs X mX8_bite 28 [(0, vr 0), (1, vi x1), (2, vi x2)] [] M P := by
  refine Runs.aload_n (j := 0) dX8_bite_28 rfl ?_
  refine Runs.getr (o' := (oT 0)) (ci := 8) (j := 1) (C := RX8) (T := TX8) (N := 12) dX8_bite_29 rfl cls_X8 (by decide) rfl fl_X8_19 rfl ⟨rfl, _, Or.inl rfl⟩ ?_
  refine Runs.iload_n (j := 1) dX8_bite_32 rfl ?_
  refine Runs.iconst dX8_bite_33 (by decide) ?_
  refine Runs.iload_n (j := 2) dX8_bite_34 rfl ?_
  refine Runs.iconst dX8_bite_35 (by decide) ?_
  refine Runs.isub dX8_bite_36 h1 ?_
  refine Runs.callVv (y := mX6_set) (n := 3) (as := [vi x1, vi (0 : Int), vi (x2 - (1 : Int))]) (st := []) (q := (RX6, TX6, 2)) dX8_bite_37 oc_X6_set im_X6_set se_X6_set ml_X8_151 rfl ⟨(Nat.le_of_ble_eq_true rfl), (Nat.le_of_ble_eq_true rfl)⟩ (Nat.le_of_ble_eq_true rfl) (Nat.le_of_ble_eq_true rfl) (kd_oT (by omega)) rfl rfl rfl hC (fun M1 hQ => ?_)
  refine Runs.picks (loc' := [(0, vr 0), (1, vi x1)]) [0, 1] rfl ?_
  exact k M1 hQ
theorem kX8_bite_40 {X : Scr} {M : Mem} {P Q : Option AV → Mem → Prop} {x1 : Int} (hC : Call X mX6_set [vr (oT 0), vi x1, vi (2 : Int), vi (0 : Int)] M Q) (k : ∀ (M1 : Mem), Q none M1 → Runs X mX8_bite 50 [(0, vr 0), (1, vi x1)] [] M1 P) : Runs X mX8_bite 40 [(0, vr 0), (1, vi x1)] [] M P := by
  refine Runs.aload_n (j := 0) dX8_bite_40 rfl ?_
  refine Runs.getr (o' := (oT 0)) (ci := 8) (j := 1) (C := RX8) (T := TX8) (N := 12) dX8_bite_41 rfl cls_X8 (by decide) rfl fl_X8_19 rfl ⟨rfl, _, Or.inl rfl⟩ ?_
  refine Runs.iload_n (j := 1) dX8_bite_44 rfl ?_
  refine Runs.iconst dX8_bite_45 (by decide) ?_
  refine Runs.iconst dX8_bite_46 (by decide) ?_
  refine Runs.callVv (y := mX6_set) (n := 3) (as := [vi x1, vi (2 : Int), vi (0 : Int)]) (st := []) (q := (RX6, TX6, 2)) dX8_bite_47 oc_X6_set im_X6_set se_X6_set ml_X8_151 rfl ⟨(Nat.le_of_ble_eq_true rfl), (Nat.le_of_ble_eq_true rfl)⟩ (Nat.le_of_ble_eq_true rfl) (Nat.le_of_ble_eq_true rfl) (kd_oT (by omega)) rfl rfl rfl hC (fun M1 hQ => ?_)
  exact k M1 hQ
theorem kX8_bite_50 {X : Scr} {M : Mem} {P Q : Option AV → Mem → Prop} {x1 : Int} (hC : Call X mX8_worthOf [vr 0, vi x1] M Q) (k : ∀ (z : Int) (M1 : Mem), Q (some (vi z)) M1 → Runs X mX8_bite 55 [] [vi z] M1 P) : Runs X mX8_bite 50 [(0, vr 0), (1, vi x1)] [] M P := by
  refine Runs.aload_n (j := 0) dX8_bite_50 rfl ?_
  refine Runs.iload_n (j := 1) dX8_bite_51 rfl ?_
  refine Runs.callVi (y := mX8_worthOf) (n := 1) (as := [vi x1]) (st := []) (q := (RX8, TX8, 12)) dX8_bite_52 oc_X8_worthOf im_X8_worthOf se_X8_worthOf ml_X8_127 rfl ⟨(Nat.le_of_ble_eq_true rfl), (Nat.le_of_ble_eq_true rfl)⟩ (Nat.le_of_ble_eq_true rfl) (Nat.le_of_ble_eq_true rfl) rfl rfl rfl (Or.inl rfl) hC (fun z M1 hQ => ?_)
  refine Runs.picks (loc' := []) [] rfl ?_
  exact k z M1 hQ
theorem kX8_bite_55 {X : Scr} {M : Mem} {P : Option AV → Mem → Prop} {xs0 : Int} (k : P (some (vi xs0)) M) : Runs X mX8_bite 55 [] [vi xs0] M P := by
  exact Runs.reti dX8_bite_55 rfl k
theorem kX8_fewest_0 {X : Scr} {M : Mem} {P Q : Option AV → Mem → Prop} {x1 x2 x3 : Int} (hC : Call X mX8_paymentRefusal [vi x1, vi x2, vi x3] M Q) (k : ∀ (z : Int) (M1 : Mem), Q (some (vi z)) M1 → Runs X mX8_fewest 6 [(0, vr 0), (1, vi x1), (2, vi x2), (3, vi x3)] [vi z] M1 P) : Runs X mX8_fewest 0 [(0, vr 0), (1, vi x1), (2, vi x2), (3, vi x3)] [] M P := by
  refine Runs.iload_n (j := 1) dX8_fewest_0 rfl ?_
  refine Runs.iload_n (j := 2) dX8_fewest_1 rfl ?_
  refine Runs.iload_n (j := 3) dX8_fewest_2 rfl ?_
  refine Runs.callSi (y := mX8_paymentRefusal) (n := 3) (as := [vi x1, vi x2, vi x3]) (st := []) dX8_fewest_3 oc_X8_paymentRefusal sm_X8_paymentRefusal ml_X8_155 rfl ⟨(Nat.le_of_ble_eq_true rfl), (Nat.le_of_ble_eq_true rfl)⟩ (Nat.le_of_ble_eq_true rfl) (Nat.le_of_ble_eq_true rfl) (Or.inl rfl) hC (fun z M1 hQ => ?_)
  exact k z M1 hQ
theorem kX8_fewest_6 {X : Scr} {M : Mem} {P : Option AV → Mem → Prop} {x1 x2 x3 xs0 : Int} (k1 : xs0 = 0 → Runs X mX8_fewest 16 [(0, vr 0), (1, vi x1), (2, vi x2), (3, vi x3)] [] M P) (k2 : xs0 ≠ 0 → Runs X mX8_fewest 13 [(4, vi xs0)] [] M P) : Runs X mX8_fewest 6 [(0, vr 0), (1, vi x1), (2, vi x2), (3, vi x3)] [vi xs0] M P := by
  refine Runs.istore (loc' := [(0, vr 0), (1, vi x1), (2, vi x2), (3, vi x3), (4, vi xs0)]) dX8_fewest_6 (by decide) rfl ?_
  refine Runs.iload (j := 4) dX8_fewest_8 rfl ?_
  refine Runs.if_eq (tgt := 16) dX8_fewest_10 (by decide) (fun h => ?_) (fun h => ?_)
  · refine Runs.picks (loc' := [(0, vr 0), (1, vi x1), (2, vi x2), (3, vi x3)]) [0, 1, 2, 3] rfl ?_
    exact k1 h
  · refine Runs.picks (loc' := [(4, vi xs0)]) [4] rfl ?_
    exact k2 h
theorem kX8_fewest_13 {X : Scr} {M : Mem} {P : Option AV → Mem → Prop} {x4 : Int} (k : P (some (vi x4)) M) : Runs X mX8_fewest 13 [(4, vi x4)] [] M P := by
  refine Runs.iload (j := 0) dX8_fewest_13 rfl ?_
  exact Runs.reti dX8_fewest_15 rfl k
theorem kX8_fewest_16 {X : Scr} {M : Mem} {P Q : Option AV → Mem → Prop} {x1 x2 x3 : Int} (hC : Call X mX8_seekFewest [vr 0, vi x1, vi x2, vi x3] M Q) (k : ∀ (M1 : Mem), Q none M1 → Runs X mX8_fewest 23 [(0, vr 0)] [] M1 P) : Runs X mX8_fewest 16 [(0, vr 0), (1, vi x1), (2, vi x2), (3, vi x3)] [] M P := by
  refine Runs.aload_n (j := 0) dX8_fewest_16 rfl ?_
  refine Runs.iload_n (j := 1) dX8_fewest_17 rfl ?_
  refine Runs.iload_n (j := 2) dX8_fewest_18 rfl ?_
  refine Runs.iload_n (j := 3) dX8_fewest_19 rfl ?_
  refine Runs.callVv (y := mX8_seekFewest) (n := 3) (as := [vi x1, vi x2, vi x3]) (st := []) (q := (RX8, TX8, 12)) dX8_fewest_20 oc_X8_seekFewest im_X8_seekFewest se_X8_seekFewest ml_X8_159 rfl ⟨(Nat.le_of_ble_eq_true rfl), (Nat.le_of_ble_eq_true rfl)⟩ (Nat.le_of_ble_eq_true rfl) (Nat.le_of_ble_eq_true rfl) rfl rfl rfl rfl hC (fun M1 hQ => ?_)
  refine Runs.picks (loc' := [(0, vr 0)]) [0] rfl ?_
  exact k M1 hQ
theorem kX8_fewest_23 {X : Scr} {M : Mem} {P : Option AV → Mem → Prop} (k1 : (M 33 0) = 0 → Runs X mX8_fewest 43 [] [] M P) (k2 : (M 33 0) ≠ 0 → Runs X mX8_fewest 33 [(0, vr 0)] [] M P) : Runs X mX8_fewest 23 [(0, vr 0)] [] M P := by
  refine Runs.aload_n (j := 0) dX8_fewest_23 rfl ?_
  refine Runs.getr (o' := 33) (ci := 8) (j := 8) (C := RX8) (T := TX8) (N := 12) dX8_fewest_24 rfl cls_X8 (by decide) rfl fl_X8_60 rfl ⟨rfl, _, Or.inl rfl⟩ ?_
  refine Runs.geti (ci := 2) (j := 0) (C := RX2) (T := TX2) (N := 4) dX8_fewest_27 rfl cls_X2 (by decide) rfl fl_X8_162 (Or.inr (Or.inl rfl)) ?_
  refine Runs.if_eq (tgt := 43) dX8_fewest_30 (by decide) (fun h => ?_) (fun h => ?_)
  · refine Runs.picks (loc' := []) [] rfl ?_
    exact k1 h
  · exact k2 h
theorem kX8_fewest_33 {X : Scr} {M : Mem} {P : Option AV → Mem → Prop} (k : Runs X mX8_fewest 45 [] [vi (M 33 1)] M P) : Runs X mX8_fewest 33 [(0, vr 0)] [] M P := by
  refine Runs.aload_n (j := 0) dX8_fewest_33 rfl ?_
  refine Runs.getr (o' := 33) (ci := 8) (j := 8) (C := RX8) (T := TX8) (N := 12) dX8_fewest_34 rfl cls_X8 (by decide) rfl fl_X8_60 rfl ⟨rfl, _, Or.inl rfl⟩ ?_
  refine Runs.geti (ci := 2) (j := 1) (C := RX2) (T := TX2) (N := 4) dX8_fewest_37 rfl cls_X2 (by decide) rfl fl_X8_166 (Or.inl rfl) ?_
  refine Runs.goto (tgt := 45) dX8_fewest_40 (by decide) ?_
  refine Runs.picks (loc' := []) [] rfl ?_
  exact k
theorem kX8_fewest_43 {X : Scr} {M : Mem} {P : Option AV → Mem → Prop} (k : Runs X mX8_fewest 45 [] [vi (-9 : Int)] M P) : Runs X mX8_fewest 43 [] [] M P := by
  refine Runs.bipush dX8_fewest_43 (by decide) (by decide) ?_
  exact k
theorem kX8_fewest_45 {X : Scr} {M : Mem} {P : Option AV → Mem → Prop} {xs0 : Int} (k : P (some (vi xs0)) M) : Runs X mX8_fewest 45 [] [vi xs0] M P := by
  exact Runs.reti dX8_fewest_45 rfl k
theorem kX8_paid_0 {X : Scr} {M : Mem} {P Q : Option AV → Mem → Prop} {x1 x2 x3 x4 : Int} (hC : Call X mX8_paymentRefusal [vi x1, vi x2, vi x3] M Q) (k : ∀ (z : Int) (M1 : Mem), Q (some (vi z)) M1 → Runs X mX8_paid 6 [(0, vr 0), (1, vi x1), (2, vi x2), (3, vi x3), (4, vi x4)] [vi z] M1 P) : Runs X mX8_paid 0 [(0, vr 0), (1, vi x1), (2, vi x2), (3, vi x3), (4, vi x4)] [] M P := by
  refine Runs.iload_n (j := 1) dX8_paid_0 rfl ?_
  refine Runs.iload_n (j := 2) dX8_paid_1 rfl ?_
  refine Runs.iload_n (j := 3) dX8_paid_2 rfl ?_
  refine Runs.callSi (y := mX8_paymentRefusal) (n := 3) (as := [vi x1, vi x2, vi x3]) (st := []) dX8_paid_3 oc_X8_paymentRefusal sm_X8_paymentRefusal ml_X8_155 rfl ⟨(Nat.le_of_ble_eq_true rfl), (Nat.le_of_ble_eq_true rfl)⟩ (Nat.le_of_ble_eq_true rfl) (Nat.le_of_ble_eq_true rfl) (Or.inl rfl) hC (fun z M1 hQ => ?_)
  exact k z M1 hQ
theorem kX8_paid_6 {X : Scr} {M : Mem} {P : Option AV → Mem → Prop} {x1 x2 x3 x4 xs0 : Int} (k1 : xs0 = 0 → Runs X mX8_paid 16 [(0, vr 0), (1, vi x1), (2, vi x2), (3, vi x3), (4, vi x4)] [] M P) (k2 : xs0 ≠ 0 → Runs X mX8_paid 13 [(5, vi xs0)] [] M P) : Runs X mX8_paid 6 [(0, vr 0), (1, vi x1), (2, vi x2), (3, vi x3), (4, vi x4)] [vi xs0] M P := by
  refine Runs.istore (loc' := [(0, vr 0), (1, vi x1), (2, vi x2), (3, vi x3), (4, vi x4), (5, vi xs0)]) dX8_paid_6 (by decide) rfl ?_
  refine Runs.iload (j := 5) dX8_paid_8 rfl ?_
  refine Runs.if_eq (tgt := 16) dX8_paid_10 (by decide) (fun h => ?_) (fun h => ?_)
  · refine Runs.picks (loc' := [(0, vr 0), (1, vi x1), (2, vi x2), (3, vi x3), (4, vi x4)]) [0, 1, 2, 3, 4] rfl ?_
    exact k1 h
  · refine Runs.picks (loc' := [(5, vi xs0)]) [5] rfl ?_
    exact k2 h
theorem kX8_paid_13 {X : Scr} {M : Mem} {P : Option AV → Mem → Prop} {x5 : Int} (k : P (some (vi x5)) M) : Runs X mX8_paid 13 [(5, vi x5)] [] M P := by
  refine Runs.iload (j := 0) dX8_paid_13 rfl ?_
  exact Runs.reti dX8_paid_15 rfl k
theorem kX8_paid_16 {X : Scr} {M : Mem} {P Q : Option AV → Mem → Prop} {x1 x2 x3 x4 : Int} (hC : Call X mX8_seekFewest [vr 0, vi x1, vi x2, vi x3] M Q) (k : ∀ (M1 : Mem), Q none M1 → Runs X mX8_paid 23 [(0, vr 0), (4, vi x4)] [] M1 P) : Runs X mX8_paid 16 [(0, vr 0), (1, vi x1), (2, vi x2), (3, vi x3), (4, vi x4)] [] M P := by
  refine Runs.aload_n (j := 0) dX8_paid_16 rfl ?_
  refine Runs.iload_n (j := 1) dX8_paid_17 rfl ?_
  refine Runs.iload_n (j := 2) dX8_paid_18 rfl ?_
  refine Runs.iload_n (j := 3) dX8_paid_19 rfl ?_
  refine Runs.callVv (y := mX8_seekFewest) (n := 3) (as := [vi x1, vi x2, vi x3]) (st := []) (q := (RX8, TX8, 12)) dX8_paid_20 oc_X8_seekFewest im_X8_seekFewest se_X8_seekFewest ml_X8_159 rfl ⟨(Nat.le_of_ble_eq_true rfl), (Nat.le_of_ble_eq_true rfl)⟩ (Nat.le_of_ble_eq_true rfl) (Nat.le_of_ble_eq_true rfl) rfl rfl rfl rfl hC (fun M1 hQ => ?_)
  refine Runs.picks (loc' := [(0, vr 0), (4, vi x4)]) [0, 4] rfl ?_
  exact k M1 hQ
theorem kX8_paid_23 {X : Scr} {M : Mem} {P : Option AV → Mem → Prop} {x4 : Int} (k1 : (M 33 0) ≠ 0 → Runs X mX8_paid 36 [(0, vr 0), (4, vi x4)] [] M P) (k2 : (M 33 0) = 0 → Runs X mX8_paid 33 [] [] M P) : Runs X mX8_paid 23 [(0, vr 0), (4, vi x4)] [] M P := by
  refine Runs.aload_n (j := 0) dX8_paid_23 rfl ?_
  refine Runs.getr (o' := 33) (ci := 8) (j := 8) (C := RX8) (T := TX8) (N := 12) dX8_paid_24 rfl cls_X8 (by decide) rfl fl_X8_60 rfl ⟨rfl, _, Or.inl rfl⟩ ?_
  refine Runs.geti (ci := 2) (j := 0) (C := RX2) (T := TX2) (N := 4) dX8_paid_27 rfl cls_X2 (by decide) rfl fl_X8_162 (Or.inr (Or.inl rfl)) ?_
  refine Runs.if_ne (tgt := 36) dX8_paid_30 (by decide) (fun h => ?_) (fun h => ?_)
  · exact k1 h
  · refine Runs.picks (loc' := []) [] rfl ?_
    exact k2 h
theorem kX8_paid_33 {X : Scr} {M : Mem} {P : Option AV → Mem → Prop} (k : P (some (vi (-9 : Int))) M) : Runs X mX8_paid 33 [] [] M P := by
  refine Runs.bipush dX8_paid_33 (by decide) (by decide) ?_
  exact Runs.reti dX8_paid_35 rfl k
theorem kX8_paid_36 {X : Scr} {M : Mem} {P : Option AV → Mem → Prop} {x4 : Int} (k1 : x4 = 0 → Runs X mX8_paid 51 [(0, vr 0)] [] M P) (k2 : x4 ≠ 0 → Runs X mX8_paid 41 [(0, vr 0)] [] M P) : Runs X mX8_paid 36 [(0, vr 0), (4, vi x4)] [] M P := by
  refine Runs.iload (j := 1) dX8_paid_36 rfl ?_
  refine Runs.if_eq (tgt := 51) dX8_paid_38 (by decide) (fun h => ?_) (fun h => ?_)
  · refine Runs.picks (loc' := [(0, vr 0)]) [0] rfl ?_
    exact k1 h
  · refine Runs.picks (loc' := [(0, vr 0)]) [0] rfl ?_
    exact k2 h
theorem kX8_paid_41 {X : Scr} {M : Mem} {P : Option AV → Mem → Prop} (k : Runs X mX8_paid 58 [] [vi (M 33 3)] M P) : Runs X mX8_paid 41 [(0, vr 0)] [] M P := by
  refine Runs.aload_n (j := 0) dX8_paid_41 rfl ?_
  refine Runs.getr (o' := 33) (ci := 8) (j := 8) (C := RX8) (T := TX8) (N := 12) dX8_paid_42 rfl cls_X8 (by decide) rfl fl_X8_60 rfl ⟨rfl, _, Or.inl rfl⟩ ?_
  refine Runs.geti (ci := 2) (j := 3) (C := RX2) (T := TX2) (N := 4) dX8_paid_45 rfl cls_X2 (by decide) rfl fl_X8_169 (Or.inl rfl) ?_
  refine Runs.goto (tgt := 58) dX8_paid_48 (by decide) ?_
  refine Runs.picks (loc' := []) [] rfl ?_
  exact k
theorem kX8_paid_51 {X : Scr} {M : Mem} {P : Option AV → Mem → Prop} (k : Runs X mX8_paid 58 [] [vi (M 33 2)] M P) : Runs X mX8_paid 51 [(0, vr 0)] [] M P := by
  refine Runs.aload_n (j := 0) dX8_paid_51 rfl ?_
  refine Runs.getr (o' := 33) (ci := 8) (j := 8) (C := RX8) (T := TX8) (N := 12) dX8_paid_52 rfl cls_X8 (by decide) rfl fl_X8_60 rfl ⟨rfl, _, Or.inl rfl⟩ ?_
  refine Runs.geti (ci := 2) (j := 2) (C := RX2) (T := TX2) (N := 4) dX8_paid_55 rfl cls_X2 (by decide) rfl fl_X8_172 (Or.inl rfl) ?_
  refine Runs.picks (loc' := []) [] rfl ?_
  exact k
theorem kX8_paid_58 {X : Scr} {M : Mem} {P : Option AV → Mem → Prop} {xs0 : Int} (k : P (some (vi xs0)) M) : Runs X mX8_paid 58 [] [vi xs0] M P := by
  exact Runs.reti dX8_paid_58 rfl k
theorem kX8_pay_0 {X : Scr} {M : Mem} {P Q : Option AV → Mem → Prop} {x1 x2 x3 : Int} (hC : Call X mX8_paymentRefusal [vi x1, vi x2, vi x3] M Q) (k : ∀ (z : Int) (M1 : Mem), Q (some (vi z)) M1 → Runs X mX8_pay 6 [(0, vr 0), (1, vi x1), (2, vi x2), (3, vi x3)] [vi z] M1 P) : Runs X mX8_pay 0 [(0, vr 0), (1, vi x1), (2, vi x2), (3, vi x3)] [] M P := by
  refine Runs.iload_n (j := 1) dX8_pay_0 rfl ?_
  refine Runs.iload_n (j := 2) dX8_pay_1 rfl ?_
  refine Runs.iload_n (j := 3) dX8_pay_2 rfl ?_
  refine Runs.callSi (y := mX8_paymentRefusal) (n := 3) (as := [vi x1, vi x2, vi x3]) (st := []) dX8_pay_3 oc_X8_paymentRefusal sm_X8_paymentRefusal ml_X8_155 rfl ⟨(Nat.le_of_ble_eq_true rfl), (Nat.le_of_ble_eq_true rfl)⟩ (Nat.le_of_ble_eq_true rfl) (Nat.le_of_ble_eq_true rfl) (Or.inl rfl) hC (fun z M1 hQ => ?_)
  exact k z M1 hQ
theorem kX8_pay_6 {X : Scr} {M : Mem} {P : Option AV → Mem → Prop} {x1 x2 x3 xs0 : Int} (k1 : xs0 = 0 → Runs X mX8_pay 16 [(0, vr 0), (1, vi x1), (2, vi x2), (3, vi x3)] [] M P) (k2 : xs0 ≠ 0 → Runs X mX8_pay 13 [(4, vi xs0)] [] M P) : Runs X mX8_pay 6 [(0, vr 0), (1, vi x1), (2, vi x2), (3, vi x3)] [vi xs0] M P := by
  refine Runs.istore (loc' := [(0, vr 0), (1, vi x1), (2, vi x2), (3, vi x3), (4, vi xs0)]) dX8_pay_6 (by decide) rfl ?_
  refine Runs.iload (j := 4) dX8_pay_8 rfl ?_
  refine Runs.if_eq (tgt := 16) dX8_pay_10 (by decide) (fun h => ?_) (fun h => ?_)
  · refine Runs.picks (loc' := [(0, vr 0), (1, vi x1), (2, vi x2), (3, vi x3)]) [0, 1, 2, 3] rfl ?_
    exact k1 h
  · refine Runs.picks (loc' := [(4, vi xs0)]) [4] rfl ?_
    exact k2 h
theorem kX8_pay_13 {X : Scr} {M : Mem} {P : Option AV → Mem → Prop} {x4 : Int} (k : P (some (vi x4)) M) : Runs X mX8_pay 13 [(4, vi x4)] [] M P := by
  refine Runs.iload (j := 0) dX8_pay_13 rfl ?_
  exact Runs.reti dX8_pay_15 rfl k
theorem kX8_pay_16 {X : Scr} {M : Mem} {P Q : Option AV → Mem → Prop} {x1 x2 x3 : Int} (hC : Call X mX8_seekFewest [vr 0, vi x1, vi x2, vi x3] M Q) (k : ∀ (M1 : Mem), Q none M1 → Runs X mX8_pay 23 [(0, vr 0), (1, vi x1), (2, vi x2)] [] M1 P) : Runs X mX8_pay 16 [(0, vr 0), (1, vi x1), (2, vi x2), (3, vi x3)] [] M P := by
  refine Runs.aload_n (j := 0) dX8_pay_16 rfl ?_
  refine Runs.iload_n (j := 1) dX8_pay_17 rfl ?_
  refine Runs.iload_n (j := 2) dX8_pay_18 rfl ?_
  refine Runs.iload_n (j := 3) dX8_pay_19 rfl ?_
  refine Runs.callVv (y := mX8_seekFewest) (n := 3) (as := [vi x1, vi x2, vi x3]) (st := []) (q := (RX8, TX8, 12)) dX8_pay_20 oc_X8_seekFewest im_X8_seekFewest se_X8_seekFewest ml_X8_159 rfl ⟨(Nat.le_of_ble_eq_true rfl), (Nat.le_of_ble_eq_true rfl)⟩ (Nat.le_of_ble_eq_true rfl) (Nat.le_of_ble_eq_true rfl) rfl rfl rfl rfl hC (fun M1 hQ => ?_)
  refine Runs.picks (loc' := [(0, vr 0), (1, vi x1), (2, vi x2)]) [0, 1, 2] rfl ?_
  exact k M1 hQ
theorem kX8_pay_23 {X : Scr} {M : Mem} {P : Option AV → Mem → Prop} {x1 x2 : Int} (k1 : (M 33 0) ≠ 0 → Runs X mX8_pay 36 [(0, vr 0), (1, vi x1), (2, vi x2)] [] M P) (k2 : (M 33 0) = 0 → Runs X mX8_pay 33 [] [] M P) : Runs X mX8_pay 23 [(0, vr 0), (1, vi x1), (2, vi x2)] [] M P := by
  refine Runs.aload_n (j := 0) dX8_pay_23 rfl ?_
  refine Runs.getr (o' := 33) (ci := 8) (j := 8) (C := RX8) (T := TX8) (N := 12) dX8_pay_24 rfl cls_X8 (by decide) rfl fl_X8_60 rfl ⟨rfl, _, Or.inl rfl⟩ ?_
  refine Runs.geti (ci := 2) (j := 0) (C := RX2) (T := TX2) (N := 4) dX8_pay_27 rfl cls_X2 (by decide) rfl fl_X8_162 (Or.inr (Or.inl rfl)) ?_
  refine Runs.if_ne (tgt := 36) dX8_pay_30 (by decide) (fun h => ?_) (fun h => ?_)
  · exact k1 h
  · refine Runs.picks (loc' := []) [] rfl ?_
    exact k2 h
theorem kX8_pay_33 {X : Scr} {M : Mem} {P : Option AV → Mem → Prop} (k : P (some (vi (-3 : Int))) M) : Runs X mX8_pay 33 [] [] M P := by
  refine Runs.bipush dX8_pay_33 (by decide) (by decide) ?_
  exact Runs.reti dX8_pay_35 rfl k
theorem kX8_pay_36 {X : Scr} {M : Mem} {P : Option AV → Mem → Prop} {x1 x2 : Int} (k1 : (M (oB 0) 1) < (8 : Int) → Runs X mX8_pay 51 [(0, vr 0), (1, vi x1), (2, vi x2)] [] M P) (k2 : (8 : Int) ≤ (M (oB 0) 1) → Runs X mX8_pay 48 [] [] M P) : Runs X mX8_pay 36 [(0, vr 0), (1, vi x1), (2, vi x2)] [] M P := by
  refine Runs.aload_n (j := 0) dX8_pay_36 rfl ?_
  refine Runs.getr (o' := (oB 0)) (ci := 8) (j := 3) (C := RX8) (T := TX8) (N := 12) dX8_pay_37 rfl cls_X8 (by decide) rfl fl_X8_33 rfl ⟨rfl, _, Or.inl rfl⟩ ?_
  refine Runs.geti (ci := 0) (j := 1) (C := RX0) (T := TX0) (N := 2) dX8_pay_40 (kd_oB (by omega)) cls_X0 (by decide) rfl fl_X8_98 (Or.inl rfl) ?_
  refine Runs.bipush dX8_pay_43 (by decide) (by decide) ?_
  refine Runs.icmp_lt (tgt := 51) dX8_pay_45 (by decide) (fun h => ?_) (fun h => ?_)
  · exact k1 h
  · refine Runs.picks (loc' := []) [] rfl ?_
    exact k2 h
theorem kX8_pay_48 {X : Scr} {M : Mem} {P : Option AV → Mem → Prop} (k : P (some (vi (-4 : Int))) M) : Runs X mX8_pay 48 [] [] M P := by
  refine Runs.bipush dX8_pay_48 (by decide) (by decide) ?_
  exact Runs.reti dX8_pay_50 rfl k
theorem kX8_pay_51 {X : Scr} {M : Mem} {P Q : Option AV → Mem → Prop} {x1 x2 : Int} (hC : Call X mX0_remember [vr (oB 0), vr (oT 0)] M Q) (k : ∀ (M1 : Mem), Q none M1 → Runs X mX8_pay 62 [(0, vr 0), (1, vi x1), (2, vi x2)] [] M1 P) : Runs X mX8_pay 51 [(0, vr 0), (1, vi x1), (2, vi x2)] [] M P := by
  refine Runs.aload_n (j := 0) dX8_pay_51 rfl ?_
  refine Runs.getr (o' := (oB 0)) (ci := 8) (j := 3) (C := RX8) (T := TX8) (N := 12) dX8_pay_52 rfl cls_X8 (by decide) rfl fl_X8_33 rfl ⟨rfl, _, Or.inl rfl⟩ ?_
  refine Runs.aload_n (j := 0) dX8_pay_55 rfl ?_
  refine Runs.getr (o' := (oT 0)) (ci := 8) (j := 1) (C := RX8) (T := TX8) (N := 12) dX8_pay_56 rfl cls_X8 (by decide) rfl fl_X8_19 rfl ⟨rfl, _, Or.inl rfl⟩ ?_
  refine Runs.callVv (y := mX0_remember) (n := 1) (as := [vr (oT 0)]) (st := []) (q := (RX0, TX0, 2)) dX8_pay_59 oc_X0_remember im_X0_remember se_X0_remember ml_X8_175 rfl ⟨(Nat.le_of_ble_eq_true rfl), (Nat.le_of_ble_eq_true rfl)⟩ (Nat.le_of_ble_eq_true rfl) (Nat.le_of_ble_eq_true rfl) (kd_oB (by omega)) rfl rfl rfl hC (fun M1 hQ => ?_)
  exact k M1 hQ
theorem kX8_pay_62 {X : Scr} {M : Mem} {P Q : Option AV → Mem → Prop} {x1 x2 : Int} (hC : Call X mX8_handOver [vr 0, vi (M 33 2), vi x2] M Q) (k : ∀ (M1 : Mem), Q none M1 → Runs X mX8_pay 74 [(0, vr 0), (1, vi x1)] [] M1 P) : Runs X mX8_pay 62 [(0, vr 0), (1, vi x1), (2, vi x2)] [] M P := by
  refine Runs.aload_n (j := 0) dX8_pay_62 rfl ?_
  refine Runs.aload_n (j := 0) dX8_pay_63 rfl ?_
  refine Runs.getr (o' := 33) (ci := 8) (j := 8) (C := RX8) (T := TX8) (N := 12) dX8_pay_64 rfl cls_X8 (by decide) rfl fl_X8_60 rfl ⟨rfl, _, Or.inl rfl⟩ ?_
  refine Runs.geti (ci := 2) (j := 2) (C := RX2) (T := TX2) (N := 4) dX8_pay_67 rfl cls_X2 (by decide) rfl fl_X8_172 (Or.inl rfl) ?_
  refine Runs.iload_n (j := 2) dX8_pay_70 rfl ?_
  refine Runs.callVv (y := mX8_handOver) (n := 2) (as := [vi (M 33 2), vi x2]) (st := []) (q := (RX8, TX8, 12)) dX8_pay_71 oc_X8_handOver im_X8_handOver se_X8_handOver ml_X8_179 rfl ⟨(Nat.le_of_ble_eq_true rfl), (Nat.le_of_ble_eq_true rfl)⟩ (Nat.le_of_ble_eq_true rfl) (Nat.le_of_ble_eq_true rfl) rfl rfl rfl rfl hC (fun M1 hQ => ?_)
  refine Runs.picks (loc' := [(0, vr 0), (1, vi x1)]) [0, 1] rfl ?_
  exact k M1 hQ
theorem kX8_pay_74 {X : Scr} {M : Mem} {P Q : Option AV → Mem → Prop} {x1 : Int} (hC : Call X mX8_handOver [vr 0, vi (M 33 3), vi x1] M Q) (k : ∀ (M1 : Mem), Q none M1 → Runs X mX8_pay 86 [(0, vr 0)] [] M1 P) : Runs X mX8_pay 74 [(0, vr 0), (1, vi x1)] [] M P := by
  refine Runs.aload_n (j := 0) dX8_pay_74 rfl ?_
  refine Runs.aload_n (j := 0) dX8_pay_75 rfl ?_
  refine Runs.getr (o' := 33) (ci := 8) (j := 8) (C := RX8) (T := TX8) (N := 12) dX8_pay_76 rfl cls_X8 (by decide) rfl fl_X8_60 rfl ⟨rfl, _, Or.inl rfl⟩ ?_
  refine Runs.geti (ci := 2) (j := 3) (C := RX2) (T := TX2) (N := 4) dX8_pay_79 rfl cls_X2 (by decide) rfl fl_X8_169 (Or.inl rfl) ?_
  refine Runs.iload_n (j := 1) dX8_pay_82 rfl ?_
  refine Runs.callVv (y := mX8_handOver) (n := 2) (as := [vi (M 33 3), vi x1]) (st := []) (q := (RX8, TX8, 12)) dX8_pay_83 oc_X8_handOver im_X8_handOver se_X8_handOver ml_X8_179 rfl ⟨(Nat.le_of_ble_eq_true rfl), (Nat.le_of_ble_eq_true rfl)⟩ (Nat.le_of_ble_eq_true rfl) (Nat.le_of_ble_eq_true rfl) rfl rfl rfl rfl hC (fun M1 hQ => ?_)
  refine Runs.picks (loc' := [(0, vr 0)]) [0] rfl ?_
  exact k M1 hQ
theorem kX8_pay_86 {X : Scr} {M : Mem} {P : Option AV → Mem → Prop} (k : P (some (vi (M 33 1))) M) : Runs X mX8_pay 86 [(0, vr 0)] [] M P := by
  refine Runs.aload_n (j := 0) dX8_pay_86 rfl ?_
  refine Runs.getr (o' := 33) (ci := 8) (j := 8) (C := RX8) (T := TX8) (N := 12) dX8_pay_87 rfl cls_X8 (by decide) rfl fl_X8_60 rfl ⟨rfl, _, Or.inl rfl⟩ ?_
  refine Runs.geti (ci := 2) (j := 1) (C := RX2) (T := TX2) (N := 4) dX8_pay_90 rfl cls_X2 (by decide) rfl fl_X8_166 (Or.inl rfl) ?_
  exact Runs.reti dX8_pay_93 rfl k
theorem kX8_undo_0 {X : Scr} {M : Mem} {P : Option AV → Mem → Prop} (k1 : (1 : Int) ≤ (M (oB 0) 1) → Runs X mX8_undo 14 [(0, vr 0)] [] M P) (k2 : (M (oB 0) 1) < (1 : Int) → Runs X mX8_undo 11 [] [] M P) : Runs X mX8_undo 0 [(0, vr 0)] [] M P := by
  refine Runs.aload_n (j := 0) dX8_undo_0 rfl ?_
  refine Runs.getr (o' := (oB 0)) (ci := 8) (j := 3) (C := RX8) (T := TX8) (N := 12) dX8_undo_1 rfl cls_X8 (by decide) rfl fl_X8_33 rfl ⟨rfl, _, Or.inl rfl⟩ ?_
  refine Runs.geti (ci := 0) (j := 1) (C := RX0) (T := TX0) (N := 2) dX8_undo_4 (kd_oB (by omega)) cls_X0 (by decide) rfl fl_X8_98 (Or.inl rfl) ?_
  refine Runs.iconst dX8_undo_7 (by decide) ?_
  refine Runs.icmp_ge (tgt := 14) dX8_undo_8 (by decide) (fun h => ?_) (fun h => ?_)
  · exact k1 h
  · refine Runs.picks (loc' := []) [] rfl ?_
    exact k2 h
theorem kX8_undo_11 {X : Scr} {M : Mem} {P : Option AV → Mem → Prop} (k : P (some (vi (-3 : Int))) M) : Runs X mX8_undo 11 [] [] M P := by
  refine Runs.bipush dX8_undo_11 (by decide) (by decide) ?_
  exact Runs.reti dX8_undo_13 rfl k
theorem kX8_undo_14 {X : Scr} {M : Mem} {P Q : Option AV → Mem → Prop} (hC : Call X mX0_takeBack [vr (oB 0), vr (oT 0)] M Q) (k : ∀ (M1 : Mem), Q none M1 → Runs X mX8_undo 25 [(0, vr 0)] [] M1 P) : Runs X mX8_undo 14 [(0, vr 0)] [] M P := by
  refine Runs.aload_n (j := 0) dX8_undo_14 rfl ?_
  refine Runs.getr (o' := (oB 0)) (ci := 8) (j := 3) (C := RX8) (T := TX8) (N := 12) dX8_undo_15 rfl cls_X8 (by decide) rfl fl_X8_33 rfl ⟨rfl, _, Or.inl rfl⟩ ?_
  refine Runs.aload_n (j := 0) dX8_undo_18 rfl ?_
  refine Runs.getr (o' := (oT 0)) (ci := 8) (j := 1) (C := RX8) (T := TX8) (N := 12) dX8_undo_19 rfl cls_X8 (by decide) rfl fl_X8_19 rfl ⟨rfl, _, Or.inl rfl⟩ ?_
  refine Runs.callVv (y := mX0_takeBack) (n := 1) (as := [vr (oT 0)]) (st := []) (q := (RX0, TX0, 2)) dX8_undo_22 oc_X0_takeBack im_X0_takeBack se_X0_takeBack ml_X8_183 rfl ⟨(Nat.le_of_ble_eq_true rfl), (Nat.le_of_ble_eq_true rfl)⟩ (Nat.le_of_ble_eq_true rfl) (Nat.le_of_ble_eq_true rfl) (kd_oB (by omega)) rfl rfl rfl hC (fun M1 hQ => ?_)
  exact k M1 hQ
theorem kX8_undo_25 {X : Scr} {M : Mem} {P : Option AV → Mem → Prop} (k : P (some (vi (M (oB 0) 1))) M) : Runs X mX8_undo 25 [(0, vr 0)] [] M P := by
  refine Runs.aload_n (j := 0) dX8_undo_25 rfl ?_
  refine Runs.getr (o' := (oB 0)) (ci := 8) (j := 3) (C := RX8) (T := TX8) (N := 12) dX8_undo_26 rfl cls_X8 (by decide) rfl fl_X8_33 rfl ⟨rfl, _, Or.inl rfl⟩ ?_
  refine Runs.geti (ci := 0) (j := 1) (C := RX0) (T := TX0) (N := 2) dX8_undo_29 (kd_oB (by omega)) cls_X0 (by decide) rfl fl_X8_98 (Or.inl rfl) ?_
  exact Runs.reti dX8_undo_32 rfl k
theorem kX8_tooMuch_0 {X : Scr} {M : Mem} {P Q : Option AV → Mem → Prop} {x1 x2 x3 : Int} (hC : Call X mX8_isPerson [vi x1] M Q) (k : ∀ (z : Int) (M1 : Mem), Q (some (vi z)) M1 → Runs X mX8_tooMuch 4 [(0, vr 0), (1, vi x1), (2, vi x2), (3, vi x3)] [vi z] M1 P) : Runs X mX8_tooMuch 0 [(0, vr 0), (1, vi x1), (2, vi x2), (3, vi x3)] [] M P := by
  refine Runs.iload_n (j := 1) dX8_tooMuch_0 rfl ?_
  refine Runs.callSi (y := mX8_isPerson) (n := 1) (as := [vi x1]) (st := []) dX8_tooMuch_1 oc_X8_isPerson sm_X8_isPerson ml_X8_139 rfl ⟨(Nat.le_of_ble_eq_true rfl), (Nat.le_of_ble_eq_true rfl)⟩ (Nat.le_of_ble_eq_true rfl) (Nat.le_of_ble_eq_true rfl) (Or.inr rfl) hC (fun z M1 hQ => ?_)
  exact k z M1 hQ
theorem kX8_tooMuch_4 {X : Scr} {M : Mem} {P : Option AV → Mem → Prop} {x1 x2 x3 xs0 : Int} (k1 : xs0 ≠ 0 → Runs X mX8_tooMuch 9 [(0, vr 0), (1, vi x1), (2, vi x2), (3, vi x3)] [] M P) (k2 : xs0 = 0 → Runs X mX8_tooMuch 7 [] [] M P) : Runs X mX8_tooMuch 4 [(0, vr 0), (1, vi x1), (2, vi x2), (3, vi x3)] [vi xs0] M P := by
  refine Runs.if_ne (tgt := 9) dX8_tooMuch_4 (by decide) (fun h => ?_) (fun h => ?_)
  · exact k1 h
  · refine Runs.picks (loc' := []) [] rfl ?_
    exact k2 h
theorem kX8_tooMuch_7 {X : Scr} {M : Mem} {P : Option AV → Mem → Prop} (k : P (some (vi (-1 : Int))) M) : Runs X mX8_tooMuch 7 [] [] M P := by
  refine Runs.iconst dX8_tooMuch_7 (by decide) ?_
  exact Runs.reti dX8_tooMuch_8 rfl k
theorem kX8_tooMuch_9 {X : Scr} {M : Mem} {P Q : Option AV → Mem → Prop} {x1 x2 x3 : Int} (hC : Call X mX8_isPrice [vi x2] M Q) (k : ∀ (z : Int) (M1 : Mem), Q (some (vi z)) M1 → Runs X mX8_tooMuch 13 [(0, vr 0), (1, vi x1), (2, vi x2), (3, vi x3)] [vi z] M1 P) : Runs X mX8_tooMuch 9 [(0, vr 0), (1, vi x1), (2, vi x2), (3, vi x3)] [] M P := by
  refine Runs.iload_n (j := 2) dX8_tooMuch_9 rfl ?_
  refine Runs.callSi (y := mX8_isPrice) (n := 1) (as := [vi x2]) (st := []) dX8_tooMuch_10 oc_X8_isPrice sm_X8_isPrice ml_X8_186 rfl ⟨(Nat.le_of_ble_eq_true rfl), (Nat.le_of_ble_eq_true rfl)⟩ (Nat.le_of_ble_eq_true rfl) (Nat.le_of_ble_eq_true rfl) (Or.inr rfl) hC (fun z M1 hQ => ?_)
  exact k z M1 hQ
theorem kX8_tooMuch_13 {X : Scr} {M : Mem} {P : Option AV → Mem → Prop} {x1 x2 x3 xs0 : Int} (k1 : xs0 ≠ 0 → Runs X mX8_tooMuch 19 [(0, vr 0), (1, vi x1), (2, vi x2), (3, vi x3)] [] M P) (k2 : xs0 = 0 → Runs X mX8_tooMuch 16 [] [] M P) : Runs X mX8_tooMuch 13 [(0, vr 0), (1, vi x1), (2, vi x2), (3, vi x3)] [vi xs0] M P := by
  refine Runs.if_ne (tgt := 19) dX8_tooMuch_13 (by decide) (fun h => ?_) (fun h => ?_)
  · exact k1 h
  · refine Runs.picks (loc' := []) [] rfl ?_
    exact k2 h
theorem kX8_tooMuch_16 {X : Scr} {M : Mem} {P : Option AV → Mem → Prop} (k : P (some (vi (-2 : Int))) M) : Runs X mX8_tooMuch 16 [] [] M P := by
  refine Runs.bipush dX8_tooMuch_16 (by decide) (by decide) ?_
  exact Runs.reti dX8_tooMuch_18 rfl k
theorem kX8_tooMuch_19 {X : Scr} {M : Mem} {P Q : Option AV → Mem → Prop} {x1 x2 x3 : Int} (hC : Call X mX6_ownedBy [vr (oT 0), vi x1] M Q) (k : ∀ (z : Int) (M1 : Mem), Q (some (vi z)) M1 → Runs X mX8_tooMuch 28 [(0, vr 0), (2, vi x2), (3, vi x3)] [vi z, vr 0] M1 P) : Runs X mX8_tooMuch 19 [(0, vr 0), (1, vi x1), (2, vi x2), (3, vi x3)] [] M P := by
  refine Runs.aload_n (j := 0) dX8_tooMuch_19 rfl ?_
  refine Runs.aload_n (j := 0) dX8_tooMuch_20 rfl ?_
  refine Runs.getr (o' := (oT 0)) (ci := 8) (j := 1) (C := RX8) (T := TX8) (N := 12) dX8_tooMuch_21 rfl cls_X8 (by decide) rfl fl_X8_19 rfl ⟨rfl, _, Or.inl rfl⟩ ?_
  refine Runs.iload_n (j := 1) dX8_tooMuch_24 rfl ?_
  refine Runs.callVi (y := mX6_ownedBy) (n := 1) (as := [vi x1]) (st := [vr 0]) (q := (RX6, TX6, 2)) dX8_tooMuch_25 oc_X6_ownedBy im_X6_ownedBy se_X6_ownedBy ml_X8_142 rfl ⟨(Nat.le_of_ble_eq_true rfl), (Nat.le_of_ble_eq_true rfl)⟩ (Nat.le_of_ble_eq_true rfl) (Nat.le_of_ble_eq_true rfl) (kd_oT (by omega)) rfl rfl (Or.inl rfl) hC (fun z M1 hQ => ?_)
  refine Runs.picks (loc' := [(0, vr 0), (2, vi x2), (3, vi x3)]) [0, 2, 3] rfl ?_
  exact k z M1 hQ
theorem kX8_tooMuch_28 {X : Scr} {M : Mem} {P Q : Option AV → Mem → Prop} {x2 x3 xs1 : Int} (hC : Call X mX8_seekTooMuch [vr 0, vi xs1, vi x2] M Q) (k : ∀ (M1 : Mem), Q none M1 → Runs X mX8_tooMuch 32 [(0, vr 0), (3, vi x3)] [] M1 P) : Runs X mX8_tooMuch 28 [(0, vr 0), (2, vi x2), (3, vi x3)] [vi xs1, vr 0] M P := by
  refine Runs.iload_n (j := 1) dX8_tooMuch_28 rfl ?_
  refine Runs.callVv (y := mX8_seekTooMuch) (n := 2) (as := [vi xs1, vi x2]) (st := []) (q := (RX8, TX8, 12)) dX8_tooMuch_29 oc_X8_seekTooMuch im_X8_seekTooMuch se_X8_seekTooMuch ml_X8_189 rfl ⟨(Nat.le_of_ble_eq_true rfl), (Nat.le_of_ble_eq_true rfl)⟩ (Nat.le_of_ble_eq_true rfl) (Nat.le_of_ble_eq_true rfl) rfl rfl rfl rfl hC (fun M1 hQ => ?_)
  refine Runs.picks (loc' := [(0, vr 0), (3, vi x3)]) [0, 2] rfl ?_
  exact k M1 hQ
theorem kX8_tooMuch_32 {X : Scr} {M : Mem} {P : Option AV → Mem → Prop} {x3 : Int} (k1 : (M 33 0) ≠ 0 → Runs X mX8_tooMuch 45 [(0, vr 0), (3, vi x3)] [] M P) (k2 : (M 33 0) = 0 → Runs X mX8_tooMuch 42 [] [] M P) : Runs X mX8_tooMuch 32 [(0, vr 0), (3, vi x3)] [] M P := by
  refine Runs.aload_n (j := 0) dX8_tooMuch_32 rfl ?_
  refine Runs.getr (o' := 33) (ci := 8) (j := 8) (C := RX8) (T := TX8) (N := 12) dX8_tooMuch_33 rfl cls_X8 (by decide) rfl fl_X8_60 rfl ⟨rfl, _, Or.inl rfl⟩ ?_
  refine Runs.geti (ci := 2) (j := 0) (C := RX2) (T := TX2) (N := 4) dX8_tooMuch_36 rfl cls_X2 (by decide) rfl fl_X8_162 (Or.inr (Or.inl rfl)) ?_
  refine Runs.if_ne (tgt := 45) dX8_tooMuch_39 (by decide) (fun h => ?_) (fun h => ?_)
  · exact k1 h
  · refine Runs.picks (loc' := []) [] rfl ?_
    exact k2 h
theorem kX8_tooMuch_42 {X : Scr} {M : Mem} {P : Option AV → Mem → Prop} (k : P (some (vi (-9 : Int))) M) : Runs X mX8_tooMuch 42 [] [] M P := by
  refine Runs.bipush dX8_tooMuch_42 (by decide) (by decide) ?_
  exact Runs.reti dX8_tooMuch_44 rfl k
theorem kX8_tooMuch_45 {X : Scr} {M : Mem} {P : Option AV → Mem → Prop} {x3 : Int} (k1 : x3 = 0 → Runs X mX8_tooMuch 59 [(0, vr 0)] [] M P) (k2 : x3 ≠ 0 → Runs X mX8_tooMuch 49 [(0, vr 0)] [] M P) : Runs X mX8_tooMuch 45 [(0, vr 0), (3, vi x3)] [] M P := by
  refine Runs.iload_n (j := 1) dX8_tooMuch_45 rfl ?_
  refine Runs.if_eq (tgt := 59) dX8_tooMuch_46 (by decide) (fun h => ?_) (fun h => ?_)
  · refine Runs.picks (loc' := [(0, vr 0)]) [0] rfl ?_
    exact k1 h
  · refine Runs.picks (loc' := [(0, vr 0)]) [0] rfl ?_
    exact k2 h
theorem kX8_tooMuch_49 {X : Scr} {M : Mem} {P : Option AV → Mem → Prop} (k : Runs X mX8_tooMuch 66 [] [vi (M 33 3)] M P) : Runs X mX8_tooMuch 49 [(0, vr 0)] [] M P := by
  refine Runs.aload_n (j := 0) dX8_tooMuch_49 rfl ?_
  refine Runs.getr (o' := 33) (ci := 8) (j := 8) (C := RX8) (T := TX8) (N := 12) dX8_tooMuch_50 rfl cls_X8 (by decide) rfl fl_X8_60 rfl ⟨rfl, _, Or.inl rfl⟩ ?_
  refine Runs.geti (ci := 2) (j := 3) (C := RX2) (T := TX2) (N := 4) dX8_tooMuch_53 rfl cls_X2 (by decide) rfl fl_X8_169 (Or.inl rfl) ?_
  refine Runs.goto (tgt := 66) dX8_tooMuch_56 (by decide) ?_
  refine Runs.picks (loc' := []) [] rfl ?_
  exact k
theorem kX8_tooMuch_59 {X : Scr} {M : Mem} {P : Option AV → Mem → Prop} (k : Runs X mX8_tooMuch 66 [] [vi (M 33 1)] M P) : Runs X mX8_tooMuch 59 [(0, vr 0)] [] M P := by
  refine Runs.aload_n (j := 0) dX8_tooMuch_59 rfl ?_
  refine Runs.getr (o' := 33) (ci := 8) (j := 8) (C := RX8) (T := TX8) (N := 12) dX8_tooMuch_60 rfl cls_X8 (by decide) rfl fl_X8_60 rfl ⟨rfl, _, Or.inl rfl⟩ ?_
  refine Runs.geti (ci := 2) (j := 1) (C := RX2) (T := TX2) (N := 4) dX8_tooMuch_63 rfl cls_X2 (by decide) rfl fl_X8_166 (Or.inl rfl) ?_
  refine Runs.picks (loc' := []) [] rfl ?_
  exact k
theorem kX8_tooMuch_66 {X : Scr} {M : Mem} {P : Option AV → Mem → Prop} {xs0 : Int} (k : P (some (vi xs0)) M) : Runs X mX8_tooMuch 66 [] [vi xs0] M P := by
  exact Runs.reti dX8_tooMuch_66 rfl k
theorem kX8_sums_0 {X : Scr} {M : Mem} {P Q : Option AV → Mem → Prop} {x1 x2 x3 : Int} (hC : Call X mX8_isPerson [vi x1] M Q) (k : ∀ (z : Int) (M1 : Mem), Q (some (vi z)) M1 → Runs X mX8_sums 4 [(0, vr 0), (1, vi x1), (2, vi x2), (3, vi x3)] [vi z] M1 P) : Runs X mX8_sums 0 [(0, vr 0), (1, vi x1), (2, vi x2), (3, vi x3)] [] M P := by
  refine Runs.iload_n (j := 1) dX8_sums_0 rfl ?_
  refine Runs.callSi (y := mX8_isPerson) (n := 1) (as := [vi x1]) (st := []) dX8_sums_1 oc_X8_isPerson sm_X8_isPerson ml_X8_139 rfl ⟨(Nat.le_of_ble_eq_true rfl), (Nat.le_of_ble_eq_true rfl)⟩ (Nat.le_of_ble_eq_true rfl) (Nat.le_of_ble_eq_true rfl) (Or.inr rfl) hC (fun z M1 hQ => ?_)
  exact k z M1 hQ
theorem kX8_sums_4 {X : Scr} {M : Mem} {P : Option AV → Mem → Prop} {x1 x2 x3 xs0 : Int} (k1 : xs0 = 0 → Runs X mX8_sums 14 [] [] M P) (k2 : xs0 ≠ 0 → Runs X mX8_sums 7 [(0, vr 0), (1, vi x1), (2, vi x2), (3, vi x3)] [] M P) : Runs X mX8_sums 4 [(0, vr 0), (1, vi x1), (2, vi x2), (3, vi x3)] [vi xs0] M P := by
  refine Runs.if_eq (tgt := 14) dX8_sums_4 (by decide) (fun h => ?_) (fun h => ?_)
  · refine Runs.picks (loc' := []) [] rfl ?_
    exact k1 h
  · exact k2 h
theorem kX8_sums_7 {X : Scr} {M : Mem} {P Q : Option AV → Mem → Prop} {x1 x2 x3 : Int} (hC : Call X mX8_isPerson [vi x2] M Q) (k : ∀ (z : Int) (M1 : Mem), Q (some (vi z)) M1 → Runs X mX8_sums 11 [(0, vr 0), (1, vi x1), (2, vi x2), (3, vi x3)] [vi z] M1 P) : Runs X mX8_sums 7 [(0, vr 0), (1, vi x1), (2, vi x2), (3, vi x3)] [] M P := by
  refine Runs.iload_n (j := 2) dX8_sums_7 rfl ?_
  refine Runs.callSi (y := mX8_isPerson) (n := 1) (as := [vi x2]) (st := []) dX8_sums_8 oc_X8_isPerson sm_X8_isPerson ml_X8_139 rfl ⟨(Nat.le_of_ble_eq_true rfl), (Nat.le_of_ble_eq_true rfl)⟩ (Nat.le_of_ble_eq_true rfl) (Nat.le_of_ble_eq_true rfl) (Or.inr rfl) hC (fun z M1 hQ => ?_)
  exact k z M1 hQ
theorem kX8_sums_11 {X : Scr} {M : Mem} {P : Option AV → Mem → Prop} {x1 x2 x3 xs0 : Int} (k1 : xs0 ≠ 0 → Runs X mX8_sums 16 [(0, vr 0), (1, vi x1), (2, vi x2), (3, vi x3)] [] M P) (k2 : xs0 = 0 → Runs X mX8_sums 14 [] [] M P) : Runs X mX8_sums 11 [(0, vr 0), (1, vi x1), (2, vi x2), (3, vi x3)] [vi xs0] M P := by
  refine Runs.if_ne (tgt := 16) dX8_sums_11 (by decide) (fun h => ?_) (fun h => ?_)
  · exact k1 h
  · refine Runs.picks (loc' := []) [] rfl ?_
    exact k2 h
theorem kX8_sums_14 {X : Scr} {M : Mem} {P : Option AV → Mem → Prop} (k : P (some (vi (-1 : Int))) M) : Runs X mX8_sums 14 [] [] M P := by
  refine Runs.iconst dX8_sums_14 (by decide) ?_
  exact Runs.reti dX8_sums_15 rfl k
theorem kX8_sums_16 {X : Scr} {M : Mem} {P : Option AV → Mem → Prop} {x1 x2 x3 : Int} (k1 : x1 = x2 → Runs X mX8_sums 33 [] [] M P) (k2 : x1 ≠ x2 → Runs X mX8_sums 21 [(0, vr 0), (1, vi x1), (2, vi x2), (3, vi x3)] [] M P) : Runs X mX8_sums 16 [(0, vr 0), (1, vi x1), (2, vi x2), (3, vi x3)] [] M P := by
  refine Runs.iload_n (j := 1) dX8_sums_16 rfl ?_
  refine Runs.iload_n (j := 2) dX8_sums_17 rfl ?_
  refine Runs.icmp_eq (tgt := 33) dX8_sums_18 (by decide) (fun h => ?_) (fun h => ?_)
  · refine Runs.picks (loc' := []) [] rfl ?_
    exact k1 h
  · exact k2 h
theorem kX8_sums_21 {X : Scr} {M : Mem} {P : Option AV → Mem → Prop} {x1 x2 x3 : Int} (k1 : x3 < (1 : Int) → Runs X mX8_sums 33 [] [] M P) (k2 : (1 : Int) ≤ x3 → Runs X mX8_sums 26 [(0, vr 0), (1, vi x1), (2, vi x2), (3, vi x3)] [] M P) : Runs X mX8_sums 21 [(0, vr 0), (1, vi x1), (2, vi x2), (3, vi x3)] [] M P := by
  refine Runs.iload_n (j := 3) dX8_sums_21 rfl ?_
  refine Runs.iconst dX8_sums_22 (by decide) ?_
  refine Runs.icmp_lt (tgt := 33) dX8_sums_23 (by decide) (fun h => ?_) (fun h => ?_)
  · refine Runs.picks (loc' := []) [] rfl ?_
    exact k1 h
  · exact k2 h
theorem kX8_sums_26 {X : Scr} {M : Mem} {P : Option AV → Mem → Prop} {x1 x2 x3 : Int} (k1 : x3 ≤ (999 : Int) → Runs X mX8_sums 36 [(0, vr 0), (1, vi x1), (2, vi x2), (3, vi x3)] [] M P) (k2 : (999 : Int) < x3 → Runs X mX8_sums 33 [] [] M P) : Runs X mX8_sums 26 [(0, vr 0), (1, vi x1), (2, vi x2), (3, vi x3)] [] M P := by
  refine Runs.iload_n (j := 3) dX8_sums_26 rfl ?_
  refine Runs.sipush dX8_sums_27 (by decide) (by decide) ?_
  refine Runs.icmp_le (tgt := 36) dX8_sums_30 (by decide) (fun h => ?_) (fun h => ?_)
  · exact k1 h
  · refine Runs.picks (loc' := []) [] rfl ?_
    exact k2 h
theorem kX8_sums_33 {X : Scr} {M : Mem} {P : Option AV → Mem → Prop} (k : P (some (vi (-2 : Int))) M) : Runs X mX8_sums 33 [] [] M P := by
  refine Runs.bipush dX8_sums_33 (by decide) (by decide) ?_
  exact Runs.reti dX8_sums_35 rfl k
theorem kX8_sums_36 {X : Scr} {M : Mem} {P Q : Option AV → Mem → Prop} {x1 x2 x3 : Int} (hC : Call X mX6_ownedBy [vr (oT 0), vi x2] M Q) (k : ∀ (z : Int) (M1 : Mem), Q (some (vi z)) M1 → Runs X mX8_sums 44 [(0, vr 0), (1, vi x1), (3, vi x3)] [vi z] M1 P) : Runs X mX8_sums 36 [(0, vr 0), (1, vi x1), (2, vi x2), (3, vi x3)] [] M P := by
  refine Runs.aload_n (j := 0) dX8_sums_36 rfl ?_
  refine Runs.getr (o' := (oT 0)) (ci := 8) (j := 1) (C := RX8) (T := TX8) (N := 12) dX8_sums_37 rfl cls_X8 (by decide) rfl fl_X8_19 rfl ⟨rfl, _, Or.inl rfl⟩ ?_
  refine Runs.iload_n (j := 2) dX8_sums_40 rfl ?_
  refine Runs.callVi (y := mX6_ownedBy) (n := 1) (as := [vi x2]) (st := []) (q := (RX6, TX6, 2)) dX8_sums_41 oc_X6_ownedBy im_X6_ownedBy se_X6_ownedBy ml_X8_142 rfl ⟨(Nat.le_of_ble_eq_true rfl), (Nat.le_of_ble_eq_true rfl)⟩ (Nat.le_of_ble_eq_true rfl) (Nat.le_of_ble_eq_true rfl) (kd_oT (by omega)) rfl rfl (Or.inl rfl) hC (fun z M1 hQ => ?_)
  refine Runs.picks (loc' := [(0, vr 0), (1, vi x1), (3, vi x3)]) [0, 1, 3] rfl ?_
  exact k z M1 hQ
theorem kX8_sums_44 {X : Scr} {M : Mem} {P Q : Option AV → Mem → Prop} {x1 x3 xs0 : Int} (hC : Call X mX6_ownedBy [vr (oT 0), vi x1] M Q) (k : ∀ (z : Int) (M1 : Mem), Q (some (vi z)) M1 → Runs X mX8_sums 54 [(0, vr 0), (3, vi x3), (4, vi xs0)] [vi z] M1 P) : Runs X mX8_sums 44 [(0, vr 0), (1, vi x1), (3, vi x3)] [vi xs0] M P := by
  refine Runs.istore (loc' := [(0, vr 0), (1, vi x1), (3, vi x3), (4, vi xs0)]) dX8_sums_44 (by decide) rfl ?_
  refine Runs.aload_n (j := 0) dX8_sums_46 rfl ?_
  refine Runs.getr (o' := (oT 0)) (ci := 8) (j := 1) (C := RX8) (T := TX8) (N := 12) dX8_sums_47 rfl cls_X8 (by decide) rfl fl_X8_19 rfl ⟨rfl, _, Or.inl rfl⟩ ?_
  refine Runs.iload_n (j := 1) dX8_sums_50 rfl ?_
  refine Runs.callVi (y := mX6_ownedBy) (n := 1) (as := [vi x1]) (st := []) (q := (RX6, TX6, 2)) dX8_sums_51 oc_X6_ownedBy im_X6_ownedBy se_X6_ownedBy ml_X8_142 rfl ⟨(Nat.le_of_ble_eq_true rfl), (Nat.le_of_ble_eq_true rfl)⟩ (Nat.le_of_ble_eq_true rfl) (Nat.le_of_ble_eq_true rfl) (kd_oT (by omega)) rfl rfl (Or.inl rfl) hC (fun z M1 hQ => ?_)
  refine Runs.picks (loc' := [(0, vr 0), (3, vi x3), (4, vi xs0)]) [0, 2, 3] rfl ?_
  exact k z M1 hQ
theorem kX8_sums_54 {X : Scr} {M : Mem} {P Q : Option AV → Mem → Prop} {x3 x4 xs0 : Int} (hC : Call X mX8_weighSets [vr 0, vi x4] M Q) (k : ∀ (M1 : Mem), Q none M1 → Runs X mX8_sums 67 [(0, vr 0), (3, vi x3), (5, vi (zxor (zor xs0 x4) (-1 : Int)))] [] M1 P) : Runs X mX8_sums 54 [(0, vr 0), (3, vi x3), (4, vi x4)] [vi xs0] M P := by
  refine Runs.iload (j := 2) dX8_sums_54 rfl ?_
  refine Runs.ior dX8_sums_56 ?_
  refine Runs.iconst dX8_sums_57 (by decide) ?_
  refine Runs.ixor dX8_sums_58 ?_
  refine Runs.istore (loc' := [(0, vr 0), (3, vi x3), (4, vi x4), (5, vi (zxor (zor xs0 x4) (-1 : Int)))]) dX8_sums_59 (by decide) rfl ?_
  refine Runs.aload_n (j := 0) dX8_sums_61 rfl ?_
  refine Runs.iload (j := 2) dX8_sums_62 rfl ?_
  refine Runs.callVv (y := mX8_weighSets) (n := 1) (as := [vi x4]) (st := []) (q := (RX8, TX8, 12)) dX8_sums_64 oc_X8_weighSets im_X8_weighSets se_X8_weighSets ml_X8_192 rfl ⟨(Nat.le_of_ble_eq_true rfl), (Nat.le_of_ble_eq_true rfl)⟩ (Nat.le_of_ble_eq_true rfl) (Nat.le_of_ble_eq_true rfl) rfl rfl rfl rfl hC (fun M1 hQ => ?_)
  refine Runs.picks (loc' := [(0, vr 0), (3, vi x3), (5, vi (zxor (zor xs0 x4) (-1 : Int)))]) [0, 1, 3] rfl ?_
  exact k M1 hQ
theorem kX8_sums_67 {X : Scr} {M : Mem} {P Q : Option AV → Mem → Prop} {x3 x5 : Int} (hC : Call X mJ7_fill_53178 [vr 36, vi (0 : Int)] M Q) (k : ∀ (M1 : Mem), Q none M1 → Runs X mX8_sums 75 [(0, vr 0), (3, vi x3), (5, vi x5)] [] M1 P) : Runs X mX8_sums 67 [(0, vr 0), (3, vi x3), (5, vi x5)] [] M P := by
  refine Runs.aload_n (j := 0) dX8_sums_67 rfl ?_
  refine Runs.getr (o' := 36) (ci := 8) (j := 11) (C := RX8) (T := TX8) (N := 12) dX8_sums_68 rfl cls_X8 (by decide) rfl fl_X8_75 rfl ⟨rfl, "", Or.inr ⟨_, rfl⟩⟩ ?_
  refine Runs.iconst dX8_sums_71 (by decide) ?_
  refine Runs.callSv (y := mJ7_fill_53178) (n := 2) (as := [vr 36, vi (0 : Int)]) (st := []) dX8_sums_72 oc_J7_fill_53178 sm_J7_fill_53178 ml_X8_195 rfl ⟨(Nat.le_of_ble_eq_true rfl), (Nat.le_of_ble_eq_true rfl)⟩ (Nat.le_of_ble_eq_true rfl) (Nat.le_of_ble_eq_true rfl) rfl hC (fun M1 hQ => ?_)
  exact k M1 hQ
theorem kX8_sums_75 {X : Scr} {M : Mem} {P : Option AV → Mem → Prop} {x3 x5 : Int} (k : Runs X mX8_sums 81 [(0, vr 0), (3, vi x3), (5, vi x5), (6, vi (0 : Int)), (7, vi (0 : Int))] [] M P) : Runs X mX8_sums 75 [(0, vr 0), (3, vi x3), (5, vi x5)] [] M P := by
  refine Runs.iconst dX8_sums_75 (by decide) ?_
  refine Runs.istore (loc' := [(0, vr 0), (3, vi x3), (5, vi x5), (6, vi (0 : Int))]) dX8_sums_76 (by decide) rfl ?_
  refine Runs.iconst dX8_sums_78 (by decide) ?_
  refine Runs.istore (loc' := [(0, vr 0), (3, vi x3), (5, vi x5), (6, vi (0 : Int)), (7, vi (0 : Int))]) dX8_sums_79 (by decide) rfl ?_
  exact k
theorem kX8_sums_81 {X : Scr} {M : Mem} {P Q : Option AV → Mem → Prop} {x3 x5 x6 x7 : Int} (hC : Call X mX8_setsOfTeeth [vr 0] M Q) (k : ∀ (z : Int) (M1 : Mem), Q (some (vi z)) M1 → Runs X mX8_sums 87 [(0, vr 0), (3, vi x3), (5, vi x5), (6, vi x6), (7, vi x7)] [vi z, vi x7] M1 P) : Runs X mX8_sums 81 [(0, vr 0), (3, vi x3), (5, vi x5), (6, vi x6), (7, vi x7)] [] M P := by
  refine Runs.iload (j := 4) dX8_sums_81 rfl ?_
  refine Runs.aload_n (j := 0) dX8_sums_83 rfl ?_
  refine Runs.callVi (y := mX8_setsOfTeeth) (n := 0) (as := []) (st := [vi x7]) (q := (RX8, TX8, 12)) dX8_sums_84 oc_X8_setsOfTeeth im_X8_setsOfTeeth se_X8_setsOfTeeth ml_X8_201 rfl ⟨(Nat.le_of_ble_eq_true rfl), (Nat.le_of_ble_eq_true rfl)⟩ (Nat.le_of_ble_eq_true rfl) (Nat.le_of_ble_eq_true rfl) rfl rfl rfl (Or.inl rfl) hC (fun z M1 hQ => ?_)
  exact k z M1 hQ
theorem kX8_sums_87 {X : Scr} {M : Mem} {P : Option AV → Mem → Prop} {x3 x5 x6 x7 xs0 xs1 : Int} (k1 : xs1 ≤ xs0 → Runs X mX8_sums 157 [(6, vi x6)] [] M P) (k2 : xs0 < xs1 → Runs X mX8_sums 90 [(0, vr 0), (3, vi x3), (5, vi x5), (6, vi x6), (7, vi x7)] [] M P) : Runs X mX8_sums 87 [(0, vr 0), (3, vi x3), (5, vi x5), (6, vi x6), (7, vi x7)] [vi xs1, vi xs0] M P := by
  refine Runs.icmp_ge (tgt := 157) dX8_sums_87 (by decide) (fun h => ?_) (fun h => ?_)
  · refine Runs.picks (loc' := [(6, vi x6)]) [3] rfl ?_
    exact k1 h
  · exact k2 h
theorem kX8_sums_90 {X : Scr} {M : Mem} {P : Option AV → Mem → Prop} {x3 x5 x6 x7 : Int} (k1 : (zand x7 x5) ≠ 0 → Runs X mX8_sums 151 [(0, vr 0), (3, vi x3), (5, vi x5), (6, vi x6), (7, vi x7)] [] M P) (k2 : (zand x7 x5) = 0 → Runs X mX8_sums 107 [(0, vr 0), (3, vi x3), (5, vi x5), (6, vi x6), (7, vi x7), (8, vi (M 35 (x7).toNat))] [] M P) (h1 : 0 ≤ x7 := by omega) (h2 : x7 < ((1024 : Nat) : Int) := by omega) : Runs X mX8_sums 90 [(0, vr 0), (3, vi x3), (5, vi x5), (6, vi x6), (7, vi x7)] [] M P := by
  refine Runs.aload_n (j := 0) dX8_sums_90 rfl ?_
  refine Runs.getr (o' := 35) (ci := 8) (j := 10) (C := RX8) (T := TX8) (N := 12) dX8_sums_91 rfl cls_X8 (by decide) rfl fl_X8_71 rfl ⟨rfl, "", Or.inr ⟨_, rfl⟩⟩ ?_
  refine Runs.iload (j := 4) dX8_sums_94 rfl ?_
  refine Runs.iald dX8_sums_96 rfl h1 h2 ?_
  refine Runs.istore (loc' := [(0, vr 0), (3, vi x3), (5, vi x5), (6, vi x6), (7, vi x7), (8, vi (M 35 (x7).toNat))]) dX8_sums_97 (by decide) rfl ?_
  refine Runs.iload (j := 4) dX8_sums_99 rfl ?_
  refine Runs.iload (j := 2) dX8_sums_101 rfl ?_
  refine Runs.iand dX8_sums_103 ?_
  refine Runs.if_ne (tgt := 151) dX8_sums_104 (by decide) (fun h => ?_) (fun h => ?_)
  · refine Runs.picks (loc' := [(0, vr 0), (3, vi x3), (5, vi x5), (6, vi x6), (7, vi x7)]) [0, 1, 2, 3, 4] rfl ?_
    exact k1 h
  · exact k2 h
theorem kX8_sums_107 {X : Scr} {M : Mem} {P : Option AV → Mem → Prop} {x3 x5 x6 x7 x8 : Int} (k1 : x8 < (1 : Int) → Runs X mX8_sums 151 [(0, vr 0), (3, vi x3), (5, vi x5), (6, vi x6), (7, vi x7)] [] M P) (k2 : (1 : Int) ≤ x8 → Runs X mX8_sums 113 [(0, vr 0), (3, vi x3), (5, vi x5), (6, vi x6), (7, vi x7), (8, vi x8)] [] M P) : Runs X mX8_sums 107 [(0, vr 0), (3, vi x3), (5, vi x5), (6, vi x6), (7, vi x7), (8, vi x8)] [] M P := by
  refine Runs.iload (j := 5) dX8_sums_107 rfl ?_
  refine Runs.iconst dX8_sums_109 (by decide) ?_
  refine Runs.icmp_lt (tgt := 151) dX8_sums_110 (by decide) (fun h => ?_) (fun h => ?_)
  · refine Runs.picks (loc' := [(0, vr 0), (3, vi x3), (5, vi x5), (6, vi x6), (7, vi x7)]) [0, 1, 2, 3, 4] rfl ?_
    exact k1 h
  · exact k2 h
theorem kX8_sums_113 {X : Scr} {M : Mem} {P : Option AV → Mem → Prop} {x3 x5 x6 x7 x8 : Int} (k1 : x3 < x8 → Runs X mX8_sums 151 [(0, vr 0), (3, vi x3), (5, vi x5), (6, vi x6), (7, vi x7)] [] M P) (k2 : x8 ≤ x3 → Runs X mX8_sums 119 [(0, vr 0), (3, vi x3), (5, vi x5), (6, vi x6), (7, vi x7), (8, vi x8)] [] M P) : Runs X mX8_sums 113 [(0, vr 0), (3, vi x3), (5, vi x5), (6, vi x6), (7, vi x7), (8, vi x8)] [] M P := by
  refine Runs.iload (j := 5) dX8_sums_113 rfl ?_
  refine Runs.iload_n (j := 1) dX8_sums_115 rfl ?_
  refine Runs.icmp_gt (tgt := 151) dX8_sums_116 (by decide) (fun h => ?_) (fun h => ?_)
  · refine Runs.picks (loc' := [(0, vr 0), (3, vi x3), (5, vi x5), (6, vi x6), (7, vi x7)]) [0, 1, 2, 3, 4] rfl ?_
    exact k1 h
  · exact k2 h
theorem kX8_sums_119 {X : Scr} {M : Mem} {P : Option AV → Mem → Prop} {x3 x5 x6 x7 x8 : Int} (k1 : ((1000 : Nat) : Int) ≤ x8 → Runs X mX8_sums 151 [(0, vr 0), (3, vi x3), (5, vi x5), (6, vi x6), (7, vi x7)] [] M P) (k2 : x8 < ((1000 : Nat) : Int) → Runs X mX8_sums 129 [(0, vr 0), (3, vi x3), (5, vi x5), (6, vi x6), (7, vi x7), (8, vi x8)] [] M P) : Runs X mX8_sums 119 [(0, vr 0), (3, vi x3), (5, vi x5), (6, vi x6), (7, vi x7), (8, vi x8)] [] M P := by
  refine Runs.iload (j := 5) dX8_sums_119 rfl ?_
  refine Runs.aload_n (j := 0) dX8_sums_121 rfl ?_
  refine Runs.getr (o' := 36) (ci := 8) (j := 11) (C := RX8) (T := TX8) (N := 12) dX8_sums_122 rfl cls_X8 (by decide) rfl fl_X8_75 rfl ⟨rfl, "", Or.inr ⟨_, rfl⟩⟩ ?_
  refine Runs.alen dX8_sums_125 rfl (by decide) ?_
  refine Runs.icmp_ge (tgt := 151) dX8_sums_126 (by decide) (fun h => ?_) (fun h => ?_)
  · refine Runs.picks (loc' := [(0, vr 0), (3, vi x3), (5, vi x5), (6, vi x6), (7, vi x7)]) [0, 1, 2, 3, 4] rfl ?_
    exact k1 h
  · exact k2 h
theorem kX8_sums_129 {X : Scr} {M : Mem} {P : Option AV → Mem → Prop} {x3 x5 x6 x7 x8 : Int} (k : Runs X mX8_sums 151 [(0, vr 0), (3, vi x3), (5, vi x5), (6, vi (x6 + ((1 : Int) - (M 36 (x8).toNat)))), (7, vi x7)] [] (up2 M 36 (x8).toNat (1 : Int)) P) (h1 : 0 ≤ x8 := by omega) (h2 : x8 < ((1000 : Nat) : Int) := by omega) (h3 : -2147483648 ≤ ((1 : Int) - (M 36 (x8).toNat)) ∧ ((1 : Int) - (M 36 (x8).toNat)) ≤ 2147483647 := by omega) (h4 : -2147483648 ≤ (x6 + ((1 : Int) - (M 36 (x8).toNat))) ∧ (x6 + ((1 : Int) - (M 36 (x8).toNat))) ≤ 2147483647 := by omega) : Runs X mX8_sums 129 [(0, vr 0), (3, vi x3), (5, vi x5), (6, vi x6), (7, vi x7), (8, vi x8)] [] M P := by
  refine Runs.iload (j := 3) dX8_sums_129 rfl ?_
  refine Runs.iconst dX8_sums_131 (by decide) ?_
  refine Runs.aload_n (j := 0) dX8_sums_132 rfl ?_
  refine Runs.getr (o' := 36) (ci := 8) (j := 11) (C := RX8) (T := TX8) (N := 12) dX8_sums_133 rfl cls_X8 (by decide) rfl fl_X8_75 rfl ⟨rfl, "", Or.inr ⟨_, rfl⟩⟩ ?_
  refine Runs.iload (j := 5) dX8_sums_136 rfl ?_
  refine Runs.iald dX8_sums_138 rfl h1 h2 ?_
  refine Runs.isub dX8_sums_139 h3 ?_
  refine Runs.iadd dX8_sums_140 h4 ?_
  refine Runs.istore (loc' := [(0, vr 0), (3, vi x3), (5, vi x5), (6, vi (x6 + ((1 : Int) - (M 36 (x8).toNat)))), (7, vi x7), (8, vi x8)]) dX8_sums_141 (by decide) rfl ?_
  refine Runs.aload_n (j := 0) dX8_sums_143 rfl ?_
  refine Runs.getr (o' := 36) (ci := 8) (j := 11) (C := RX8) (T := TX8) (N := 12) dX8_sums_144 rfl cls_X8 (by decide) rfl fl_X8_75 rfl ⟨rfl, "", Or.inr ⟨_, rfl⟩⟩ ?_
  refine Runs.iload (j := 5) dX8_sums_147 rfl ?_
  refine Runs.iconst dX8_sums_149 (by decide) ?_
  refine Runs.iast dX8_sums_150 rfl h1 h2 ?_
  refine Runs.picks (loc' := [(0, vr 0), (3, vi x3), (5, vi x5), (6, vi (x6 + ((1 : Int) - (M 36 (x8).toNat)))), (7, vi x7)]) [0, 1, 2, 3, 4] rfl ?_
  exact k
theorem kX8_sums_151 {X : Scr} {M : Mem} {P : Option AV → Mem → Prop} {x3 x5 x6 x7 : Int} (k : Runs X mX8_sums 81 [(0, vr 0), (3, vi x3), (5, vi x5), (6, vi x6), (7, vi (x7 + (1 : Int)))] [] M P) (h1 : -2147483648 ≤ (x7 + (1 : Int)) ∧ (x7 + (1 : Int)) ≤ 2147483647 := by omega) : Runs X mX8_sums 151 [(0, vr 0), (3, vi x3), (5, vi x5), (6, vi x6), (7, vi x7)] [] M P := by
  refine Runs.iinc (k := 4) (loc' := [(0, vr 0), (3, vi x3), (5, vi x5), (6, vi x6), (7, vi (x7 + (1 : Int)))]) dX8_sums_151 rfl h1 (by decide) rfl ?_
  refine Runs.goto (tgt := 81) dX8_sums_154 (by decide) ?_
  exact k
theorem kX8_sums_157 {X : Scr} {M : Mem} {P : Option AV → Mem → Prop} {x6 : Int} (k : P (some (vi x6)) M) : Runs X mX8_sums 157 [(6, vi x6)] [] M P := by
  refine Runs.iload (j := 0) dX8_sums_157 rfl ?_
  exact Runs.reti dX8_sums_159 rfl k
theorem kX8_spent_0 {X : Scr} {M : Mem} {P Q : Option AV → Mem → Prop} {x1 x2 : Int} (hC : Call X mX8_isPerson [vi x1] M Q) (k : ∀ (z : Int) (M1 : Mem), Q (some (vi z)) M1 → Runs X mX8_spent 4 [(0, vr 0), (1, vi x1), (2, vi x2)] [vi z] M1 P) : Runs X mX8_spent 0 [(0, vr 0), (1, vi x1), (2, vi x2)] [] M P := by
  refine Runs.iload_n (j := 1) dX8_spent_0 rfl ?_
  refine Runs.callSi (y := mX8_isPerson) (n := 1) (as := [vi x1]) (st := []) dX8_spent_1 oc_X8_isPerson sm_X8_isPerson ml_X8_139 rfl ⟨(Nat.le_of_ble_eq_true rfl), (Nat.le_of_ble_eq_true rfl)⟩ (Nat.le_of_ble_eq_true rfl) (Nat.le_of_ble_eq_true rfl) (Or.inr rfl) hC (fun z M1 hQ => ?_)
  exact k z M1 hQ
theorem kX8_spent_4 {X : Scr} {M : Mem} {P : Option AV → Mem → Prop} {x1 x2 xs0 : Int} (k1 : xs0 ≠ 0 → Runs X mX8_spent 9 [(0, vr 0), (1, vi x1), (2, vi x2)] [] M P) (k2 : xs0 = 0 → Runs X mX8_spent 7 [] [] M P) : Runs X mX8_spent 4 [(0, vr 0), (1, vi x1), (2, vi x2)] [vi xs0] M P := by
  refine Runs.if_ne (tgt := 9) dX8_spent_4 (by decide) (fun h => ?_) (fun h => ?_)
  · exact k1 h
  · refine Runs.picks (loc' := []) [] rfl ?_
    exact k2 h
theorem kX8_spent_7 {X : Scr} {M : Mem} {P : Option AV → Mem → Prop} (k : P (some (vi (-1 : Int))) M) : Runs X mX8_spent 7 [] [] M P := by
  refine Runs.iconst dX8_spent_7 (by decide) ?_
  exact Runs.reti dX8_spent_8 rfl k
theorem kX8_spent_9 {X : Scr} {M : Mem} {P Q : Option AV → Mem → Prop} {x1 x2 : Int} (hC : Call X mX6_ownedBy [vr (oT 0), vi x1] M Q) (k : ∀ (z : Int) (M1 : Mem), Q (some (vi z)) M1 → Runs X mX8_spent 18 [(0, vr 0), (2, vi x2)] [vi z, vr 0] M1 P) : Runs X mX8_spent 9 [(0, vr 0), (1, vi x1), (2, vi x2)] [] M P := by
  refine Runs.aload_n (j := 0) dX8_spent_9 rfl ?_
  refine Runs.aload_n (j := 0) dX8_spent_10 rfl ?_
  refine Runs.getr (o' := (oT 0)) (ci := 8) (j := 1) (C := RX8) (T := TX8) (N := 12) dX8_spent_11 rfl cls_X8 (by decide) rfl fl_X8_19 rfl ⟨rfl, _, Or.inl rfl⟩ ?_
  refine Runs.iload_n (j := 1) dX8_spent_14 rfl ?_
  refine Runs.callVi (y := mX6_ownedBy) (n := 1) (as := [vi x1]) (st := [vr 0]) (q := (RX6, TX6, 2)) dX8_spent_15 oc_X6_ownedBy im_X6_ownedBy se_X6_ownedBy ml_X8_142 rfl ⟨(Nat.le_of_ble_eq_true rfl), (Nat.le_of_ble_eq_true rfl)⟩ (Nat.le_of_ble_eq_true rfl) (Nat.le_of_ble_eq_true rfl) (kd_oT (by omega)) rfl rfl (Or.inl rfl) hC (fun z M1 hQ => ?_)
  refine Runs.picks (loc' := [(0, vr 0), (2, vi x2)]) [0, 2] rfl ?_
  exact k z M1 hQ
theorem kX8_spent_18 {X : Scr} {M : Mem} {P Q : Option AV → Mem → Prop} {x2 xs1 : Int} (hC : Call X mX8_worthOfSet [vr 0, vi xs1] M Q) (k : ∀ (z : Int) (M1 : Mem), Q (some (vi z)) M1 → Runs X mX8_spent 21 [(0, vr 0), (2, vi x2)] [vi z] M1 P) : Runs X mX8_spent 18 [(0, vr 0), (2, vi x2)] [vi xs1, vr 0] M P := by
  refine Runs.callVi (y := mX8_worthOfSet) (n := 1) (as := [vi xs1]) (st := []) (q := (RX8, TX8, 12)) dX8_spent_18 oc_X8_worthOfSet im_X8_worthOfSet se_X8_worthOfSet ml_X8_145 rfl ⟨(Nat.le_of_ble_eq_true rfl), (Nat.le_of_ble_eq_true rfl)⟩ (Nat.le_of_ble_eq_true rfl) (Nat.le_of_ble_eq_true rfl) rfl rfl rfl (Or.inl rfl) hC (fun z M1 hQ => ?_)
  exact k z M1 hQ
theorem kX8_spent_21 {X : Scr} {M : Mem} {P Q : Option AV → Mem → Prop} {x2 xs0 : Int} (hC : Call X mX2_clear [vr 33] M Q) (k : ∀ (M1 : Mem), Q none M1 → Runs X mX8_spent 29 [(0, vr 0), (2, vi x2), (3, vi xs0)] [] M1 P) : Runs X mX8_spent 21 [(0, vr 0), (2, vi x2)] [vi xs0] M P := by
  refine Runs.istore_n (loc' := [(0, vr 0), (2, vi x2), (3, vi xs0)]) dX8_spent_21 rfl (by decide) rfl ?_
  refine Runs.aload_n (j := 0) dX8_spent_22 rfl ?_
  refine Runs.getr (o' := 33) (ci := 8) (j := 8) (C := RX8) (T := TX8) (N := 12) dX8_spent_23 rfl cls_X8 (by decide) rfl fl_X8_60 rfl ⟨rfl, _, Or.inl rfl⟩ ?_
  refine Runs.callVv (y := mX2_clear) (n := 0) (as := []) (st := []) (q := (RX2, TX2, 4)) dX8_spent_26 oc_X2_clear im_X2_clear se_X2_clear ml_X8_204 rfl ⟨(Nat.le_of_ble_eq_true rfl), (Nat.le_of_ble_eq_true rfl)⟩ (Nat.le_of_ble_eq_true rfl) (Nat.le_of_ble_eq_true rfl) rfl rfl rfl rfl hC (fun M1 hQ => ?_)
  exact k M1 hQ
theorem kX8_spent_29 {X : Scr} {M : Mem} {P : Option AV → Mem → Prop} {x2 x3 : Int} (k : Runs X mX8_spent 32 [(0, vr 0), (2, vi x2), (3, vi x3), (4, vi (0 : Int))] [] M P) : Runs X mX8_spent 29 [(0, vr 0), (2, vi x2), (3, vi x3)] [] M P := by
  refine Runs.iconst dX8_spent_29 (by decide) ?_
  refine Runs.istore (loc' := [(0, vr 0), (2, vi x2), (3, vi x3), (4, vi (0 : Int))]) dX8_spent_30 (by decide) rfl ?_
  exact k
theorem kX8_spent_32 {X : Scr} {M : Mem} {P : Option AV → Mem → Prop} {x2 x3 x4 : Int} (k1 : (zshl (1 : Int) (M 3 2)) ≤ x4 → Runs X mX8_spent 90 [(0, vr 0), (2, vi x2)] [] M P) (k2 : x4 < (zshl (1 : Int) (M 3 2)) → Runs X mX8_spent 46 [(0, vr 0), (2, vi x2), (3, vi x3), (4, vi x4)] [] M P) : Runs X mX8_spent 32 [(0, vr 0), (2, vi x2), (3, vi x3), (4, vi x4)] [] M P := by
  refine Runs.iload (j := 3) dX8_spent_32 rfl ?_
  refine Runs.iconst dX8_spent_34 (by decide) ?_
  refine Runs.aload_n (j := 0) dX8_spent_35 rfl ?_
  refine Runs.getr (o' := 3) (ci := 8) (j := 2) (C := RX8) (T := TX8) (N := 12) dX8_spent_36 rfl cls_X8 (by decide) rfl fl_X8_26 rfl ⟨rfl, _, Or.inl rfl⟩ ?_
  refine Runs.geti (ci := 1) (j := 2) (C := RX1) (T := TX1) (N := 3) dX8_spent_39 rfl cls_X1 (by decide) rfl fl_X8_97 (Or.inl rfl) ?_
  refine Runs.ishl dX8_spent_42 ?_
  refine Runs.icmp_ge (tgt := 90) dX8_spent_43 (by decide) (fun h => ?_) (fun h => ?_)
  · refine Runs.picks (loc' := [(0, vr 0), (2, vi x2)]) [0, 1] rfl ?_
    exact k1 h
  · exact k2 h
theorem kX8_spent_46 {X : Scr} {M : Mem} {P Q : Option AV → Mem → Prop} {x2 x3 x4 : Int} (hC : Call X mX1_priceOfSet [vr 3, vi x4] M Q) (k : ∀ (z : Int) (M1 : Mem), Q (some (vi z)) M1 → Runs X mX8_spent 55 [(0, vr 0), (2, vi x2), (3, vi x3), (4, vi x4)] [vi z] M1 P) : Runs X mX8_spent 46 [(0, vr 0), (2, vi x2), (3, vi x3), (4, vi x4)] [] M P := by
  refine Runs.aload_n (j := 0) dX8_spent_46 rfl ?_
  refine Runs.getr (o' := 3) (ci := 8) (j := 2) (C := RX8) (T := TX8) (N := 12) dX8_spent_47 rfl cls_X8 (by decide) rfl fl_X8_26 rfl ⟨rfl, _, Or.inl rfl⟩ ?_
  refine Runs.iload (j := 3) dX8_spent_50 rfl ?_
  refine Runs.callVi (y := mX1_priceOfSet) (n := 1) (as := [vi x4]) (st := []) (q := (RX1, TX1, 3)) dX8_spent_52 oc_X1_priceOfSet im_X1_priceOfSet se_X1_priceOfSet ml_X8_207 rfl ⟨(Nat.le_of_ble_eq_true rfl), (Nat.le_of_ble_eq_true rfl)⟩ (Nat.le_of_ble_eq_true rfl) (Nat.le_of_ble_eq_true rfl) rfl rfl rfl (Or.inl rfl) hC (fun z M1 hQ => ?_)
  exact k z M1 hQ
theorem kX8_spent_55 {X : Scr} {M : Mem} {P : Option AV → Mem → Prop} {x2 x3 x4 xs0 : Int} (k1 : x3 < xs0 → Runs X mX8_spent 84 [(0, vr 0), (2, vi x2), (3, vi x3), (4, vi x4)] [] M P) (k2 : xs0 ≤ x3 → Runs X mX8_spent 63 [(0, vr 0), (2, vi x2), (3, vi x3), (4, vi x4), (5, vi xs0)] [] M P) : Runs X mX8_spent 55 [(0, vr 0), (2, vi x2), (3, vi x3), (4, vi x4)] [vi xs0] M P := by
  refine Runs.istore (loc' := [(0, vr 0), (2, vi x2), (3, vi x3), (4, vi x4), (5, vi xs0)]) dX8_spent_55 (by decide) rfl ?_
  refine Runs.iload (j := 4) dX8_spent_57 rfl ?_
  refine Runs.iload_n (j := 2) dX8_spent_59 rfl ?_
  refine Runs.icmp_gt (tgt := 84) dX8_spent_60 (by decide) (fun h => ?_) (fun h => ?_)
  · refine Runs.picks (loc' := [(0, vr 0), (2, vi x2), (3, vi x3), (4, vi x4)]) [0, 1, 2, 3] rfl ?_
    exact k1 h
  · exact k2 h
theorem kX8_spent_63 {X : Scr} {M : Mem} {P Q : Option AV → Mem → Prop} {x2 x3 x4 x5 : Int} (hC : Call X mX1_useOfSet [vr 3, vi x4] M Q) (k : ∀ (z : Int) (M1 : Mem), Q (some (vi z)) M1 → Runs X mX8_spent 76 [(0, vr 0), (2, vi x2), (3, vi x3), (4, vi x4), (5, vi x5)] [vi z, vr 33] M1 P) : Runs X mX8_spent 63 [(0, vr 0), (2, vi x2), (3, vi x3), (4, vi x4), (5, vi x5)] [] M P := by
  refine Runs.aload_n (j := 0) dX8_spent_63 rfl ?_
  refine Runs.getr (o' := 33) (ci := 8) (j := 8) (C := RX8) (T := TX8) (N := 12) dX8_spent_64 rfl cls_X8 (by decide) rfl fl_X8_60 rfl ⟨rfl, _, Or.inl rfl⟩ ?_
  refine Runs.aload_n (j := 0) dX8_spent_67 rfl ?_
  refine Runs.getr (o' := 3) (ci := 8) (j := 2) (C := RX8) (T := TX8) (N := 12) dX8_spent_68 rfl cls_X8 (by decide) rfl fl_X8_26 rfl ⟨rfl, _, Or.inl rfl⟩ ?_
  refine Runs.iload (j := 3) dX8_spent_71 rfl ?_
  refine Runs.callVi (y := mX1_useOfSet) (n := 1) (as := [vi x4]) (st := [vr 33]) (q := (RX1, TX1, 3)) dX8_spent_73 oc_X1_useOfSet im_X1_useOfSet se_X1_useOfSet ml_X8_210 rfl ⟨(Nat.le_of_ble_eq_true rfl), (Nat.le_of_ble_eq_true rfl)⟩ (Nat.le_of_ble_eq_true rfl) (Nat.le_of_ble_eq_true rfl) rfl rfl rfl (Or.inl rfl) hC (fun z M1 hQ => ?_)
  exact k z M1 hQ
theorem kX8_spent_76 {X : Scr} {M : Mem} {P Q : Option AV → Mem → Prop} {x2 x3 x4 x5 xs1 : Int} (hC : Call X mX2_offer [vr 33, vi (-xs1), vi x5, vi x4] M Q) (k : ∀ (M1 : Mem), Q none M1 → Runs X mX8_spent 84 [(0, vr 0), (2, vi x2), (3, vi x3), (4, vi x4)] [] M1 P) (h1 : -2147483648 ≤ (-xs1) ∧ (-xs1) ≤ 2147483647 := by omega) : Runs X mX8_spent 76 [(0, vr 0), (2, vi x2), (3, vi x3), (4, vi x4), (5, vi x5)] [vi xs1, vr 33] M P := by
  refine Runs.ineg dX8_spent_76 h1 ?_
  refine Runs.iload (j := 4) dX8_spent_77 rfl ?_
  refine Runs.iload (j := 3) dX8_spent_79 rfl ?_
  refine Runs.callVv (y := mX2_offer) (n := 3) (as := [vi (-xs1), vi x5, vi x4]) (st := []) (q := (RX2, TX2, 4)) dX8_spent_81 oc_X2_offer im_X2_offer se_X2_offer ml_X8_213 rfl ⟨(Nat.le_of_ble_eq_true rfl), (Nat.le_of_ble_eq_true rfl)⟩ (Nat.le_of_ble_eq_true rfl) (Nat.le_of_ble_eq_true rfl) rfl rfl rfl rfl hC (fun M1 hQ => ?_)
  refine Runs.picks (loc' := [(0, vr 0), (2, vi x2), (3, vi x3), (4, vi x4)]) [0, 1, 2, 3] rfl ?_
  exact k M1 hQ
theorem kX8_spent_84 {X : Scr} {M : Mem} {P : Option AV → Mem → Prop} {x2 x3 x4 : Int} (k : Runs X mX8_spent 32 [(0, vr 0), (2, vi x2), (3, vi x3), (4, vi (x4 + (1 : Int)))] [] M P) (h1 : -2147483648 ≤ (x4 + (1 : Int)) ∧ (x4 + (1 : Int)) ≤ 2147483647 := by omega) : Runs X mX8_spent 84 [(0, vr 0), (2, vi x2), (3, vi x3), (4, vi x4)] [] M P := by
  refine Runs.iinc (k := 3) (loc' := [(0, vr 0), (2, vi x2), (3, vi x3), (4, vi (x4 + (1 : Int)))]) dX8_spent_84 rfl h1 (by decide) rfl ?_
  refine Runs.goto (tgt := 32) dX8_spent_87 (by decide) ?_
  exact k
theorem kX8_spent_90 {X : Scr} {M : Mem} {P : Option AV → Mem → Prop} {x2 : Int} (k1 : x2 = 0 → Runs X mX8_spent 104 [(0, vr 0)] [] M P) (k2 : x2 ≠ 0 → Runs X mX8_spent 94 [(0, vr 0)] [] M P) : Runs X mX8_spent 90 [(0, vr 0), (2, vi x2)] [] M P := by
  refine Runs.iload_n (j := 1) dX8_spent_90 rfl ?_
  refine Runs.if_eq (tgt := 104) dX8_spent_91 (by decide) (fun h => ?_) (fun h => ?_)
  · refine Runs.picks (loc' := [(0, vr 0)]) [0] rfl ?_
    exact k1 h
  · refine Runs.picks (loc' := [(0, vr 0)]) [0] rfl ?_
    exact k2 h
theorem kX8_spent_94 {X : Scr} {M : Mem} {P : Option AV → Mem → Prop} (k : Runs X mX8_spent 112 [] [vi (M 33 3)] M P) : Runs X mX8_spent 94 [(0, vr 0)] [] M P := by
  refine Runs.aload_n (j := 0) dX8_spent_94 rfl ?_
  refine Runs.getr (o' := 33) (ci := 8) (j := 8) (C := RX8) (T := TX8) (N := 12) dX8_spent_95 rfl cls_X8 (by decide) rfl fl_X8_60 rfl ⟨rfl, _, Or.inl rfl⟩ ?_
  refine Runs.geti (ci := 2) (j := 3) (C := RX2) (T := TX2) (N := 4) dX8_spent_98 rfl cls_X2 (by decide) rfl fl_X8_169 (Or.inl rfl) ?_
  refine Runs.goto (tgt := 112) dX8_spent_101 (by decide) ?_
  refine Runs.picks (loc' := []) [] rfl ?_
  exact k
theorem kX8_spent_104 {X : Scr} {M : Mem} {P : Option AV → Mem → Prop} (k : Runs X mX8_spent 112 [] [vi (-(M 33 1))] M P) (h1 : -2147483648 ≤ (-(M 33 1)) ∧ (-(M 33 1)) ≤ 2147483647 := by omega) : Runs X mX8_spent 104 [(0, vr 0)] [] M P := by
  refine Runs.aload_n (j := 0) dX8_spent_104 rfl ?_
  refine Runs.getr (o' := 33) (ci := 8) (j := 8) (C := RX8) (T := TX8) (N := 12) dX8_spent_105 rfl cls_X8 (by decide) rfl fl_X8_60 rfl ⟨rfl, _, Or.inl rfl⟩ ?_
  refine Runs.geti (ci := 2) (j := 1) (C := RX2) (T := TX2) (N := 4) dX8_spent_108 rfl cls_X2 (by decide) rfl fl_X8_166 (Or.inl rfl) ?_
  refine Runs.ineg dX8_spent_111 h1 ?_
  refine Runs.picks (loc' := []) [] rfl ?_
  exact k
theorem kX8_spent_112 {X : Scr} {M : Mem} {P : Option AV → Mem → Prop} {xs0 : Int} (k : P (some (vi xs0)) M) : Runs X mX8_spent 112 [] [vi xs0] M P := by
  exact Runs.reti dX8_spent_112 rfl k
theorem kX8_caught_0 {X : Scr} {M : Mem} {P Q : Option AV → Mem → Prop} {x1 x2 : Int} (hC : Call X mX8_isPerson [vi x1] M Q) (k : ∀ (z : Int) (M1 : Mem), Q (some (vi z)) M1 → Runs X mX8_caught 4 [(0, vr 0), (1, vi x1), (2, vl x2)] [vi z] M1 P) : Runs X mX8_caught 0 [(0, vr 0), (1, vi x1), (2, vl x2)] [] M P := by
  refine Runs.iload_n (j := 1) dX8_caught_0 rfl ?_
  refine Runs.callSi (y := mX8_isPerson) (n := 1) (as := [vi x1]) (st := []) dX8_caught_1 oc_X8_isPerson sm_X8_isPerson ml_X8_139 rfl ⟨(Nat.le_of_ble_eq_true rfl), (Nat.le_of_ble_eq_true rfl)⟩ (Nat.le_of_ble_eq_true rfl) (Nat.le_of_ble_eq_true rfl) (Or.inr rfl) hC (fun z M1 hQ => ?_)
  exact k z M1 hQ
theorem kX8_caught_4 {X : Scr} {M : Mem} {P : Option AV → Mem → Prop} {x1 x2 xs0 : Int} (k1 : xs0 ≠ 0 → Runs X mX8_caught 9 [(0, vr 0), (1, vi x1), (2, vl x2)] [] M P) (k2 : xs0 = 0 → Runs X mX8_caught 7 [] [] M P) : Runs X mX8_caught 4 [(0, vr 0), (1, vi x1), (2, vl x2)] [vi xs0] M P := by
  refine Runs.if_ne (tgt := 9) dX8_caught_4 (by decide) (fun h => ?_) (fun h => ?_)
  · exact k1 h
  · refine Runs.picks (loc' := []) [] rfl ?_
    exact k2 h
theorem kX8_caught_7 {X : Scr} {M : Mem} {P : Option AV → Mem → Prop} (k : P (some (vi (-1 : Int))) M) : Runs X mX8_caught 7 [] [] M P := by
  refine Runs.iconst dX8_caught_7 (by decide) ?_
  exact Runs.reti dX8_caught_8 rfl k
theorem kX8_caught_9 {X : Scr} {M : Mem} {P : Option AV → Mem → Prop} {x1 x2 : Int} (k1 : (M (oT 0) 1) < (10 : Int) → Runs X mX8_caught 24 [(0, vr 0), (1, vi x1), (2, vl x2)] [] M P) (k2 : (10 : Int) ≤ (M (oT 0) 1) → Runs X mX8_caught 21 [] [] M P) : Runs X mX8_caught 9 [(0, vr 0), (1, vi x1), (2, vl x2)] [] M P := by
  refine Runs.aload_n (j := 0) dX8_caught_9 rfl ?_
  refine Runs.getr (o' := (oT 0)) (ci := 8) (j := 1) (C := RX8) (T := TX8) (N := 12) dX8_caught_10 rfl cls_X8 (by decide) rfl fl_X8_19 rfl ⟨rfl, _, Or.inl rfl⟩ ?_
  refine Runs.geti (ci := 6) (j := 1) (C := RX6) (T := TX6) (N := 2) dX8_caught_13 (kd_oT (by omega)) cls_X6 (by decide) rfl fl_X8_94 (Or.inl rfl) ?_
  refine Runs.bipush dX8_caught_16 (by decide) (by decide) ?_
  refine Runs.icmp_lt (tgt := 24) dX8_caught_18 (by decide) (fun h => ?_) (fun h => ?_)
  · exact k1 h
  · refine Runs.picks (loc' := []) [] rfl ?_
    exact k2 h
theorem kX8_caught_21 {X : Scr} {M : Mem} {P : Option AV → Mem → Prop} (k : P (some (vi (-4 : Int))) M) : Runs X mX8_caught 21 [] [] M P := by
  refine Runs.bipush dX8_caught_21 (by decide) (by decide) ?_
  exact Runs.reti dX8_caught_23 rfl k
theorem kX8_caught_24 {X : Scr} {M : Mem} {P Q : Option AV → Mem → Prop} {x1 x2 : Int} (hC : Call X mX8_drawFrom [vl x2] M Q) (k : ∀ (z : Int) (M1 : Mem), Q (some (vl z)) M1 → Runs X mX8_caught 30 [(0, vr 0)] [vl z, vi x1, vr 0] M1 P) : Runs X mX8_caught 24 [(0, vr 0), (1, vi x1), (2, vl x2)] [] M P := by
  refine Runs.aload_n (j := 0) dX8_caught_24 rfl ?_
  refine Runs.iload_n (j := 1) dX8_caught_25 rfl ?_
  refine Runs.lload_n (j := 2) dX8_caught_26 rfl ?_
  refine Runs.callSl (y := mX8_drawFrom) (n := 1) (as := [vl x2]) (st := [vi x1, vr 0]) dX8_caught_27 oc_X8_drawFrom sm_X8_drawFrom ml_X8_216 rfl ⟨(Nat.le_of_ble_eq_true rfl), (Nat.le_of_ble_eq_true rfl)⟩ (Nat.le_of_ble_eq_true rfl) (Nat.le_of_ble_eq_true rfl) rfl hC (fun z M1 hQ => ?_)
  refine Runs.picks (loc' := [(0, vr 0)]) [0] rfl ?_
  exact k z M1 hQ
theorem kX8_caught_30 {X : Scr} {M : Mem} {P Q : Option AV → Mem → Prop} {xs1 xs2 : Int} (hC : Call X mX8_addDrawn [vr 0, vi xs1, vl xs2] M Q) (k : ∀ (M1 : Mem), Q none M1 → Runs X mX8_caught 33 [(0, vr 0)] [] M1 P) : Runs X mX8_caught 30 [(0, vr 0)] [vl xs2, vi xs1, vr 0] M P := by
  refine Runs.callVv (y := mX8_addDrawn) (n := 2) (as := [vi xs1, vl xs2]) (st := []) (q := (RX8, TX8, 12)) dX8_caught_30 oc_X8_addDrawn im_X8_addDrawn se_X8_addDrawn ml_X8_220 rfl ⟨(Nat.le_of_ble_eq_true rfl), (Nat.le_of_ble_eq_true rfl)⟩ (Nat.le_of_ble_eq_true rfl) (Nat.le_of_ble_eq_true rfl) rfl rfl rfl rfl hC (fun M1 hQ => ?_)
  exact k M1 hQ
theorem kX8_caught_33 {X : Scr} {M : Mem} {P : Option AV → Mem → Prop} (k : P (some (vi ((M (oT 0) 1) - (1 : Int)))) M) (h1 : -2147483648 ≤ ((M (oT 0) 1) - (1 : Int)) ∧ ((M (oT 0) 1) - (1 : Int)) ≤ 2147483647 := by omega) : Runs X mX8_caught 33 [(0, vr 0)] [] M P := by
  refine Runs.aload_n (j := 0) dX8_caught_33 rfl ?_
  refine Runs.getr (o' := (oT 0)) (ci := 8) (j := 1) (C := RX8) (T := TX8) (N := 12) dX8_caught_34 rfl cls_X8 (by decide) rfl fl_X8_19 rfl ⟨rfl, _, Or.inl rfl⟩ ?_
  refine Runs.geti (ci := 6) (j := 1) (C := RX6) (T := TX6) (N := 2) dX8_caught_37 (kd_oT (by omega)) cls_X6 (by decide) rfl fl_X8_94 (Or.inl rfl) ?_
  refine Runs.iconst dX8_caught_40 (by decide) ?_
  refine Runs.isub dX8_caught_41 h1 ?_
  exact Runs.reti dX8_caught_42 rfl k
theorem kX8_washed_0 {X : Scr} {M : Mem} {P : Option AV → Mem → Prop} {x1 x2 : Int} (k1 : x1 < (1 : Int) → Runs X mX8_washed 11 [] [] M P) (k2 : (1 : Int) ≤ x1 → Runs X mX8_washed 5 [(0, vr 0), (1, vi x1), (2, vl x2)] [] M P) : Runs X mX8_washed 0 [(0, vr 0), (1, vi x1), (2, vl x2)] [] M P := by
  refine Runs.iload_n (j := 1) dX8_washed_0 rfl ?_
  refine Runs.iconst dX8_washed_1 (by decide) ?_
  refine Runs.icmp_lt (tgt := 11) dX8_washed_2 (by decide) (fun h => ?_) (fun h => ?_)
  · refine Runs.picks (loc' := []) [] rfl ?_
    exact k1 h
  · exact k2 h
theorem kX8_washed_5 {X : Scr} {M : Mem} {P : Option AV → Mem → Prop} {x1 x2 : Int} (k1 : x1 ≤ (10 : Int) → Runs X mX8_washed 14 [(0, vr 0), (1, vi x1), (2, vl x2)] [] M P) (k2 : (10 : Int) < x1 → Runs X mX8_washed 11 [] [] M P) : Runs X mX8_washed 5 [(0, vr 0), (1, vi x1), (2, vl x2)] [] M P := by
  refine Runs.iload_n (j := 1) dX8_washed_5 rfl ?_
  refine Runs.bipush dX8_washed_6 (by decide) (by decide) ?_
  refine Runs.icmp_le (tgt := 14) dX8_washed_8 (by decide) (fun h => ?_) (fun h => ?_)
  · exact k1 h
  · refine Runs.picks (loc' := []) [] rfl ?_
    exact k2 h
theorem kX8_washed_11 {X : Scr} {M : Mem} {P : Option AV → Mem → Prop} (k : P (some (vi (-2 : Int))) M) : Runs X mX8_washed 11 [] [] M P := by
  refine Runs.bipush dX8_washed_11 (by decide) (by decide) ?_
  exact Runs.reti dX8_washed_13 rfl k
theorem kX8_washed_14 {X : Scr} {M : Mem} {P : Option AV → Mem → Prop} {x1 x2 : Int} (k1 : ((M (oT 0) 1) + x1) ≤ (10 : Int) → Runs X mX8_washed 31 [(0, vr 0), (1, vi x1), (2, vl x2)] [] M P) (k2 : (10 : Int) < ((M (oT 0) 1) + x1) → Runs X mX8_washed 28 [] [] M P) (h1 : -2147483648 ≤ ((M (oT 0) 1) + x1) ∧ ((M (oT 0) 1) + x1) ≤ 2147483647 := by omega) : Runs X mX8_washed 14 [(0, vr 0), (1, vi x1), (2, vl x2)] [] M P := by
  refine Runs.aload_n (j := 0) dX8_washed_14 rfl ?_
  refine Runs.getr (o' := (oT 0)) (ci := 8) (j := 1) (C := RX8) (T := TX8) (N := 12) dX8_washed_15 rfl cls_X8 (by decide) rfl fl_X8_19 rfl ⟨rfl, _, Or.inl rfl⟩ ?_
  refine Runs.geti (ci := 6) (j := 1) (C := RX6) (T := TX6) (N := 2) dX8_washed_18 (kd_oT (by omega)) cls_X6 (by decide) rfl fl_X8_94 (Or.inl rfl) ?_
  refine Runs.iload_n (j := 1) dX8_washed_21 rfl ?_
  refine Runs.iadd dX8_washed_22 h1 ?_
  refine Runs.bipush dX8_washed_23 (by decide) (by decide) ?_
  refine Runs.icmp_le (tgt := 31) dX8_washed_25 (by decide) (fun h => ?_) (fun h => ?_)
  · exact k1 h
  · refine Runs.picks (loc' := []) [] rfl ?_
    exact k2 h
theorem kX8_washed_28 {X : Scr} {M : Mem} {P : Option AV → Mem → Prop} (k : P (some (vi (-4 : Int))) M) : Runs X mX8_washed 28 [] [] M P := by
  refine Runs.bipush dX8_washed_28 (by decide) (by decide) ?_
  exact Runs.reti dX8_washed_30 rfl k
theorem kX8_washed_31 {X : Scr} {M : Mem} {P : Option AV → Mem → Prop} {x1 x2 : Int} (k : Runs X mX8_washed 37 [(0, vr 0), (1, vi x1), (4, vl x2), (6, vi (0 : Int))] [] M P) : Runs X mX8_washed 31 [(0, vr 0), (1, vi x1), (2, vl x2)] [] M P := by
  refine Runs.lload_n (j := 2) dX8_washed_31 rfl ?_
  refine Runs.lstore (loc' := [(0, vr 0), (1, vi x1), (2, vl x2), (4, vl x2)]) dX8_washed_32 (by decide) rfl ?_
  refine Runs.iconst dX8_washed_34 (by decide) ?_
  refine Runs.istore (loc' := [(0, vr 0), (1, vi x1), (2, vl x2), (4, vl x2), (6, vi (0 : Int))]) dX8_washed_35 (by decide) rfl ?_
  refine Runs.picks (loc' := [(0, vr 0), (1, vi x1), (4, vl x2), (6, vi (0 : Int))]) [0, 1, 3, 4] rfl ?_
  exact k
theorem kX8_washed_37 {X : Scr} {M : Mem} {P : Option AV → Mem → Prop} {x1 x4 x6 : Int} (k1 : x1 ≤ x6 → Runs X mX8_washed 66 [(0, vr 0)] [] M P) (k2 : x6 < x1 → Runs X mX8_washed 43 [(0, vr 0), (1, vi x1), (4, vl x4), (6, vi x6)] [] M P) : Runs X mX8_washed 37 [(0, vr 0), (1, vi x1), (4, vl x4), (6, vi x6)] [] M P := by
  refine Runs.iload (j := 3) dX8_washed_37 rfl ?_
  refine Runs.iload_n (j := 1) dX8_washed_39 rfl ?_
  refine Runs.icmp_ge (tgt := 66) dX8_washed_40 (by decide) (fun h => ?_) (fun h => ?_)
  · refine Runs.picks (loc' := [(0, vr 0)]) [0] rfl ?_
    exact k1 h
  · exact k2 h
theorem kX8_washed_43 {X : Scr} {M : Mem} {P Q : Option AV → Mem → Prop} {x1 x4 x6 : Int} (hC : Call X mX8_drawFrom [vl x4] M Q) (k : ∀ (z : Int) (M1 : Mem), Q (some (vl z)) M1 → Runs X mX8_washed 48 [(0, vr 0), (1, vi x1), (6, vi x6)] [vl z] M1 P) : Runs X mX8_washed 43 [(0, vr 0), (1, vi x1), (4, vl x4), (6, vi x6)] [] M P := by
  refine Runs.lload (j := 2) dX8_washed_43 rfl ?_
  refine Runs.callSl (y := mX8_drawFrom) (n := 1) (as := [vl x4]) (st := []) dX8_washed_45 oc_X8_drawFrom sm_X8_drawFrom ml_X8_216 rfl ⟨(Nat.le_of_ble_eq_true rfl), (Nat.le_of_ble_eq_true rfl)⟩ (Nat.le_of_ble_eq_true rfl) (Nat.le_of_ble_eq_true rfl) rfl hC (fun z M1 hQ => ?_)
  refine Runs.picks (loc' := [(0, vr 0), (1, vi x1), (6, vi x6)]) [0, 1, 3] rfl ?_
  exact k z M1 hQ
theorem kX8_washed_48 {X : Scr} {M : Mem} {P Q : Option AV → Mem → Prop} {x1 x6 xs0 : Int} (hC : Call X mX8_addDrawn [vr 0, vi (x6 % (4 : Int)), vl xs0] M Q) (k : ∀ (M1 : Mem), Q none M1 → Runs X mX8_washed 60 [(0, vr 0), (1, vi x1), (4, vl xs0), (6, vi x6)] [] M1 P) (h1 : 0 ≤ x6 := by omega) (h2 : 0 < (4 : Int) := by omega) : Runs X mX8_washed 48 [(0, vr 0), (1, vi x1), (6, vi x6)] [vl xs0] M P := by
  refine Runs.lstore (loc' := [(0, vr 0), (1, vi x1), (4, vl xs0), (6, vi x6)]) dX8_washed_48 (by decide) rfl ?_
  refine Runs.aload_n (j := 0) dX8_washed_50 rfl ?_
  refine Runs.iload (j := 3) dX8_washed_51 rfl ?_
  refine Runs.iconst dX8_washed_53 (by decide) ?_
  refine Runs.irem dX8_washed_54 h1 h2 ?_
  refine Runs.lload (j := 2) dX8_washed_55 rfl ?_
  refine Runs.callVv (y := mX8_addDrawn) (n := 2) (as := [vi (x6 % (4 : Int)), vl xs0]) (st := []) (q := (RX8, TX8, 12)) dX8_washed_57 oc_X8_addDrawn im_X8_addDrawn se_X8_addDrawn ml_X8_220 rfl ⟨(Nat.le_of_ble_eq_true rfl), (Nat.le_of_ble_eq_true rfl)⟩ (Nat.le_of_ble_eq_true rfl) (Nat.le_of_ble_eq_true rfl) rfl rfl rfl rfl hC (fun M1 hQ => ?_)
  exact k M1 hQ
theorem kX8_washed_60 {X : Scr} {M : Mem} {P : Option AV → Mem → Prop} {x1 x4 x6 : Int} (k : Runs X mX8_washed 37 [(0, vr 0), (1, vi x1), (4, vl x4), (6, vi (x6 + (1 : Int)))] [] M P) (h1 : -2147483648 ≤ (x6 + (1 : Int)) ∧ (x6 + (1 : Int)) ≤ 2147483647 := by omega) : Runs X mX8_washed 60 [(0, vr 0), (1, vi x1), (4, vl x4), (6, vi x6)] [] M P := by
  refine Runs.iinc (k := 3) (loc' := [(0, vr 0), (1, vi x1), (4, vl x4), (6, vi (x6 + (1 : Int)))]) dX8_washed_60 rfl h1 (by decide) rfl ?_
  refine Runs.goto (tgt := 37) dX8_washed_63 (by decide) ?_
  exact k
theorem kX8_washed_66 {X : Scr} {M : Mem} {P : Option AV → Mem → Prop} (k : P (some (vi (M (oT 0) 1))) M) : Runs X mX8_washed 66 [(0, vr 0)] [] M P := by
  refine Runs.aload_n (j := 0) dX8_washed_66 rfl ?_
  refine Runs.getr (o' := (oT 0)) (ci := 8) (j := 1) (C := RX8) (T := TX8) (N := 12) dX8_washed_67 rfl cls_X8 (by decide) rfl fl_X8_19 rfl ⟨rfl, _, Or.inl rfl⟩ ?_
  refine Runs.geti (ci := 6) (j := 1) (C := RX6) (T := TX6) (N := 2) dX8_washed_70 (kd_oT (by omega)) cls_X6 (by decide) rfl fl_X8_94 (Or.inl rfl) ?_
  exact Runs.reti dX8_washed_73 rfl k
theorem kX8_life_0 {X : Scr} {M : Mem} {P Q : Option AV → Mem → Prop} {x1 x2 : Int} (hC : Call X mX8_isTooth [vr 0, vi x1] M Q) (k : ∀ (z : Int) (M1 : Mem), Q (some (vi z)) M1 → Runs X mX8_life 5 [(0, vr 0), (1, vi x1), (2, vi x2)] [vi z] M1 P) : Runs X mX8_life 0 [(0, vr 0), (1, vi x1), (2, vi x2)] [] M P := by
  refine Runs.aload_n (j := 0) dX8_life_0 rfl ?_
  refine Runs.iload_n (j := 1) dX8_life_1 rfl ?_
  refine Runs.callVi (y := mX8_isTooth) (n := 1) (as := [vi x1]) (st := []) (q := (RX8, TX8, 12)) dX8_life_2 oc_X8_isTooth im_X8_isTooth se_X8_isTooth ml_X8_120 rfl ⟨(Nat.le_of_ble_eq_true rfl), (Nat.le_of_ble_eq_true rfl)⟩ (Nat.le_of_ble_eq_true rfl) (Nat.le_of_ble_eq_true rfl) rfl rfl rfl (Or.inr rfl) hC (fun z M1 hQ => ?_)
  exact k z M1 hQ
theorem kX8_life_5 {X : Scr} {M : Mem} {P : Option AV → Mem → Prop} {x1 x2 xs0 : Int} (k1 : xs0 ≠ 0 → Runs X mX8_life 10 [(0, vr 0), (1, vi x1), (2, vi x2)] [] M P) (k2 : xs0 = 0 → Runs X mX8_life 8 [] [] M P) : Runs X mX8_life 5 [(0, vr 0), (1, vi x1), (2, vi x2)] [vi xs0] M P := by
  refine Runs.if_ne (tgt := 10) dX8_life_5 (by decide) (fun h => ?_) (fun h => ?_)
  · exact k1 h
  · refine Runs.picks (loc' := []) [] rfl ?_
    exact k2 h
theorem kX8_life_8 {X : Scr} {M : Mem} {P : Option AV → Mem → Prop} (k : P (some (vi (-1 : Int))) M) : Runs X mX8_life 8 [] [] M P := by
  refine Runs.iconst dX8_life_8 (by decide) ?_
  exact Runs.reti dX8_life_9 rfl k
theorem kX8_life_10 {X : Scr} {M : Mem} {P : Option AV → Mem → Prop} {x1 x2 : Int} (k1 : x2 < (1 : Int) → Runs X mX8_life 22 [] [] M P) (k2 : (1 : Int) ≤ x2 → Runs X mX8_life 15 [(0, vr 0), (1, vi x1), (2, vi x2)] [] M P) : Runs X mX8_life 10 [(0, vr 0), (1, vi x1), (2, vi x2)] [] M P := by
  refine Runs.iload_n (j := 2) dX8_life_10 rfl ?_
  refine Runs.iconst dX8_life_11 (by decide) ?_
  refine Runs.icmp_lt (tgt := 22) dX8_life_12 (by decide) (fun h => ?_) (fun h => ?_)
  · refine Runs.picks (loc' := []) [] rfl ?_
    exact k1 h
  · exact k2 h
theorem kX8_life_15 {X : Scr} {M : Mem} {P : Option AV → Mem → Prop} {x1 x2 : Int} (k1 : x2 ≤ (999 : Int) → Runs X mX8_life 25 [(0, vr 0), (1, vi x1), (2, vi x2)] [] M P) (k2 : (999 : Int) < x2 → Runs X mX8_life 22 [] [] M P) : Runs X mX8_life 15 [(0, vr 0), (1, vi x1), (2, vi x2)] [] M P := by
  refine Runs.iload_n (j := 2) dX8_life_15 rfl ?_
  refine Runs.sipush dX8_life_16 (by decide) (by decide) ?_
  refine Runs.icmp_le (tgt := 25) dX8_life_19 (by decide) (fun h => ?_) (fun h => ?_)
  · exact k1 h
  · refine Runs.picks (loc' := []) [] rfl ?_
    exact k2 h
theorem kX8_life_22 {X : Scr} {M : Mem} {P : Option AV → Mem → Prop} (k : P (some (vi (-2 : Int))) M) : Runs X mX8_life 22 [] [] M P := by
  refine Runs.bipush dX8_life_22 (by decide) (by decide) ?_
  exact Runs.reti dX8_life_24 rfl k
theorem kX8_life_25 {X : Scr} {M : Mem} {P Q : Option AV → Mem → Prop} {x1 x2 : Int} (hC : Call X mX6_get [vr (oT 0), vi x1, vi (2 : Int)] M Q) (k : ∀ (z : Int) (M1 : Mem), Q (some (vi z)) M1 → Runs X mX8_life 34 [(0, vr 0), (1, vi x1), (2, vi x2)] [vi z] M1 P) : Runs X mX8_life 25 [(0, vr 0), (1, vi x1), (2, vi x2)] [] M P := by
  refine Runs.aload_n (j := 0) dX8_life_25 rfl ?_
  refine Runs.getr (o' := (oT 0)) (ci := 8) (j := 1) (C := RX8) (T := TX8) (N := 12) dX8_life_26 rfl cls_X8 (by decide) rfl fl_X8_19 rfl ⟨rfl, _, Or.inl rfl⟩ ?_
  refine Runs.iload_n (j := 1) dX8_life_29 rfl ?_
  refine Runs.iconst dX8_life_30 (by decide) ?_
  refine Runs.callVi (y := mX6_get) (n := 2) (as := [vi x1, vi (2 : Int)]) (st := []) (q := (RX6, TX6, 2)) dX8_life_31 oc_X6_get im_X6_get se_X6_get ml_X8_124 rfl ⟨(Nat.le_of_ble_eq_true rfl), (Nat.le_of_ble_eq_true rfl)⟩ (Nat.le_of_ble_eq_true rfl) (Nat.le_of_ble_eq_true rfl) (kd_oT (by omega)) rfl rfl (Or.inl rfl) hC (fun z M1 hQ => ?_)
  exact k z M1 hQ
theorem kX8_life_34 {X : Scr} {M : Mem} {P Q : Option AV → Mem → Prop} {x1 x2 xs0 : Int} (hC : Call X mX8_worthWorn [vr 0, vi x1, vi xs0] M Q) (k : ∀ (z : Int) (M1 : Mem), Q (some (vi z)) M1 → Runs X mX8_life 41 [(0, vr 0), (1, vi x1), (2, vi x2), (3, vi xs0)] [vi z] M1 P) : Runs X mX8_life 34 [(0, vr 0), (1, vi x1), (2, vi x2)] [vi xs0] M P := by
  refine Runs.istore_n (loc' := [(0, vr 0), (1, vi x1), (2, vi x2), (3, vi xs0)]) dX8_life_34 rfl (by decide) rfl ?_
  refine Runs.aload_n (j := 0) dX8_life_35 rfl ?_
  refine Runs.iload_n (j := 1) dX8_life_36 rfl ?_
  refine Runs.iload_n (j := 3) dX8_life_37 rfl ?_
  refine Runs.callVi (y := mX8_worthWorn) (n := 2) (as := [vi x1, vi xs0]) (st := []) (q := (RX8, TX8, 12)) dX8_life_38 oc_X8_worthWorn im_X8_worthWorn se_X8_worthWorn ml_X8_224 rfl ⟨(Nat.le_of_ble_eq_true rfl), (Nat.le_of_ble_eq_true rfl)⟩ (Nat.le_of_ble_eq_true rfl) (Nat.le_of_ble_eq_true rfl) rfl rfl rfl (Or.inl rfl) hC (fun z M1 hQ => ?_)
  exact k z M1 hQ
theorem kX8_life_41 {X : Scr} {M : Mem} {P : Option AV → Mem → Prop} {x1 x2 x3 xs0 : Int} (k1 : x2 ≤ xs0 → Runs X mX8_life 48 [(0, vr 0), (1, vi x1), (2, vi x2), (3, vi x3)] [] M P) (k2 : xs0 < x2 → Runs X mX8_life 45 [] [] M P) : Runs X mX8_life 41 [(0, vr 0), (1, vi x1), (2, vi x2), (3, vi x3)] [vi xs0] M P := by
  refine Runs.iload_n (j := 2) dX8_life_41 rfl ?_
  refine Runs.icmp_ge (tgt := 48) dX8_life_42 (by decide) (fun h => ?_) (fun h => ?_)
  · exact k1 h
  · refine Runs.picks (loc' := []) [] rfl ?_
    exact k2 h
theorem kX8_life_45 {X : Scr} {M : Mem} {P : Option AV → Mem → Prop} (k : P (some (vi (-9 : Int))) M) : Runs X mX8_life 45 [] [] M P := by
  refine Runs.bipush dX8_life_45 (by decide) (by decide) ?_
  exact Runs.reti dX8_life_47 rfl k
theorem kX8_life_48 {X : Scr} {M : Mem} {P : Option AV → Mem → Prop} {x1 x2 x3 : Int} (k : Runs X mX8_life 51 [(0, vr 0), (1, vi x1), (2, vi x2), (3, vi x3), (4, vi (1 : Int))] [] M P) : Runs X mX8_life 48 [(0, vr 0), (1, vi x1), (2, vi x2), (3, vi x3)] [] M P := by
  refine Runs.iconst dX8_life_48 (by decide) ?_
  refine Runs.istore (loc' := [(0, vr 0), (1, vi x1), (2, vi x2), (3, vi x3), (4, vi (1 : Int))]) dX8_life_49 (by decide) rfl ?_
  exact k
theorem kX8_life_51 {X : Scr} {M : Mem} {P : Option AV → Mem → Prop} {x1 x2 x3 x4 : Int} (k1 : (99 : Int) < (x3 + x4) → Runs X mX8_life 84 [] [] M P) (k2 : (x3 + x4) ≤ (99 : Int) → Runs X mX8_life 60 [(0, vr 0), (1, vi x1), (2, vi x2), (3, vi x3), (4, vi x4)] [] M P) (h1 : -2147483648 ≤ (x3 + x4) ∧ (x3 + x4) ≤ 2147483647 := by omega) : Runs X mX8_life 51 [(0, vr 0), (1, vi x1), (2, vi x2), (3, vi x3), (4, vi x4)] [] M P := by
  refine Runs.iload_n (j := 3) dX8_life_51 rfl ?_
  refine Runs.iload (j := 4) dX8_life_52 rfl ?_
  refine Runs.iadd dX8_life_54 h1 ?_
  refine Runs.bipush dX8_life_55 (by decide) (by decide) ?_
  refine Runs.icmp_gt (tgt := 84) dX8_life_57 (by decide) (fun h => ?_) (fun h => ?_)
  · refine Runs.picks (loc' := []) [] rfl ?_
    exact k1 h
  · exact k2 h
theorem kX8_life_60 {X : Scr} {M : Mem} {P Q : Option AV → Mem → Prop} {x1 x2 x3 x4 : Int} (hC : Call X mX8_worthWorn [vr 0, vi x1, vi (x3 + x4)] M Q) (k : ∀ (z : Int) (M1 : Mem), Q (some (vi z)) M1 → Runs X mX8_life 69 [(0, vr 0), (1, vi x1), (2, vi x2), (3, vi x3), (4, vi x4)] [vi z] M1 P) (h1 : -2147483648 ≤ (x3 + x4) ∧ (x3 + x4) ≤ 2147483647 := by omega) : Runs X mX8_life 60 [(0, vr 0), (1, vi x1), (2, vi x2), (3, vi x3), (4, vi x4)] [] M P := by
  refine Runs.aload_n (j := 0) dX8_life_60 rfl ?_
  refine Runs.iload_n (j := 1) dX8_life_61 rfl ?_
  refine Runs.iload_n (j := 3) dX8_life_62 rfl ?_
  refine Runs.iload (j := 4) dX8_life_63 rfl ?_
  refine Runs.iadd dX8_life_65 h1 ?_
  refine Runs.callVi (y := mX8_worthWorn) (n := 2) (as := [vi x1, vi (x3 + x4)]) (st := []) (q := (RX8, TX8, 12)) dX8_life_66 oc_X8_worthWorn im_X8_worthWorn se_X8_worthWorn ml_X8_224 rfl ⟨(Nat.le_of_ble_eq_true rfl), (Nat.le_of_ble_eq_true rfl)⟩ (Nat.le_of_ble_eq_true rfl) (Nat.le_of_ble_eq_true rfl) rfl rfl rfl (Or.inl rfl) hC (fun z M1 hQ => ?_)
  exact k z M1 hQ
theorem kX8_life_69 {X : Scr} {M : Mem} {P : Option AV → Mem → Prop} {x1 x2 x3 x4 xs0 : Int} (k1 : x2 ≤ xs0 → Runs X mX8_life 78 [(0, vr 0), (1, vi x1), (2, vi x2), (3, vi x3), (4, vi x4)] [] M P) (k2 : xs0 < x2 → Runs X mX8_life 73 [(4, vi x4)] [] M P) : Runs X mX8_life 69 [(0, vr 0), (1, vi x1), (2, vi x2), (3, vi x3), (4, vi x4)] [vi xs0] M P := by
  refine Runs.iload_n (j := 2) dX8_life_69 rfl ?_
  refine Runs.icmp_ge (tgt := 78) dX8_life_70 (by decide) (fun h => ?_) (fun h => ?_)
  · exact k1 h
  · refine Runs.picks (loc' := [(4, vi x4)]) [4] rfl ?_
    exact k2 h
theorem kX8_life_73 {X : Scr} {M : Mem} {P : Option AV → Mem → Prop} {x4 : Int} (k : P (some (vi (x4 - (1 : Int)))) M) (h1 : -2147483648 ≤ (x4 - (1 : Int)) ∧ (x4 - (1 : Int)) ≤ 2147483647 := by omega) : Runs X mX8_life 73 [(4, vi x4)] [] M P := by
  refine Runs.iload (j := 0) dX8_life_73 rfl ?_
  refine Runs.iconst dX8_life_75 (by decide) ?_
  refine Runs.isub dX8_life_76 h1 ?_
  exact Runs.reti dX8_life_77 rfl k
theorem kX8_life_78 {X : Scr} {M : Mem} {P : Option AV → Mem → Prop} {x1 x2 x3 x4 : Int} (k : Runs X mX8_life 51 [(0, vr 0), (1, vi x1), (2, vi x2), (3, vi x3), (4, vi (x4 + (1 : Int)))] [] M P) (h1 : -2147483648 ≤ (x4 + (1 : Int)) ∧ (x4 + (1 : Int)) ≤ 2147483647 := by omega) : Runs X mX8_life 78 [(0, vr 0), (1, vi x1), (2, vi x2), (3, vi x3), (4, vi x4)] [] M P := by
  refine Runs.iinc (k := 4) (loc' := [(0, vr 0), (1, vi x1), (2, vi x2), (3, vi x3), (4, vi (x4 + (1 : Int)))]) dX8_life_78 rfl h1 (by decide) rfl ?_
  refine Runs.goto (tgt := 51) dX8_life_81 (by decide) ?_
  exact k
theorem kX8_life_84 {X : Scr} {M : Mem} {P : Option AV → Mem → Prop} (k : P (some (vi (999 : Int))) M) : Runs X mX8_life 84 [] [] M P := by
  refine Runs.sipush dX8_life_84 (by decide) (by decide) ?_
  exact Runs.reti dX8_life_87 rfl k
theorem kX8_trace_0 {X : Scr} {M : Mem} {P Q : Option AV → Mem → Prop} {x1 x2 : Int} (hC : Call X mX8_isTooth [vr 0, vi x1] M Q) (k : ∀ (z : Int) (M1 : Mem), Q (some (vi z)) M1 → Runs X mX8_trace 5 [(0, vr 0), (1, vi x1), (2, vi x2)] [vi z] M1 P) : Runs X mX8_trace 0 [(0, vr 0), (1, vi x1), (2, vi x2)] [] M P := by
  refine Runs.aload_n (j := 0) dX8_trace_0 rfl ?_
  refine Runs.iload_n (j := 1) dX8_trace_1 rfl ?_
  refine Runs.callVi (y := mX8_isTooth) (n := 1) (as := [vi x1]) (st := []) (q := (RX8, TX8, 12)) dX8_trace_2 oc_X8_isTooth im_X8_isTooth se_X8_isTooth ml_X8_120 rfl ⟨(Nat.le_of_ble_eq_true rfl), (Nat.le_of_ble_eq_true rfl)⟩ (Nat.le_of_ble_eq_true rfl) (Nat.le_of_ble_eq_true rfl) rfl rfl rfl (Or.inr rfl) hC (fun z M1 hQ => ?_)
  exact k z M1 hQ
theorem kX8_trace_5 {X : Scr} {M : Mem} {P : Option AV → Mem → Prop} {x1 x2 xs0 : Int} (k1 : xs0 = 0 → Runs X mX8_trace 20 [] [] M P) (k2 : xs0 ≠ 0 → Runs X mX8_trace 8 [(0, vr 0), (1, vi x1), (2, vi x2)] [] M P) : Runs X mX8_trace 5 [(0, vr 0), (1, vi x1), (2, vi x2)] [vi xs0] M P := by
  refine Runs.if_eq (tgt := 20) dX8_trace_5 (by decide) (fun h => ?_) (fun h => ?_)
  · refine Runs.picks (loc' := []) [] rfl ?_
    exact k1 h
  · exact k2 h
theorem kX8_trace_8 {X : Scr} {M : Mem} {P Q : Option AV → Mem → Prop} {x1 x2 : Int} (hC : Call X mX6_traceOf [vr (oT 0), vi x1, vi x2] M Q) (k : ∀ (z : Int) (M1 : Mem), Q (some (vi z)) M1 → Runs X mX8_trace 17 [] [vi z] M1 P) : Runs X mX8_trace 8 [(0, vr 0), (1, vi x1), (2, vi x2)] [] M P := by
  refine Runs.aload_n (j := 0) dX8_trace_8 rfl ?_
  refine Runs.getr (o' := (oT 0)) (ci := 8) (j := 1) (C := RX8) (T := TX8) (N := 12) dX8_trace_9 rfl cls_X8 (by decide) rfl fl_X8_19 rfl ⟨rfl, _, Or.inl rfl⟩ ?_
  refine Runs.iload_n (j := 1) dX8_trace_12 rfl ?_
  refine Runs.iload_n (j := 2) dX8_trace_13 rfl ?_
  refine Runs.callVi (y := mX6_traceOf) (n := 2) (as := [vi x1, vi x2]) (st := []) (q := (RX6, TX6, 2)) dX8_trace_14 oc_X6_traceOf im_X6_traceOf se_X6_traceOf ml_X8_227 rfl ⟨(Nat.le_of_ble_eq_true rfl), (Nat.le_of_ble_eq_true rfl)⟩ (Nat.le_of_ble_eq_true rfl) (Nat.le_of_ble_eq_true rfl) (kd_oT (by omega)) rfl rfl (Or.inl rfl) hC (fun z M1 hQ => ?_)
  refine Runs.picks (loc' := []) [] rfl ?_
  exact k z M1 hQ
theorem kX8_trace_17 {X : Scr} {M : Mem} {P : Option AV → Mem → Prop} {xs0 : Int} (k : Runs X mX8_trace 21 [] [vi xs0] M P) : Runs X mX8_trace 17 [] [vi xs0] M P := by
  refine Runs.goto (tgt := 21) dX8_trace_17 (by decide) ?_
  exact k
theorem kX8_trace_20 {X : Scr} {M : Mem} {P : Option AV → Mem → Prop} (k : Runs X mX8_trace 21 [] [vi (-1 : Int)] M P) : Runs X mX8_trace 20 [] [] M P := by
  refine Runs.iconst dX8_trace_20 (by decide) ?_
  exact k
theorem kX8_trace_21 {X : Scr} {M : Mem} {P : Option AV → Mem → Prop} {xs0 : Int} (k : P (some (vi xs0)) M) : Runs X mX8_trace 21 [] [vi xs0] M P := by
  exact Runs.reti dX8_trace_21 rfl k
theorem kX8_inflated_0 {X : Scr} {M : Mem} {P Q : Option AV → Mem → Prop} {x1 x2 : Int} (hC : Call X mX8_isGood [vr 0, vi x1] M Q) (k : ∀ (z : Int) (M1 : Mem), Q (some (vi z)) M1 → Runs X mX8_inflated 5 [(0, vr 0), (1, vi x1), (2, vi x2)] [vi z] M1 P) : Runs X mX8_inflated 0 [(0, vr 0), (1, vi x1), (2, vi x2)] [] M P := by
  refine Runs.aload_n (j := 0) dX8_inflated_0 rfl ?_
  refine Runs.iload_n (j := 1) dX8_inflated_1 rfl ?_
  refine Runs.callVi (y := mX8_isGood) (n := 1) (as := [vi x1]) (st := []) (q := (RX8, TX8, 12)) dX8_inflated_2 oc_X8_isGood im_X8_isGood se_X8_isGood ml_X8_130 rfl ⟨(Nat.le_of_ble_eq_true rfl), (Nat.le_of_ble_eq_true rfl)⟩ (Nat.le_of_ble_eq_true rfl) (Nat.le_of_ble_eq_true rfl) rfl rfl rfl (Or.inr rfl) hC (fun z M1 hQ => ?_)
  exact k z M1 hQ
theorem kX8_inflated_5 {X : Scr} {M : Mem} {P : Option AV → Mem → Prop} {x1 x2 xs0 : Int} (k1 : xs0 ≠ 0 → Runs X mX8_inflated 10 [(0, vr 0), (1, vi x1), (2, vi x2)] [] M P) (k2 : xs0 = 0 → Runs X mX8_inflated 8 [] [] M P) : Runs X mX8_inflated 5 [(0, vr 0), (1, vi x1), (2, vi x2)] [vi xs0] M P := by
  refine Runs.if_ne (tgt := 10) dX8_inflated_5 (by decide) (fun h => ?_) (fun h => ?_)
  · exact k1 h
  · refine Runs.picks (loc' := []) [] rfl ?_
    exact k2 h
theorem kX8_inflated_8 {X : Scr} {M : Mem} {P : Option AV → Mem → Prop} (k : P (some (vi (-1 : Int))) M) : Runs X mX8_inflated 8 [] [] M P := by
  refine Runs.iconst dX8_inflated_8 (by decide) ?_
  exact Runs.reti dX8_inflated_9 rfl k
theorem kX8_inflated_10 {X : Scr} {M : Mem} {P : Option AV → Mem → Prop} {x1 x2 : Int} (k1 : x2 < 0 → Runs X mX8_inflated 21 [] [] M P) (k2 : 0 ≤ x2 → Runs X mX8_inflated 14 [(0, vr 0), (1, vi x1), (2, vi x2)] [] M P) : Runs X mX8_inflated 10 [(0, vr 0), (1, vi x1), (2, vi x2)] [] M P := by
  refine Runs.iload_n (j := 2) dX8_inflated_10 rfl ?_
  refine Runs.if_lt (tgt := 21) dX8_inflated_11 (by decide) (fun h => ?_) (fun h => ?_)
  · refine Runs.picks (loc' := []) [] rfl ?_
    exact k1 h
  · exact k2 h
theorem kX8_inflated_14 {X : Scr} {M : Mem} {P : Option AV → Mem → Prop} {x1 x2 : Int} (k1 : x2 ≤ (9999 : Int) → Runs X mX8_inflated 24 [(0, vr 0), (1, vi x1), (2, vi x2)] [] M P) (k2 : (9999 : Int) < x2 → Runs X mX8_inflated 21 [] [] M P) : Runs X mX8_inflated 14 [(0, vr 0), (1, vi x1), (2, vi x2)] [] M P := by
  refine Runs.iload_n (j := 2) dX8_inflated_14 rfl ?_
  refine Runs.sipush dX8_inflated_15 (by decide) (by decide) ?_
  refine Runs.icmp_le (tgt := 24) dX8_inflated_18 (by decide) (fun h => ?_) (fun h => ?_)
  · exact k1 h
  · refine Runs.picks (loc' := []) [] rfl ?_
    exact k2 h
theorem kX8_inflated_21 {X : Scr} {M : Mem} {P : Option AV → Mem → Prop} (k : P (some (vi (-2 : Int))) M) : Runs X mX8_inflated 21 [] [] M P := by
  refine Runs.bipush dX8_inflated_21 (by decide) (by decide) ?_
  exact Runs.reti dX8_inflated_23 rfl k
theorem kX8_inflated_24 {X : Scr} {M : Mem} {P Q : Option AV → Mem → Prop} {x1 x2 : Int} (hC : Call X mX8_setsOfTeeth [vr 0] M Q) (k : ∀ (z : Int) (M1 : Mem), Q (some (vi z)) M1 → Runs X mX8_inflated 29 [(0, vr 0), (1, vi x1), (2, vi x2)] [vi z, vr 0] M1 P) : Runs X mX8_inflated 24 [(0, vr 0), (1, vi x1), (2, vi x2)] [] M P := by
  refine Runs.aload_n (j := 0) dX8_inflated_24 rfl ?_
  refine Runs.aload_n (j := 0) dX8_inflated_25 rfl ?_
  refine Runs.callVi (y := mX8_setsOfTeeth) (n := 0) (as := []) (st := [vr 0]) (q := (RX8, TX8, 12)) dX8_inflated_26 oc_X8_setsOfTeeth im_X8_setsOfTeeth se_X8_setsOfTeeth ml_X8_201 rfl ⟨(Nat.le_of_ble_eq_true rfl), (Nat.le_of_ble_eq_true rfl)⟩ (Nat.le_of_ble_eq_true rfl) (Nat.le_of_ble_eq_true rfl) rfl rfl rfl (Or.inl rfl) hC (fun z M1 hQ => ?_)
  exact k z M1 hQ
theorem kX8_inflated_29 {X : Scr} {M : Mem} {P Q : Option AV → Mem → Prop} {x1 x2 xs1 : Int} (hC : Call X mX8_worthOfSet [vr 0, vi (xs1 - (1 : Int))] M Q) (k : ∀ (z : Int) (M1 : Mem), Q (some (vi z)) M1 → Runs X mX8_inflated 34 [(0, vr 0), (1, vi x1), (2, vi x2)] [vi z] M1 P) (h1 : -2147483648 ≤ (xs1 - (1 : Int)) ∧ (xs1 - (1 : Int)) ≤ 2147483647 := by omega) : Runs X mX8_inflated 29 [(0, vr 0), (1, vi x1), (2, vi x2)] [vi xs1, vr 0] M P := by
  refine Runs.iconst dX8_inflated_29 (by decide) ?_
  refine Runs.isub dX8_inflated_30 h1 ?_
  refine Runs.callVi (y := mX8_worthOfSet) (n := 1) (as := [vi (xs1 - (1 : Int))]) (st := []) (q := (RX8, TX8, 12)) dX8_inflated_31 oc_X8_worthOfSet im_X8_worthOfSet se_X8_worthOfSet ml_X8_145 rfl ⟨(Nat.le_of_ble_eq_true rfl), (Nat.le_of_ble_eq_true rfl)⟩ (Nat.le_of_ble_eq_true rfl) (Nat.le_of_ble_eq_true rfl) rfl rfl rfl (Or.inl rfl) hC (fun z M1 hQ => ?_)
  exact k z M1 hQ
theorem kX8_inflated_34 {X : Scr} {M : Mem} {P : Option AV → Mem → Prop} {x1 x2 xs0 : Int} (k1 : 0 < xs0 → Runs X mX8_inflated 42 [(0, vr 0), (1, vi x1), (2, vi x2), (3, vi xs0)] [] M P) (k2 : xs0 ≤ 0 → Runs X mX8_inflated 39 [] [] M P) : Runs X mX8_inflated 34 [(0, vr 0), (1, vi x1), (2, vi x2)] [vi xs0] M P := by
  refine Runs.istore_n (loc' := [(0, vr 0), (1, vi x1), (2, vi x2), (3, vi xs0)]) dX8_inflated_34 rfl (by decide) rfl ?_
  refine Runs.iload_n (j := 3) dX8_inflated_35 rfl ?_
  refine Runs.if_gt (tgt := 42) dX8_inflated_36 (by decide) (fun h => ?_) (fun h => ?_)
  · exact k1 h
  · refine Runs.picks (loc' := []) [] rfl ?_
    exact k2 h
theorem kX8_inflated_39 {X : Scr} {M : Mem} {P : Option AV → Mem → Prop} (k : P (some (vi (-3 : Int))) M) : Runs X mX8_inflated 39 [] [] M P := by
  refine Runs.bipush dX8_inflated_39 (by decide) (by decide) ?_
  exact Runs.reti dX8_inflated_41 rfl k
theorem kX8_inflated_42 {X : Scr} {M : Mem} {P Q : Option AV → Mem → Prop} {x1 x2 x3 : Int} (hC : Call X mX1_priceOf [vr 3, vi x1] M Q) (k : ∀ (z : Int) (M1 : Mem), Q (some (vi z)) M1 → Runs X mX8_inflated 50 [(2, vi x2), (3, vi x3)] [vi z] M1 P) : Runs X mX8_inflated 42 [(0, vr 0), (1, vi x1), (2, vi x2), (3, vi x3)] [] M P := by
  refine Runs.aload_n (j := 0) dX8_inflated_42 rfl ?_
  refine Runs.getr (o' := 3) (ci := 8) (j := 2) (C := RX8) (T := TX8) (N := 12) dX8_inflated_43 rfl cls_X8 (by decide) rfl fl_X8_26 rfl ⟨rfl, _, Or.inl rfl⟩ ?_
  refine Runs.iload_n (j := 1) dX8_inflated_46 rfl ?_
  refine Runs.callVi (y := mX1_priceOf) (n := 1) (as := [vi x1]) (st := []) (q := (RX1, TX1, 3)) dX8_inflated_47 oc_X1_priceOf im_X1_priceOf se_X1_priceOf ml_X8_133 rfl ⟨(Nat.le_of_ble_eq_true rfl), (Nat.le_of_ble_eq_true rfl)⟩ (Nat.le_of_ble_eq_true rfl) (Nat.le_of_ble_eq_true rfl) rfl rfl rfl (Or.inl rfl) hC (fun z M1 hQ => ?_)
  refine Runs.picks (loc' := [(2, vi x2), (3, vi x3)]) [2, 3] rfl ?_
  exact k z M1 hQ
theorem kX8_inflated_50 {X : Scr} {M : Mem} {P : Option AV → Mem → Prop} {x2 x3 xs0 : Int} (k : P (some (vi ((xs0 * (x3 + x2)) / x3))) M) (h1 : -2147483648 ≤ (x3 + x2) ∧ (x3 + x2) ≤ 2147483647 := by omega) (h2 : -2147483648 ≤ (xs0 * (x3 + x2)) ∧ (xs0 * (x3 + x2)) ≤ 2147483647 := by omega) (h3 : 0 ≤ (xs0 * (x3 + x2)) := by omega) (h4 : 0 < x3 := by omega) : Runs X mX8_inflated 50 [(2, vi x2), (3, vi x3)] [vi xs0] M P := by
  refine Runs.iload_n (j := 1) dX8_inflated_50 rfl ?_
  refine Runs.iload_n (j := 0) dX8_inflated_51 rfl ?_
  refine Runs.iadd dX8_inflated_52 h1 ?_
  refine Runs.imul dX8_inflated_53 h2 ?_
  refine Runs.iload_n (j := 1) dX8_inflated_54 rfl ?_
  refine Runs.idiv dX8_inflated_55 h3 h4 ?_
  exact Runs.reti dX8_inflated_56 rfl k
theorem kX8_doubt_0 {X : Scr} {M : Mem} {P Q : Option AV → Mem → Prop} {x1 x2 x3 x4 x5 x6 : Int} (hC : Call X mX8_isTenths [vi x1] M Q) (k : ∀ (z : Int) (M1 : Mem), Q (some (vi z)) M1 → Runs X mX8_doubt 4 [(1, vi x1), (2, vi x2), (3, vi x3), (4, vi x4), (5, vi x5), (6, vi x6)] [vi z] M1 P) : Runs X mX8_doubt 0 [(1, vi x1), (2, vi x2), (3, vi x3), (4, vi x4), (5, vi x5), (6, vi x6)] [] M P := by
  refine Runs.iload_n (j := 0) dX8_doubt_0 rfl ?_
  refine Runs.callSi (y := mX8_isTenths) (n := 1) (as := [vi x1]) (st := []) dX8_doubt_1 oc_X8_isTenths sm_X8_isTenths ml_X8_230 rfl ⟨(Nat.le_of_ble_eq_true rfl), (Nat.le_of_ble_eq_true rfl)⟩ (Nat.le_of_ble_eq_true rfl) (Nat.le_of_ble_eq_true rfl) (Or.inr rfl) hC (fun z M1 hQ => ?_)
  exact k z M1 hQ
theorem kX8_doubt_4 {X : Scr} {M : Mem} {P : Option AV → Mem → Prop} {x1 x2 x3 x4 x5 x6 xs0 : Int} (k1 : xs0 = 0 → Runs X mX8_doubt 21 [] [] M P) (k2 : xs0 ≠ 0 → Runs X mX8_doubt 7 [(1, vi x1), (2, vi x2), (3, vi x3), (4, vi x4), (5, vi x5), (6, vi x6)] [] M P) : Runs X mX8_doubt 4 [(1, vi x1), (2, vi x2), (3, vi x3), (4, vi x4), (5, vi x5), (6, vi x6)] [vi xs0] M P := by
  refine Runs.if_eq (tgt := 21) dX8_doubt_4 (by decide) (fun h => ?_) (fun h => ?_)
  · refine Runs.picks (loc' := []) [] rfl ?_
    exact k1 h
  · exact k2 h
theorem kX8_doubt_7 {X : Scr} {M : Mem} {P Q : Option AV → Mem → Prop} {x1 x2 x3 x4 x5 x6 : Int} (hC : Call X mX8_isTenths [vi x2] M Q) (k : ∀ (z : Int) (M1 : Mem), Q (some (vi z)) M1 → Runs X mX8_doubt 11 [(1, vi x1), (2, vi x2), (3, vi x3), (4, vi x4), (5, vi x5), (6, vi x6)] [vi z] M1 P) : Runs X mX8_doubt 7 [(1, vi x1), (2, vi x2), (3, vi x3), (4, vi x4), (5, vi x5), (6, vi x6)] [] M P := by
  refine Runs.iload_n (j := 1) dX8_doubt_7 rfl ?_
  refine Runs.callSi (y := mX8_isTenths) (n := 1) (as := [vi x2]) (st := []) dX8_doubt_8 oc_X8_isTenths sm_X8_isTenths ml_X8_230 rfl ⟨(Nat.le_of_ble_eq_true rfl), (Nat.le_of_ble_eq_true rfl)⟩ (Nat.le_of_ble_eq_true rfl) (Nat.le_of_ble_eq_true rfl) (Or.inr rfl) hC (fun z M1 hQ => ?_)
  exact k z M1 hQ
theorem kX8_doubt_11 {X : Scr} {M : Mem} {P : Option AV → Mem → Prop} {x1 x2 x3 x4 x5 x6 xs0 : Int} (k1 : xs0 = 0 → Runs X mX8_doubt 21 [] [] M P) (k2 : xs0 ≠ 0 → Runs X mX8_doubt 14 [(1, vi x1), (2, vi x2), (3, vi x3), (4, vi x4), (5, vi x5), (6, vi x6)] [] M P) : Runs X mX8_doubt 11 [(1, vi x1), (2, vi x2), (3, vi x3), (4, vi x4), (5, vi x5), (6, vi x6)] [vi xs0] M P := by
  refine Runs.if_eq (tgt := 21) dX8_doubt_11 (by decide) (fun h => ?_) (fun h => ?_)
  · refine Runs.picks (loc' := []) [] rfl ?_
    exact k1 h
  · exact k2 h
theorem kX8_doubt_14 {X : Scr} {M : Mem} {P Q : Option AV → Mem → Prop} {x1 x2 x3 x4 x5 x6 : Int} (hC : Call X mX8_isTenths [vi x3] M Q) (k : ∀ (z : Int) (M1 : Mem), Q (some (vi z)) M1 → Runs X mX8_doubt 18 [(1, vi x1), (2, vi x2), (3, vi x3), (4, vi x4), (5, vi x5), (6, vi x6)] [vi z] M1 P) : Runs X mX8_doubt 14 [(1, vi x1), (2, vi x2), (3, vi x3), (4, vi x4), (5, vi x5), (6, vi x6)] [] M P := by
  refine Runs.iload_n (j := 2) dX8_doubt_14 rfl ?_
  refine Runs.callSi (y := mX8_isTenths) (n := 1) (as := [vi x3]) (st := []) dX8_doubt_15 oc_X8_isTenths sm_X8_isTenths ml_X8_230 rfl ⟨(Nat.le_of_ble_eq_true rfl), (Nat.le_of_ble_eq_true rfl)⟩ (Nat.le_of_ble_eq_true rfl) (Nat.le_of_ble_eq_true rfl) (Or.inr rfl) hC (fun z M1 hQ => ?_)
  exact k z M1 hQ
theorem kX8_doubt_18 {X : Scr} {M : Mem} {P : Option AV → Mem → Prop} {x1 x2 x3 x4 x5 x6 xs0 : Int} (k1 : xs0 ≠ 0 → Runs X mX8_doubt 25 [(1, vi x1), (2, vi x2), (3, vi x3), (4, vi x4), (5, vi x5), (6, vi x6)] [] M P) (k2 : xs0 = 0 → Runs X mX8_doubt 21 [] [] M P) : Runs X mX8_doubt 18 [(1, vi x1), (2, vi x2), (3, vi x3), (4, vi x4), (5, vi x5), (6, vi x6)] [vi xs0] M P := by
  refine Runs.if_ne (tgt := 25) dX8_doubt_18 (by decide) (fun h => ?_) (fun h => ?_)
  · exact k1 h
  · refine Runs.picks (loc' := []) [] rfl ?_
    exact k2 h
theorem kX8_doubt_21 {X : Scr} {M : Mem} {P : Option AV → Mem → Prop} (k : P (some (vl (-2 : Int))) M) : Runs X mX8_doubt 21 [] [] M P := by
  refine Runs.ldc2 (z := -2) dX8_doubt_21 w3_27 (by decide) (by decide) ?_
  exact Runs.retl dX8_doubt_24 rfl k
theorem kX8_doubt_25 {X : Scr} {M : Mem} {P : Option AV → Mem → Prop} {x1 x2 x3 x4 x5 x6 : Int} (k1 : x4 < (1 : Int) → Runs X mX8_doubt 50 [] [] M P) (k2 : (1 : Int) ≤ x4 → Runs X mX8_doubt 31 [(1, vi x1), (2, vi x2), (3, vi x3), (4, vi x4), (5, vi x5), (6, vi x6)] [] M P) : Runs X mX8_doubt 25 [(1, vi x1), (2, vi x2), (3, vi x3), (4, vi x4), (5, vi x5), (6, vi x6)] [] M P := by
  refine Runs.iload (j := 3) dX8_doubt_25 rfl ?_
  refine Runs.iconst dX8_doubt_27 (by decide) ?_
  refine Runs.icmp_lt (tgt := 50) dX8_doubt_28 (by decide) (fun h => ?_) (fun h => ?_)
  · refine Runs.picks (loc' := []) [] rfl ?_
    exact k1 h
  · exact k2 h
theorem kX8_doubt_31 {X : Scr} {M : Mem} {P : Option AV → Mem → Prop} {x1 x2 x3 x4 x5 x6 : Int} (k1 : (6 : Int) < x4 → Runs X mX8_doubt 50 [] [] M P) (k2 : x4 ≤ (6 : Int) → Runs X mX8_doubt 38 [(1, vi x1), (2, vi x2), (3, vi x3), (4, vi x4), (5, vi x5), (6, vi x6)] [] M P) : Runs X mX8_doubt 31 [(1, vi x1), (2, vi x2), (3, vi x3), (4, vi x4), (5, vi x5), (6, vi x6)] [] M P := by
  refine Runs.iload (j := 3) dX8_doubt_31 rfl ?_
  refine Runs.bipush dX8_doubt_33 (by decide) (by decide) ?_
  refine Runs.icmp_gt (tgt := 50) dX8_doubt_35 (by decide) (fun h => ?_) (fun h => ?_)
  · refine Runs.picks (loc' := []) [] rfl ?_
    exact k1 h
  · exact k2 h
theorem kX8_doubt_38 {X : Scr} {M : Mem} {P : Option AV → Mem → Prop} {x1 x2 x3 x4 x5 x6 : Int} (k1 : x5 < 0 → Runs X mX8_doubt 50 [] [] M P) (k2 : 0 ≤ x5 → Runs X mX8_doubt 43 [(1, vi x1), (2, vi x2), (3, vi x3), (4, vi x4), (5, vi x5), (6, vi x6)] [] M P) : Runs X mX8_doubt 38 [(1, vi x1), (2, vi x2), (3, vi x3), (4, vi x4), (5, vi x5), (6, vi x6)] [] M P := by
  refine Runs.iload (j := 4) dX8_doubt_38 rfl ?_
  refine Runs.if_lt (tgt := 50) dX8_doubt_40 (by decide) (fun h => ?_) (fun h => ?_)
  · refine Runs.picks (loc' := []) [] rfl ?_
    exact k1 h
  · exact k2 h
theorem kX8_doubt_43 {X : Scr} {M : Mem} {P : Option AV → Mem → Prop} {x1 x2 x3 x4 x5 x6 : Int} (k1 : x5 ≤ x4 → Runs X mX8_doubt 54 [(1, vi x1), (2, vi x2), (3, vi x3), (4, vi x4), (5, vi x5), (6, vi x6)] [] M P) (k2 : x4 < x5 → Runs X mX8_doubt 50 [] [] M P) : Runs X mX8_doubt 43 [(1, vi x1), (2, vi x2), (3, vi x3), (4, vi x4), (5, vi x5), (6, vi x6)] [] M P := by
  refine Runs.iload (j := 4) dX8_doubt_43 rfl ?_
  refine Runs.iload (j := 3) dX8_doubt_45 rfl ?_
  refine Runs.icmp_le (tgt := 54) dX8_doubt_47 (by decide) (fun h => ?_) (fun h => ?_)
  · exact k1 h
  · refine Runs.picks (loc' := []) [] rfl ?_
    exact k2 h
theorem kX8_doubt_50 {X : Scr} {M : Mem} {P : Option AV → Mem → Prop} (k : P (some (vl (-2 : Int))) M) : Runs X mX8_doubt 50 [] [] M P := by
  refine Runs.ldc2 (z := -2) dX8_doubt_50 w3_27 (by decide) (by decide) ?_
  exact Runs.retl dX8_doubt_53 rfl k
theorem kX8_doubt_54 {X : Scr} {M : Mem} {P Q : Option AV → Mem → Prop} {x1 x2 x3 x4 x5 x6 : Int} (hC : Call X mX8_power [vl x2, vi x5] M Q) (k : ∀ (z : Int) (M1 : Mem), Q (some (vl z)) M1 → Runs X mX8_doubt 63 [(1, vi x1), (2, vi x2), (3, vi x3), (4, vi x4), (5, vi x5), (6, vi x6)] [vl z, vl x1] M1 P) : Runs X mX8_doubt 54 [(1, vi x1), (2, vi x2), (3, vi x3), (4, vi x4), (5, vi x5), (6, vi x6)] [] M P := by
  refine Runs.iload_n (j := 0) dX8_doubt_54 rfl ?_
  refine Runs.i2l dX8_doubt_55 ?_
  refine Runs.iload_n (j := 1) dX8_doubt_56 rfl ?_
  refine Runs.i2l dX8_doubt_57 ?_
  refine Runs.iload (j := 4) dX8_doubt_58 rfl ?_
  refine Runs.callSl (y := mX8_power) (n := 2) (as := [vl x2, vi x5]) (st := [vl x1]) dX8_doubt_60 oc_X8_power sm_X8_power ml_X8_235 rfl ⟨(Nat.le_of_ble_eq_true rfl), (Nat.le_of_ble_eq_true rfl)⟩ (Nat.le_of_ble_eq_true rfl) (Nat.le_of_ble_eq_true rfl) rfl hC (fun z M1 hQ => ?_)
  exact k z M1 hQ
theorem kX8_doubt_63 {X : Scr} {M : Mem} {P Q : Option AV → Mem → Prop} {x1 x2 x3 x4 x5 x6 xs0 xs1 : Int} (hC : Call X mX8_power [vl ((10 : Int) - x2), vi (x4 - x5)] M Q) (k : ∀ (z : Int) (M1 : Mem), Q (some (vl z)) M1 → Runs X mX8_doubt 77 [(1, vi x1), (3, vi x3), (4, vi x4), (5, vi x5), (6, vi x6)] [vl z, vl (xs0 * xs1)] M1 P) (h1 : -9223372036854775808 ≤ (xs0 * xs1) ∧ (xs0 * xs1) ≤ 9223372036854775807 := by omega) (h2 : -2147483648 ≤ ((10 : Int) - x2) ∧ ((10 : Int) - x2) ≤ 2147483647 := by omega) (h3 : -2147483648 ≤ (x4 - x5) ∧ (x4 - x5) ≤ 2147483647 := by omega) : Runs X mX8_doubt 63 [(1, vi x1), (2, vi x2), (3, vi x3), (4, vi x4), (5, vi x5), (6, vi x6)] [vl xs1, vl xs0] M P := by
  refine Runs.lmul dX8_doubt_63 h1 ?_
  refine Runs.bipush dX8_doubt_64 (by decide) (by decide) ?_
  refine Runs.iload_n (j := 1) dX8_doubt_66 rfl ?_
  refine Runs.isub dX8_doubt_67 h2 ?_
  refine Runs.i2l dX8_doubt_68 ?_
  refine Runs.iload (j := 3) dX8_doubt_69 rfl ?_
  refine Runs.iload (j := 4) dX8_doubt_71 rfl ?_
  refine Runs.isub dX8_doubt_73 h3 ?_
  refine Runs.callSl (y := mX8_power) (n := 2) (as := [vl ((10 : Int) - x2), vi (x4 - x5)]) (st := [vl (xs0 * xs1)]) dX8_doubt_74 oc_X8_power sm_X8_power ml_X8_235 rfl ⟨(Nat.le_of_ble_eq_true rfl), (Nat.le_of_ble_eq_true rfl)⟩ (Nat.le_of_ble_eq_true rfl) (Nat.le_of_ble_eq_true rfl) rfl hC (fun z M1 hQ => ?_)
  refine Runs.picks (loc' := [(1, vi x1), (3, vi x3), (4, vi x4), (5, vi x5), (6, vi x6)]) [0, 2, 3, 4, 5] rfl ?_
  exact k z M1 hQ
theorem kX8_doubt_77 {X : Scr} {M : Mem} {P Q : Option AV → Mem → Prop} {x1 x3 x4 x5 x6 xs0 xs1 : Int} (hC : Call X mX8_power [vl x3, vi x5] M Q) (k : ∀ (z : Int) (M1 : Mem), Q (some (vl z)) M1 → Runs X mX8_doubt 92 [(3, vi x3), (4, vi x4), (5, vi x5), (6, vi x6), (7, vl (xs0 * xs1))] [vl z, vl ((10 : Int) - x1)] M1 P) (h1 : -9223372036854775808 ≤ (xs0 * xs1) ∧ (xs0 * xs1) ≤ 9223372036854775807 := by omega) (h2 : -2147483648 ≤ ((10 : Int) - x1) ∧ ((10 : Int) - x1) ≤ 2147483647 := by omega) : Runs X mX8_doubt 77 [(1, vi x1), (3, vi x3), (4, vi x4), (5, vi x5), (6, vi x6)] [vl xs1, vl xs0] M P := by
  refine Runs.lmul dX8_doubt_77 h1 ?_
  refine Runs.lstore (loc' := [(1, vi x1), (3, vi x3), (4, vi x4), (5, vi x5), (6, vi x6), (7, vl (xs0 * xs1))]) dX8_doubt_78 (by decide) rfl ?_
  refine Runs.bipush dX8_doubt_80 (by decide) (by decide) ?_
  refine Runs.iload_n (j := 0) dX8_doubt_82 rfl ?_
  refine Runs.isub dX8_doubt_83 h2 ?_
  refine Runs.i2l dX8_doubt_84 ?_
  refine Runs.iload_n (j := 1) dX8_doubt_85 rfl ?_
  refine Runs.i2l dX8_doubt_86 ?_
  refine Runs.iload (j := 3) dX8_doubt_87 rfl ?_
  refine Runs.callSl (y := mX8_power) (n := 2) (as := [vl x3, vi x5]) (st := [vl ((10 : Int) - x1)]) dX8_doubt_89 oc_X8_power sm_X8_power ml_X8_235 rfl ⟨(Nat.le_of_ble_eq_true rfl), (Nat.le_of_ble_eq_true rfl)⟩ (Nat.le_of_ble_eq_true rfl) (Nat.le_of_ble_eq_true rfl) rfl hC (fun z M1 hQ => ?_)
  refine Runs.picks (loc' := [(3, vi x3), (4, vi x4), (5, vi x5), (6, vi x6), (7, vl (xs0 * xs1))]) [1, 2, 3, 4, 5] rfl ?_
  exact k z M1 hQ
theorem kX8_doubt_92 {X : Scr} {M : Mem} {P Q : Option AV → Mem → Prop} {x3 x4 x5 x6 x7 xs0 xs1 : Int} (hC : Call X mX8_power [vl ((10 : Int) - x3), vi (x4 - x5)] M Q) (k : ∀ (z : Int) (M1 : Mem), Q (some (vl z)) M1 → Runs X mX8_doubt 106 [(6, vi x6), (7, vl x7)] [vl z, vl (xs0 * xs1)] M1 P) (h1 : -9223372036854775808 ≤ (xs0 * xs1) ∧ (xs0 * xs1) ≤ 9223372036854775807 := by omega) (h2 : -2147483648 ≤ ((10 : Int) - x3) ∧ ((10 : Int) - x3) ≤ 2147483647 := by omega) (h3 : -2147483648 ≤ (x4 - x5) ∧ (x4 - x5) ≤ 2147483647 := by omega) : Runs X mX8_doubt 92 [(3, vi x3), (4, vi x4), (5, vi x5), (6, vi x6), (7, vl x7)] [vl xs1, vl xs0] M P := by
  refine Runs.lmul dX8_doubt_92 h1 ?_
  refine Runs.bipush dX8_doubt_93 (by decide) (by decide) ?_
  refine Runs.iload_n (j := 0) dX8_doubt_95 rfl ?_
  refine Runs.isub dX8_doubt_96 h2 ?_
  refine Runs.i2l dX8_doubt_97 ?_
  refine Runs.iload (j := 1) dX8_doubt_98 rfl ?_
  refine Runs.iload (j := 2) dX8_doubt_100 rfl ?_
  refine Runs.isub dX8_doubt_102 h3 ?_
  refine Runs.callSl (y := mX8_power) (n := 2) (as := [vl ((10 : Int) - x3), vi (x4 - x5)]) (st := [vl (xs0 * xs1)]) dX8_doubt_103 oc_X8_power sm_X8_power ml_X8_235 rfl ⟨(Nat.le_of_ble_eq_true rfl), (Nat.le_of_ble_eq_true rfl)⟩ (Nat.le_of_ble_eq_true rfl) (Nat.le_of_ble_eq_true rfl) rfl hC (fun z M1 hQ => ?_)
  refine Runs.picks (loc' := [(6, vi x6), (7, vl x7)]) [3, 4] rfl ?_
  exact k z M1 hQ
theorem kX8_doubt_106 {X : Scr} {M : Mem} {P : Option AV → Mem → Prop} {x6 x7 xs0 xs1 : Int} (k1 : (0 : Int) < (x7 + (xs0 * xs1)) → Runs X mX8_doubt 123 [(6, vi x6), (7, vl x7), (9, vl (xs0 * xs1))] [] M P) (k2 : (x7 + (xs0 * xs1)) ≤ (0 : Int) → Runs X mX8_doubt 119 [] [] M P) (h1 : -9223372036854775808 ≤ (xs0 * xs1) ∧ (xs0 * xs1) ≤ 9223372036854775807 := by omega) (h2 : -9223372036854775808 ≤ (x7 + (xs0 * xs1)) ∧ (x7 + (xs0 * xs1)) ≤ 9223372036854775807 := by omega) : Runs X mX8_doubt 106 [(6, vi x6), (7, vl x7)] [vl xs1, vl xs0] M P := by
  refine Runs.lmul dX8_doubt_106 h1 ?_
  refine Runs.lstore (loc' := [(6, vi x6), (7, vl x7), (9, vl (xs0 * xs1))]) dX8_doubt_107 (by decide) rfl ?_
  refine Runs.lload (j := 1) dX8_doubt_109 rfl ?_
  refine Runs.lload (j := 2) dX8_doubt_111 rfl ?_
  refine Runs.ladd dX8_doubt_113 h2 ?_
  refine Runs.lconst (z := 0) dX8_doubt_114 rfl (by decide) ?_
  refine Runs.lcmp_gt (tgt := 123) dX8_doubt_115 dX8_doubt_116 (by decide) (fun h => ?_) (fun h => ?_)
  · exact k1 h
  · refine Runs.picks (loc' := []) [] rfl ?_
    exact k2 h
theorem kX8_doubt_119 {X : Scr} {M : Mem} {P : Option AV → Mem → Prop} (k : P (some (vl (-3 : Int))) M) : Runs X mX8_doubt 119 [] [] M P := by
  refine Runs.ldc2 (z := -3) dX8_doubt_119 w3_31 (by decide) (by decide) ?_
  exact Runs.retl dX8_doubt_122 rfl k
theorem kX8_doubt_123 {X : Scr} {M : Mem} {P Q : Option AV → Mem → Prop} {x6 x7 x9 : Int} (hC : Call X mX8_ofFraction [vl x7, vl (x7 + x9), vi x6] M Q) (k : ∀ (z : Int) (M1 : Mem), Q (some (vl z)) M1 → Runs X mX8_doubt 135 [] [vl z] M1 P) (h1 : -9223372036854775808 ≤ (x7 + x9) ∧ (x7 + x9) ≤ 9223372036854775807 := by omega) : Runs X mX8_doubt 123 [(6, vi x6), (7, vl x7), (9, vl x9)] [] M P := by
  refine Runs.lload (j := 1) dX8_doubt_123 rfl ?_
  refine Runs.lload (j := 1) dX8_doubt_125 rfl ?_
  refine Runs.lload (j := 2) dX8_doubt_127 rfl ?_
  refine Runs.ladd dX8_doubt_129 h1 ?_
  refine Runs.iload (j := 0) dX8_doubt_130 rfl ?_
  refine Runs.callSl (y := mX8_ofFraction) (n := 3) (as := [vl x7, vl (x7 + x9), vi x6]) (st := []) dX8_doubt_132 oc_X8_ofFraction sm_X8_ofFraction ml_X8_241 rfl ⟨(Nat.le_of_ble_eq_true rfl), (Nat.le_of_ble_eq_true rfl)⟩ (Nat.le_of_ble_eq_true rfl) (Nat.le_of_ble_eq_true rfl) rfl hC (fun z M1 hQ => ?_)
  refine Runs.picks (loc' := []) [] rfl ?_
  exact k z M1 hQ
theorem kX8_doubt_135 {X : Scr} {M : Mem} {P : Option AV → Mem → Prop} {xs0 : Int} (k : P (some (vl xs0)) M) : Runs X mX8_doubt 135 [] [vl xs0] M P := by
  exact Runs.retl dX8_doubt_135 rfl k
theorem kX8_among_0 {X : Scr} {M : Mem} {P : Option AV → Mem → Prop} {x1 x2 x3 x4 : Int} (k1 : x1 < (1 : Int) → Runs X mX8_among 27 [] [] M P) (k2 : (1 : Int) ≤ x1 → Runs X mX8_among 5 [(1, vi x1), (2, vi x2), (3, vi x3), (4, vi x4)] [] M P) : Runs X mX8_among 0 [(1, vi x1), (2, vi x2), (3, vi x3), (4, vi x4)] [] M P := by
  refine Runs.iload_n (j := 0) dX8_among_0 rfl ?_
  refine Runs.iconst dX8_among_1 (by decide) ?_
  refine Runs.icmp_lt (tgt := 27) dX8_among_2 (by decide) (fun h => ?_) (fun h => ?_)
  · refine Runs.picks (loc' := []) [] rfl ?_
    exact k1 h
  · exact k2 h
theorem kX8_among_5 {X : Scr} {M : Mem} {P : Option AV → Mem → Prop} {x1 x2 x3 x4 : Int} (k1 : (10 : Int) < x1 → Runs X mX8_among 27 [] [] M P) (k2 : x1 ≤ (10 : Int) → Runs X mX8_among 11 [(1, vi x1), (2, vi x2), (3, vi x3), (4, vi x4)] [] M P) : Runs X mX8_among 5 [(1, vi x1), (2, vi x2), (3, vi x3), (4, vi x4)] [] M P := by
  refine Runs.iload_n (j := 0) dX8_among_5 rfl ?_
  refine Runs.bipush dX8_among_6 (by decide) (by decide) ?_
  refine Runs.icmp_gt (tgt := 27) dX8_among_8 (by decide) (fun h => ?_) (fun h => ?_)
  · refine Runs.picks (loc' := []) [] rfl ?_
    exact k1 h
  · exact k2 h
theorem kX8_among_11 {X : Scr} {M : Mem} {P Q : Option AV → Mem → Prop} {x1 x2 x3 x4 : Int} (hC : Call X mX8_isTenths [vi x2] M Q) (k : ∀ (z : Int) (M1 : Mem), Q (some (vi z)) M1 → Runs X mX8_among 15 [(1, vi x1), (2, vi x2), (3, vi x3), (4, vi x4)] [vi z] M1 P) : Runs X mX8_among 11 [(1, vi x1), (2, vi x2), (3, vi x3), (4, vi x4)] [] M P := by
  refine Runs.iload_n (j := 1) dX8_among_11 rfl ?_
  refine Runs.callSi (y := mX8_isTenths) (n := 1) (as := [vi x2]) (st := []) dX8_among_12 oc_X8_isTenths sm_X8_isTenths ml_X8_230 rfl ⟨(Nat.le_of_ble_eq_true rfl), (Nat.le_of_ble_eq_true rfl)⟩ (Nat.le_of_ble_eq_true rfl) (Nat.le_of_ble_eq_true rfl) (Or.inr rfl) hC (fun z M1 hQ => ?_)
  exact k z M1 hQ
theorem kX8_among_15 {X : Scr} {M : Mem} {P : Option AV → Mem → Prop} {x1 x2 x3 x4 xs0 : Int} (k1 : xs0 = 0 → Runs X mX8_among 27 [] [] M P) (k2 : xs0 ≠ 0 → Runs X mX8_among 18 [(1, vi x1), (2, vi x2), (3, vi x3), (4, vi x4)] [] M P) : Runs X mX8_among 15 [(1, vi x1), (2, vi x2), (3, vi x3), (4, vi x4)] [vi xs0] M P := by
  refine Runs.if_eq (tgt := 27) dX8_among_15 (by decide) (fun h => ?_) (fun h => ?_)
  · refine Runs.picks (loc' := []) [] rfl ?_
    exact k1 h
  · exact k2 h
theorem kX8_among_18 {X : Scr} {M : Mem} {P : Option AV → Mem → Prop} {x1 x2 x3 x4 : Int} (k1 : x3 < 0 → Runs X mX8_among 27 [] [] M P) (k2 : 0 ≤ x3 → Runs X mX8_among 22 [(1, vi x1), (2, vi x2), (3, vi x3), (4, vi x4)] [] M P) : Runs X mX8_among 18 [(1, vi x1), (2, vi x2), (3, vi x3), (4, vi x4)] [] M P := by
  refine Runs.iload_n (j := 2) dX8_among_18 rfl ?_
  refine Runs.if_lt (tgt := 27) dX8_among_19 (by decide) (fun h => ?_) (fun h => ?_)
  · refine Runs.picks (loc' := []) [] rfl ?_
    exact k1 h
  · exact k2 h
theorem kX8_among_22 {X : Scr} {M : Mem} {P : Option AV → Mem → Prop} {x1 x2 x3 x4 : Int} (k1 : x3 ≤ x1 → Runs X mX8_among 31 [(1, vi x1), (2, vi x2), (3, vi x3), (4, vi x4)] [] M P) (k2 : x1 < x3 → Runs X mX8_among 27 [] [] M P) : Runs X mX8_among 22 [(1, vi x1), (2, vi x2), (3, vi x3), (4, vi x4)] [] M P := by
  refine Runs.iload_n (j := 2) dX8_among_22 rfl ?_
  refine Runs.iload_n (j := 0) dX8_among_23 rfl ?_
  refine Runs.icmp_le (tgt := 31) dX8_among_24 (by decide) (fun h => ?_) (fun h => ?_)
  · exact k1 h
  · refine Runs.picks (loc' := []) [] rfl ?_
    exact k2 h
theorem kX8_among_27 {X : Scr} {M : Mem} {P : Option AV → Mem → Prop} (k : P (some (vl (-2 : Int))) M) : Runs X mX8_among 27 [] [] M P := by
  refine Runs.ldc2 (z := -2) dX8_among_27 w3_27 (by decide) (by decide) ?_
  exact Runs.retl dX8_among_30 rfl k
theorem kX8_among_31 {X : Scr} {M : Mem} {P : Option AV → Mem → Prop} {x1 x2 x3 x4 : Int} (k : Runs X mX8_among 40 [(1, vi x1), (2, vi x2), (3, vi x3), (4, vi x4), (5, vl (1 : Int)), (7, vl (0 : Int)), (9, vi (0 : Int))] [] M P) : Runs X mX8_among 31 [(1, vi x1), (2, vi x2), (3, vi x3), (4, vi x4)] [] M P := by
  refine Runs.lconst (z := 1) dX8_among_31 rfl (by decide) ?_
  refine Runs.lstore (loc' := [(1, vi x1), (2, vi x2), (3, vi x3), (4, vi x4), (5, vl (1 : Int))]) dX8_among_32 (by decide) rfl ?_
  refine Runs.lconst (z := 0) dX8_among_34 rfl (by decide) ?_
  refine Runs.lstore (loc' := [(1, vi x1), (2, vi x2), (3, vi x3), (4, vi x4), (5, vl (1 : Int)), (7, vl (0 : Int))]) dX8_among_35 (by decide) rfl ?_
  refine Runs.iconst dX8_among_37 (by decide) ?_
  refine Runs.istore (loc' := [(1, vi x1), (2, vi x2), (3, vi x3), (4, vi x4), (5, vl (1 : Int)), (7, vl (0 : Int)), (9, vi (0 : Int))]) dX8_among_38 (by decide) rfl ?_
  exact k
theorem kX8_among_40 {X : Scr} {M : Mem} {P : Option AV → Mem → Prop} {x1 x2 x3 x4 x5 x7 x9 : Int} (k1 : x1 < x9 → Runs X mX8_among 102 [(1, vi x1), (4, vi x4), (7, vl x7)] [] M P) (k2 : x9 ≤ x1 → Runs X mX8_among 46 [(1, vi x1), (2, vi x2), (3, vi x3), (4, vi x4), (5, vl x5), (7, vl x7), (9, vi x9)] [] M P) : Runs X mX8_among 40 [(1, vi x1), (2, vi x2), (3, vi x3), (4, vi x4), (5, vl x5), (7, vl x7), (9, vi x9)] [] M P := by
  refine Runs.iload (j := 6) dX8_among_40 rfl ?_
  refine Runs.iload_n (j := 0) dX8_among_42 rfl ?_
  refine Runs.icmp_gt (tgt := 102) dX8_among_43 (by decide) (fun h => ?_) (fun h => ?_)
  · refine Runs.picks (loc' := [(1, vi x1), (4, vi x4), (7, vl x7)]) [0, 3, 5] rfl ?_
    exact k1 h
  · exact k2 h
theorem kX8_among_46 {X : Scr} {M : Mem} {P : Option AV → Mem → Prop} {x1 x2 x3 x4 x5 x7 x9 : Int} (k1 : x9 < x3 → Runs X mX8_among 80 [(1, vi x1), (2, vi x2), (3, vi x3), (4, vi x4), (5, vl x5), (7, vl x7), (9, vi x9)] [] M P) (k2 : x3 ≤ x9 → Runs X mX8_among 52 [(1, vi x1), (2, vi x2), (3, vi x3), (4, vi x4), (5, vl x5), (7, vl x7), (9, vi x9)] [] M P) : Runs X mX8_among 46 [(1, vi x1), (2, vi x2), (3, vi x3), (4, vi x4), (5, vl x5), (7, vl x7), (9, vi x9)] [] M P := by
  refine Runs.iload (j := 6) dX8_among_46 rfl ?_
  refine Runs.iload_n (j := 2) dX8_among_48 rfl ?_
  refine Runs.icmp_lt (tgt := 80) dX8_among_49 (by decide) (fun h => ?_) (fun h => ?_)
  · exact k1 h
  · exact k2 h
theorem kX8_among_52 {X : Scr} {M : Mem} {P Q : Option AV → Mem → Prop} {x1 x2 x3 x4 x5 x7 x9 : Int} (hC : Call X mX8_power [vl x2, vi x9] M Q) (k : ∀ (z : Int) (M1 : Mem), Q (some (vl z)) M1 → Runs X mX8_among 63 [(1, vi x1), (2, vi x2), (3, vi x3), (4, vi x4), (5, vl x5), (9, vi x9)] [vl z, vl x5, vl x7] M1 P) : Runs X mX8_among 52 [(1, vi x1), (2, vi x2), (3, vi x3), (4, vi x4), (5, vl x5), (7, vl x7), (9, vi x9)] [] M P := by
  refine Runs.lload (j := 5) dX8_among_52 rfl ?_
  refine Runs.lload (j := 4) dX8_among_54 rfl ?_
  refine Runs.iload_n (j := 1) dX8_among_56 rfl ?_
  refine Runs.i2l dX8_among_57 ?_
  refine Runs.iload (j := 6) dX8_among_58 rfl ?_
  refine Runs.callSl (y := mX8_power) (n := 2) (as := [vl x2, vi x9]) (st := [vl x5, vl x7]) dX8_among_60 oc_X8_power sm_X8_power ml_X8_235 rfl ⟨(Nat.le_of_ble_eq_true rfl), (Nat.le_of_ble_eq_true rfl)⟩ (Nat.le_of_ble_eq_true rfl) (Nat.le_of_ble_eq_true rfl) rfl hC (fun z M1 hQ => ?_)
  refine Runs.picks (loc' := [(1, vi x1), (2, vi x2), (3, vi x3), (4, vi x4), (5, vl x5), (9, vi x9)]) [0, 1, 2, 3, 4, 6] rfl ?_
  exact k z M1 hQ
theorem kX8_among_63 {X : Scr} {M : Mem} {P Q : Option AV → Mem → Prop} {x1 x2 x3 x4 x5 x9 xs0 xs1 xs2 : Int} (hC : Call X mX8_power [vl ((10 : Int) - x2), vi (x1 - x9)] M Q) (k : ∀ (z : Int) (M1 : Mem), Q (some (vl z)) M1 → Runs X mX8_among 76 [(1, vi x1), (2, vi x2), (3, vi x3), (4, vi x4), (5, vl x5), (9, vi x9)] [vl z, vl (xs1 * xs2), vl xs0] M1 P) (h1 : -9223372036854775808 ≤ (xs1 * xs2) ∧ (xs1 * xs2) ≤ 9223372036854775807 := by omega) (h2 : -2147483648 ≤ ((10 : Int) - x2) ∧ ((10 : Int) - x2) ≤ 2147483647 := by omega) (h3 : -2147483648 ≤ (x1 - x9) ∧ (x1 - x9) ≤ 2147483647 := by omega) : Runs X mX8_among 63 [(1, vi x1), (2, vi x2), (3, vi x3), (4, vi x4), (5, vl x5), (9, vi x9)] [vl xs2, vl xs1, vl xs0] M P := by
  refine Runs.lmul dX8_among_63 h1 ?_
  refine Runs.bipush dX8_among_64 (by decide) (by decide) ?_
  refine Runs.iload_n (j := 1) dX8_among_66 rfl ?_
  refine Runs.isub dX8_among_67 h2 ?_
  refine Runs.i2l dX8_among_68 ?_
  refine Runs.iload_n (j := 0) dX8_among_69 rfl ?_
  refine Runs.iload (j := 5) dX8_among_70 rfl ?_
  refine Runs.isub dX8_among_72 h3 ?_
  refine Runs.callSl (y := mX8_power) (n := 2) (as := [vl ((10 : Int) - x2), vi (x1 - x9)]) (st := [vl (xs1 * xs2), vl xs0]) dX8_among_73 oc_X8_power sm_X8_power ml_X8_235 rfl ⟨(Nat.le_of_ble_eq_true rfl), (Nat.le_of_ble_eq_true rfl)⟩ (Nat.le_of_ble_eq_true rfl) (Nat.le_of_ble_eq_true rfl) rfl hC (fun z M1 hQ => ?_)
  exact k z M1 hQ
theorem kX8_among_76 {X : Scr} {M : Mem} {P : Option AV → Mem → Prop} {x1 x2 x3 x4 x5 x9 xs0 xs1 xs2 : Int} (k : Runs X mX8_among 80 [(1, vi x1), (2, vi x2), (3, vi x3), (4, vi x4), (5, vl x5), (7, vl (xs0 + (xs1 * xs2))), (9, vi x9)] [] M P) (h1 : -9223372036854775808 ≤ (xs1 * xs2) ∧ (xs1 * xs2) ≤ 9223372036854775807 := by omega) (h2 : -9223372036854775808 ≤ (xs0 + (xs1 * xs2)) ∧ (xs0 + (xs1 * xs2)) ≤ 9223372036854775807 := by omega) : Runs X mX8_among 76 [(1, vi x1), (2, vi x2), (3, vi x3), (4, vi x4), (5, vl x5), (9, vi x9)] [vl xs2, vl xs1, vl xs0] M P := by
  refine Runs.lmul dX8_among_76 h1 ?_
  refine Runs.ladd dX8_among_77 h2 ?_
  refine Runs.lstore (loc' := [(1, vi x1), (2, vi x2), (3, vi x3), (4, vi x4), (5, vl x5), (7, vl (xs0 + (xs1 * xs2))), (9, vi x9)]) dX8_among_78 (by decide) rfl ?_
  exact k
theorem kX8_among_80 {X : Scr} {M : Mem} {P : Option AV → Mem → Prop} {x1 x2 x3 x4 x5 x7 x9 : Int} (k : Runs X mX8_among 40 [(1, vi x1), (2, vi x2), (3, vi x3), (4, vi x4), (5, vl ((x5 * (x1 - x9)) / (x9 + (1 : Int)))), (7, vl x7), (9, vi (x9 + (1 : Int)))] [] M P) (h1 : -2147483648 ≤ (x1 - x9) ∧ (x1 - x9) ≤ 2147483647 := by omega) (h2 : -9223372036854775808 ≤ (x5 * (x1 - x9)) ∧ (x5 * (x1 - x9)) ≤ 9223372036854775807 := by omega) (h3 : -2147483648 ≤ (x9 + (1 : Int)) ∧ (x9 + (1 : Int)) ≤ 2147483647 := by omega) (h4 : 0 ≤ (x5 * (x1 - x9)) := by omega) (h5 : 0 < (x9 + (1 : Int)) := by omega) : Runs X mX8_among 80 [(1, vi x1), (2, vi x2), (3, vi x3), (4, vi x4), (5, vl x5), (7, vl x7), (9, vi x9)] [] M P := by
  refine Runs.lload (j := 4) dX8_among_80 rfl ?_
  refine Runs.iload_n (j := 0) dX8_among_82 rfl ?_
  refine Runs.iload (j := 6) dX8_among_83 rfl ?_
  refine Runs.isub dX8_among_85 h1 ?_
  refine Runs.i2l dX8_among_86 ?_
  refine Runs.lmul dX8_among_87 h2 ?_
  refine Runs.iload (j := 6) dX8_among_88 rfl ?_
  refine Runs.iconst dX8_among_90 (by decide) ?_
  refine Runs.iadd dX8_among_91 h3 ?_
  refine Runs.i2l dX8_among_92 ?_
  refine Runs.ldiv dX8_among_93 h4 h5 ?_
  refine Runs.lstore (loc' := [(1, vi x1), (2, vi x2), (3, vi x3), (4, vi x4), (5, vl ((x5 * (x1 - x9)) / (x9 + (1 : Int)))), (7, vl x7), (9, vi x9)]) dX8_among_94 (by decide) rfl ?_
  refine Runs.iinc (k := 6) (loc' := [(1, vi x1), (2, vi x2), (3, vi x3), (4, vi x4), (5, vl ((x5 * (x1 - x9)) / (x9 + (1 : Int)))), (7, vl x7), (9, vi (x9 + (1 : Int)))]) dX8_among_96 rfl h3 (by decide) rfl ?_
  refine Runs.goto (tgt := 40) dX8_among_99 (by decide) ?_
  exact k
theorem kX8_among_102 {X : Scr} {M : Mem} {P Q : Option AV → Mem → Prop} {x1 x4 x7 : Int} (hC : Call X mX8_power [vl (10 : Int), vi x1] M Q) (k : ∀ (z : Int) (M1 : Mem), Q (some (vl z)) M1 → Runs X mX8_among 111 [(4, vi x4)] [vl z, vl x7] M1 P) : Runs X mX8_among 102 [(1, vi x1), (4, vi x4), (7, vl x7)] [] M P := by
  refine Runs.lload (j := 2) dX8_among_102 rfl ?_
  refine Runs.ldc2 (z := 10) dX8_among_104 w3_42 (by decide) (by decide) ?_
  refine Runs.iload_n (j := 0) dX8_among_107 rfl ?_
  refine Runs.callSl (y := mX8_power) (n := 2) (as := [vl (10 : Int), vi x1]) (st := [vl x7]) dX8_among_108 oc_X8_power sm_X8_power ml_X8_235 rfl ⟨(Nat.le_of_ble_eq_true rfl), (Nat.le_of_ble_eq_true rfl)⟩ (Nat.le_of_ble_eq_true rfl) (Nat.le_of_ble_eq_true rfl) rfl hC (fun z M1 hQ => ?_)
  refine Runs.picks (loc' := [(4, vi x4)]) [1] rfl ?_
  exact k z M1 hQ
theorem kX8_among_111 {X : Scr} {M : Mem} {P Q : Option AV → Mem → Prop} {x4 xs0 xs1 : Int} (hC : Call X mX8_ofFraction [vl xs0, vl xs1, vi x4] M Q) (k : ∀ (z : Int) (M1 : Mem), Q (some (vl z)) M1 → Runs X mX8_among 116 [] [vl z] M1 P) : Runs X mX8_among 111 [(4, vi x4)] [vl xs1, vl xs0] M P := by
  refine Runs.iload (j := 0) dX8_among_111 rfl ?_
  refine Runs.callSl (y := mX8_ofFraction) (n := 3) (as := [vl xs0, vl xs1, vi x4]) (st := []) dX8_among_113 oc_X8_ofFraction sm_X8_ofFraction ml_X8_241 rfl ⟨(Nat.le_of_ble_eq_true rfl), (Nat.le_of_ble_eq_true rfl)⟩ (Nat.le_of_ble_eq_true rfl) (Nat.le_of_ble_eq_true rfl) rfl hC (fun z M1 hQ => ?_)
  refine Runs.picks (loc' := []) [] rfl ?_
  exact k z M1 hQ
theorem kX8_among_116 {X : Scr} {M : Mem} {P : Option AV → Mem → Prop} {xs0 : Int} (k : P (some (vl xs0)) M) : Runs X mX8_among 116 [] [vl xs0] M P := by
  exact Runs.retl dX8_among_116 rfl k
theorem kX8_rate_0 {X : Scr} {M : Mem} {P Q : Option AV → Mem → Prop} {x1 x2 x3 x4 : Int} (hC : Call X mX8_isMoney [vi x1] M Q) (k : ∀ (z : Int) (M1 : Mem), Q (some (vi z)) M1 → Runs X mX8_rate 4 [(0, vr 0), (1, vi x1), (2, vi x2), (3, vi x3), (4, vi x4)] [vi z] M1 P) : Runs X mX8_rate 0 [(0, vr 0), (1, vi x1), (2, vi x2), (3, vi x3), (4, vi x4)] [] M P := by
  refine Runs.iload_n (j := 1) dX8_rate_0 rfl ?_
  refine Runs.callSi (y := mX8_isMoney) (n := 1) (as := [vi x1]) (st := []) dX8_rate_1 oc_X8_isMoney sm_X8_isMoney ml_X8_247 rfl ⟨(Nat.le_of_ble_eq_true rfl), (Nat.le_of_ble_eq_true rfl)⟩ (Nat.le_of_ble_eq_true rfl) (Nat.le_of_ble_eq_true rfl) (Or.inr rfl) hC (fun z M1 hQ => ?_)
  exact k z M1 hQ
theorem kX8_rate_4 {X : Scr} {M : Mem} {P : Option AV → Mem → Prop} {x1 x2 x3 x4 xs0 : Int} (k1 : xs0 = 0 → Runs X mX8_rate 14 [] [] M P) (k2 : xs0 ≠ 0 → Runs X mX8_rate 7 [(0, vr 0), (1, vi x1), (2, vi x2), (3, vi x3), (4, vi x4)] [] M P) : Runs X mX8_rate 4 [(0, vr 0), (1, vi x1), (2, vi x2), (3, vi x3), (4, vi x4)] [vi xs0] M P := by
  refine Runs.if_eq (tgt := 14) dX8_rate_4 (by decide) (fun h => ?_) (fun h => ?_)
  · refine Runs.picks (loc' := []) [] rfl ?_
    exact k1 h
  · exact k2 h
theorem kX8_rate_7 {X : Scr} {M : Mem} {P Q : Option AV → Mem → Prop} {x1 x2 x3 x4 : Int} (hC : Call X mX8_isMoney [vi x2] M Q) (k : ∀ (z : Int) (M1 : Mem), Q (some (vi z)) M1 → Runs X mX8_rate 11 [(0, vr 0), (1, vi x1), (2, vi x2), (3, vi x3), (4, vi x4)] [vi z] M1 P) : Runs X mX8_rate 7 [(0, vr 0), (1, vi x1), (2, vi x2), (3, vi x3), (4, vi x4)] [] M P := by
  refine Runs.iload_n (j := 2) dX8_rate_7 rfl ?_
  refine Runs.callSi (y := mX8_isMoney) (n := 1) (as := [vi x2]) (st := []) dX8_rate_8 oc_X8_isMoney sm_X8_isMoney ml_X8_247 rfl ⟨(Nat.le_of_ble_eq_true rfl), (Nat.le_of_ble_eq_true rfl)⟩ (Nat.le_of_ble_eq_true rfl) (Nat.le_of_ble_eq_true rfl) (Or.inr rfl) hC (fun z M1 hQ => ?_)
  exact k z M1 hQ
theorem kX8_rate_11 {X : Scr} {M : Mem} {P : Option AV → Mem → Prop} {x1 x2 x3 x4 xs0 : Int} (k1 : xs0 ≠ 0 → Runs X mX8_rate 16 [(0, vr 0), (1, vi x1), (2, vi x2), (3, vi x3), (4, vi x4)] [] M P) (k2 : xs0 = 0 → Runs X mX8_rate 14 [] [] M P) : Runs X mX8_rate 11 [(0, vr 0), (1, vi x1), (2, vi x2), (3, vi x3), (4, vi x4)] [vi xs0] M P := by
  refine Runs.if_ne (tgt := 16) dX8_rate_11 (by decide) (fun h => ?_) (fun h => ?_)
  · exact k1 h
  · refine Runs.picks (loc' := []) [] rfl ?_
    exact k2 h
theorem kX8_rate_14 {X : Scr} {M : Mem} {P : Option AV → Mem → Prop} (k : P (some (vi (-1 : Int))) M) : Runs X mX8_rate 14 [] [] M P := by
  refine Runs.iconst dX8_rate_14 (by decide) ?_
  exact Runs.reti dX8_rate_15 rfl k
theorem kX8_rate_16 {X : Scr} {M : Mem} {P : Option AV → Mem → Prop} {x1 x2 x3 x4 : Int} (k1 : x1 = x2 → Runs X mX8_rate 45 [] [] M P) (k2 : x1 ≠ x2 → Runs X mX8_rate 21 [(0, vr 0), (1, vi x1), (2, vi x2), (3, vi x3), (4, vi x4)] [] M P) : Runs X mX8_rate 16 [(0, vr 0), (1, vi x1), (2, vi x2), (3, vi x3), (4, vi x4)] [] M P := by
  refine Runs.iload_n (j := 1) dX8_rate_16 rfl ?_
  refine Runs.iload_n (j := 2) dX8_rate_17 rfl ?_
  refine Runs.icmp_eq (tgt := 45) dX8_rate_18 (by decide) (fun h => ?_) (fun h => ?_)
  · refine Runs.picks (loc' := []) [] rfl ?_
    exact k1 h
  · exact k2 h
theorem kX8_rate_21 {X : Scr} {M : Mem} {P : Option AV → Mem → Prop} {x1 x2 x3 x4 : Int} (k1 : x3 < (1 : Int) → Runs X mX8_rate 45 [] [] M P) (k2 : (1 : Int) ≤ x3 → Runs X mX8_rate 26 [(0, vr 0), (1, vi x1), (2, vi x2), (3, vi x3), (4, vi x4)] [] M P) : Runs X mX8_rate 21 [(0, vr 0), (1, vi x1), (2, vi x2), (3, vi x3), (4, vi x4)] [] M P := by
  refine Runs.iload_n (j := 3) dX8_rate_21 rfl ?_
  refine Runs.iconst dX8_rate_22 (by decide) ?_
  refine Runs.icmp_lt (tgt := 45) dX8_rate_23 (by decide) (fun h => ?_) (fun h => ?_)
  · refine Runs.picks (loc' := []) [] rfl ?_
    exact k1 h
  · exact k2 h
theorem kX8_rate_26 {X : Scr} {M : Mem} {P : Option AV → Mem → Prop} {x1 x2 x3 x4 : Int} (k1 : (99 : Int) < x3 → Runs X mX8_rate 45 [] [] M P) (k2 : x3 ≤ (99 : Int) → Runs X mX8_rate 32 [(0, vr 0), (1, vi x1), (2, vi x2), (3, vi x3), (4, vi x4)] [] M P) : Runs X mX8_rate 26 [(0, vr 0), (1, vi x1), (2, vi x2), (3, vi x3), (4, vi x4)] [] M P := by
  refine Runs.iload_n (j := 3) dX8_rate_26 rfl ?_
  refine Runs.bipush dX8_rate_27 (by decide) (by decide) ?_
  refine Runs.icmp_gt (tgt := 45) dX8_rate_29 (by decide) (fun h => ?_) (fun h => ?_)
  · refine Runs.picks (loc' := []) [] rfl ?_
    exact k1 h
  · exact k2 h
theorem kX8_rate_32 {X : Scr} {M : Mem} {P : Option AV → Mem → Prop} {x1 x2 x3 x4 : Int} (k1 : x4 < (1 : Int) → Runs X mX8_rate 45 [] [] M P) (k2 : (1 : Int) ≤ x4 → Runs X mX8_rate 38 [(0, vr 0), (1, vi x1), (2, vi x2), (3, vi x3), (4, vi x4)] [] M P) : Runs X mX8_rate 32 [(0, vr 0), (1, vi x1), (2, vi x2), (3, vi x3), (4, vi x4)] [] M P := by
  refine Runs.iload (j := 4) dX8_rate_32 rfl ?_
  refine Runs.iconst dX8_rate_34 (by decide) ?_
  refine Runs.icmp_lt (tgt := 45) dX8_rate_35 (by decide) (fun h => ?_) (fun h => ?_)
  · refine Runs.picks (loc' := []) [] rfl ?_
    exact k1 h
  · exact k2 h
theorem kX8_rate_38 {X : Scr} {M : Mem} {P : Option AV → Mem → Prop} {x1 x2 x3 x4 : Int} (k1 : x4 ≤ (99 : Int) → Runs X mX8_rate 48 [(0, vr 0), (1, vi x1), (2, vi x2), (3, vi x3), (4, vi x4)] [] M P) (k2 : (99 : Int) < x4 → Runs X mX8_rate 45 [] [] M P) : Runs X mX8_rate 38 [(0, vr 0), (1, vi x1), (2, vi x2), (3, vi x3), (4, vi x4)] [] M P := by
  refine Runs.iload (j := 4) dX8_rate_38 rfl ?_
  refine Runs.bipush dX8_rate_40 (by decide) (by decide) ?_
  refine Runs.icmp_le (tgt := 48) dX8_rate_42 (by decide) (fun h => ?_) (fun h => ?_)
  · exact k1 h
  · refine Runs.picks (loc' := []) [] rfl ?_
    exact k2 h
theorem kX8_rate_45 {X : Scr} {M : Mem} {P : Option AV → Mem → Prop} (k : P (some (vi (-2 : Int))) M) : Runs X mX8_rate 45 [] [] M P := by
  refine Runs.bipush dX8_rate_45 (by decide) (by decide) ?_
  exact Runs.reti dX8_rate_47 rfl k
theorem kX8_rate_48 {X : Scr} {M : Mem} {P Q : Option AV → Mem → Prop} {x1 x2 x3 x4 : Int} (hC : Call X mX3_gotFor [vr (oR 0), vi x1, vi x2] M Q) (k : ∀ (z : Int) (M1 : Mem), Q (some (vi z)) M1 → Runs X mX8_rate 59 [(0, vr 0), (1, vi x1), (2, vi x2), (3, vi x3), (4, vi x4)] [vi z, vi (100 : Int)] M1 P) : Runs X mX8_rate 48 [(0, vr 0), (1, vi x1), (2, vi x2), (3, vi x3), (4, vi x4)] [] M P := by
  refine Runs.bipush dX8_rate_48 (by decide) (by decide) ?_
  refine Runs.aload_n (j := 0) dX8_rate_50 rfl ?_
  refine Runs.getr (o' := (oR 0)) (ci := 8) (j := 4) (C := RX8) (T := TX8) (N := 12) dX8_rate_51 rfl cls_X8 (by decide) rfl fl_X8_40 rfl ⟨rfl, _, Or.inl rfl⟩ ?_
  refine Runs.iload_n (j := 1) dX8_rate_54 rfl ?_
  refine Runs.iload_n (j := 2) dX8_rate_55 rfl ?_
  refine Runs.callVi (y := mX3_gotFor) (n := 2) (as := [vi x1, vi x2]) (st := [vi (100 : Int)]) (q := (RX3, TX3, 2)) dX8_rate_56 oc_X3_gotFor im_X3_gotFor se_X3_gotFor ml_X8_250 rfl ⟨(Nat.le_of_ble_eq_true rfl), (Nat.le_of_ble_eq_true rfl)⟩ (Nat.le_of_ble_eq_true rfl) (Nat.le_of_ble_eq_true rfl) (kd_oR (by omega)) rfl rfl (Or.inl rfl) hC (fun z M1 hQ => ?_)
  exact k z M1 hQ
theorem kX8_rate_59 {X : Scr} {M : Mem} {P Q : Option AV → Mem → Prop} {x1 x2 x3 x4 xs0 xs1 : Int} (hC : Call X mX3_givenFor [vr (oR 0), vi x1, vi x2] M Q) (k : ∀ (z : Int) (M1 : Mem), Q (some (vi z)) M1 → Runs X mX8_rate 69 [(0, vr 0), (1, vi x1), (2, vi x2), (3, vi x3), (4, vi x4)] [vi z, vi (xs0 * xs1)] M1 P) (h1 : -2147483648 ≤ (xs0 * xs1) ∧ (xs0 * xs1) ≤ 2147483647 := by omega) : Runs X mX8_rate 59 [(0, vr 0), (1, vi x1), (2, vi x2), (3, vi x3), (4, vi x4)] [vi xs1, vi xs0] M P := by
  refine Runs.imul dX8_rate_59 h1 ?_
  refine Runs.aload_n (j := 0) dX8_rate_60 rfl ?_
  refine Runs.getr (o' := (oR 0)) (ci := 8) (j := 4) (C := RX8) (T := TX8) (N := 12) dX8_rate_61 rfl cls_X8 (by decide) rfl fl_X8_40 rfl ⟨rfl, _, Or.inl rfl⟩ ?_
  refine Runs.iload_n (j := 1) dX8_rate_64 rfl ?_
  refine Runs.iload_n (j := 2) dX8_rate_65 rfl ?_
  refine Runs.callVi (y := mX3_givenFor) (n := 2) (as := [vi x1, vi x2]) (st := [vi (xs0 * xs1)]) (q := (RX3, TX3, 2)) dX8_rate_66 oc_X3_givenFor im_X3_givenFor se_X3_givenFor ml_X8_253 rfl ⟨(Nat.le_of_ble_eq_true rfl), (Nat.le_of_ble_eq_true rfl)⟩ (Nat.le_of_ble_eq_true rfl) (Nat.le_of_ble_eq_true rfl) (kd_oR (by omega)) rfl rfl (Or.inl rfl) hC (fun z M1 hQ => ?_)
  exact k z M1 hQ
theorem kX8_rate_69 {X : Scr} {M : Mem} {P Q : Option AV → Mem → Prop} {x1 x2 x3 x4 xs0 xs1 : Int} (hC : Call X mX3_put [vr (oR 0), vi x1, vi x2, vi x3, vi x4] M Q) (k : ∀ (M1 : Mem), Q none M1 → Runs X mX8_rate 84 [(5, vi (xs0 + xs1))] [] M1 P) (h1 : -2147483648 ≤ (xs0 + xs1) ∧ (xs0 + xs1) ≤ 2147483647 := by omega) : Runs X mX8_rate 69 [(0, vr 0), (1, vi x1), (2, vi x2), (3, vi x3), (4, vi x4)] [vi xs1, vi xs0] M P := by
  refine Runs.iadd dX8_rate_69 h1 ?_
  refine Runs.istore (loc' := [(0, vr 0), (1, vi x1), (2, vi x2), (3, vi x3), (4, vi x4), (5, vi (xs0 + xs1))]) dX8_rate_70 (by decide) rfl ?_
  refine Runs.aload_n (j := 0) dX8_rate_72 rfl ?_
  refine Runs.getr (o' := (oR 0)) (ci := 8) (j := 4) (C := RX8) (T := TX8) (N := 12) dX8_rate_73 rfl cls_X8 (by decide) rfl fl_X8_40 rfl ⟨rfl, _, Or.inl rfl⟩ ?_
  refine Runs.iload_n (j := 1) dX8_rate_76 rfl ?_
  refine Runs.iload_n (j := 2) dX8_rate_77 rfl ?_
  refine Runs.iload_n (j := 3) dX8_rate_78 rfl ?_
  refine Runs.iload (j := 4) dX8_rate_79 rfl ?_
  refine Runs.callVv (y := mX3_put) (n := 4) (as := [vi x1, vi x2, vi x3, vi x4]) (st := []) (q := (RX3, TX3, 2)) dX8_rate_81 oc_X3_put im_X3_put se_X3_put ml_X8_256 rfl ⟨(Nat.le_of_ble_eq_true rfl), (Nat.le_of_ble_eq_true rfl)⟩ (Nat.le_of_ble_eq_true rfl) (Nat.le_of_ble_eq_true rfl) (kd_oR (by omega)) rfl rfl rfl hC (fun M1 hQ => ?_)
  refine Runs.picks (loc' := [(5, vi (xs0 + xs1))]) [5] rfl ?_
  exact k M1 hQ
theorem kX8_rate_84 {X : Scr} {M : Mem} {P : Option AV → Mem → Prop} {x5 : Int} (k : P (some (vi x5)) M) : Runs X mX8_rate 84 [(5, vi x5)] [] M P := by
  refine Runs.iload (j := 0) dX8_rate_84 rfl ?_
  exact Runs.reti dX8_rate_86 rfl k
theorem kX8_ring_0 {X : Scr} {M : Mem} {P Q : Option AV → Mem → Prop} {x1 : Int} (hC : Call X mX8_seekRing [vr 0] M Q) (k : ∀ (M1 : Mem), Q none M1 → Runs X mX8_ring 4 [(0, vr 0), (1, vi x1)] [] M1 P) : Runs X mX8_ring 0 [(0, vr 0), (1, vi x1)] [] M P := by
  refine Runs.aload_n (j := 0) dX8_ring_0 rfl ?_
  refine Runs.callVv (y := mX8_seekRing) (n := 0) (as := []) (st := []) (q := (RX8, TX8, 12)) dX8_ring_1 oc_X8_seekRing im_X8_seekRing se_X8_seekRing ml_X8_260 rfl ⟨(Nat.le_of_ble_eq_true rfl), (Nat.le_of_ble_eq_true rfl)⟩ (Nat.le_of_ble_eq_true rfl) (Nat.le_of_ble_eq_true rfl) rfl rfl rfl rfl hC (fun M1 hQ => ?_)
  exact k M1 hQ
theorem kX8_ring_4 {X : Scr} {M : Mem} {P Q : Option AV → Mem → Prop} {x1 : Int} (hC : Call X mX8_ofFraction [vl (M 34 2), vl (M 34 3), vi x1] M Q) (k : ∀ (z : Int) (M1 : Mem), Q (some (vl z)) M1 → Runs X mX8_ring 22 [] [vl z] M1 P) : Runs X mX8_ring 4 [(0, vr 0), (1, vi x1)] [] M P := by
  refine Runs.aload_n (j := 0) dX8_ring_4 rfl ?_
  refine Runs.getr (o' := 34) (ci := 8) (j := 9) (C := RX8) (T := TX8) (N := 12) dX8_ring_5 rfl cls_X8 (by decide) rfl fl_X8_67 rfl ⟨rfl, _, Or.inl rfl⟩ ?_
  refine Runs.getl (ci := 4) (j := 2) (C := RX4) (T := TX4) (N := 4) dX8_ring_8 rfl cls_X4 (by decide) rfl fl_X8_263 rfl ?_
  refine Runs.aload_n (j := 0) dX8_ring_11 rfl ?_
  refine Runs.getr (o' := 34) (ci := 8) (j := 9) (C := RX8) (T := TX8) (N := 12) dX8_ring_12 rfl cls_X8 (by decide) rfl fl_X8_67 rfl ⟨rfl, _, Or.inl rfl⟩ ?_
  refine Runs.getl (ci := 4) (j := 3) (C := RX4) (T := TX4) (N := 4) dX8_ring_15 rfl cls_X4 (by decide) rfl fl_X8_267 rfl ?_
  refine Runs.iload_n (j := 1) dX8_ring_18 rfl ?_
  refine Runs.callSl (y := mX8_ofFraction) (n := 3) (as := [vl (M 34 2), vl (M 34 3), vi x1]) (st := []) dX8_ring_19 oc_X8_ofFraction sm_X8_ofFraction ml_X8_241 rfl ⟨(Nat.le_of_ble_eq_true rfl), (Nat.le_of_ble_eq_true rfl)⟩ (Nat.le_of_ble_eq_true rfl) (Nat.le_of_ble_eq_true rfl) rfl hC (fun z M1 hQ => ?_)
  refine Runs.picks (loc' := []) [] rfl ?_
  exact k z M1 hQ
theorem kX8_ring_22 {X : Scr} {M : Mem} {P : Option AV → Mem → Prop} {xs0 : Int} (k : P (some (vl xs0)) M) : Runs X mX8_ring 22 [] [vl xs0] M P := by
  exact Runs.retl dX8_ring_22 rfl k
theorem kX8_ringAt_0 {X : Scr} {M : Mem} {P Q : Option AV → Mem → Prop} {x1 : Int} (hC : Call X mX8_seekRing [vr 0] M Q) (k : ∀ (M1 : Mem), Q none M1 → Runs X mX8_ringAt 4 [(0, vr 0), (1, vi x1)] [] M1 P) : Runs X mX8_ringAt 0 [(0, vr 0), (1, vi x1)] [] M P := by
  refine Runs.aload_n (j := 0) dX8_ringAt_0 rfl ?_
  refine Runs.callVv (y := mX8_seekRing) (n := 0) (as := []) (st := []) (q := (RX8, TX8, 12)) dX8_ringAt_1 oc_X8_seekRing im_X8_seekRing se_X8_seekRing ml_X8_260 rfl ⟨(Nat.le_of_ble_eq_true rfl), (Nat.le_of_ble_eq_true rfl)⟩ (Nat.le_of_ble_eq_true rfl) (Nat.le_of_ble_eq_true rfl) rfl rfl rfl rfl hC (fun M1 hQ => ?_)
  exact k M1 hQ
theorem kX8_ringAt_4 {X : Scr} {M : Mem} {P : Option AV → Mem → Prop} {x1 : Int} (k1 : x1 < 0 → Runs X mX8_ringAt 19 [] [] M P) (k2 : 0 ≤ x1 → Runs X mX8_ringAt 8 [(0, vr 0), (1, vi x1)] [] M P) : Runs X mX8_ringAt 4 [(0, vr 0), (1, vi x1)] [] M P := by
  refine Runs.iload_n (j := 1) dX8_ringAt_4 rfl ?_
  refine Runs.if_lt (tgt := 19) dX8_ringAt_5 (by decide) (fun h => ?_) (fun h => ?_)
  · refine Runs.picks (loc' := []) [] rfl ?_
    exact k1 h
  · exact k2 h
theorem kX8_ringAt_8 {X : Scr} {M : Mem} {P : Option AV → Mem → Prop} {x1 : Int} (k1 : x1 < (M 34 1) → Runs X mX8_ringAt 24 [(0, vr 0), (1, vi x1)] [] M P) (k2 : (M 34 1) ≤ x1 → Runs X mX8_ringAt 19 [] [] M P) : Runs X mX8_ringAt 8 [(0, vr 0), (1, vi x1)] [] M P := by
  refine Runs.iload_n (j := 1) dX8_ringAt_8 rfl ?_
  refine Runs.aload_n (j := 0) dX8_ringAt_9 rfl ?_
  refine Runs.getr (o' := 34) (ci := 8) (j := 9) (C := RX8) (T := TX8) (N := 12) dX8_ringAt_10 rfl cls_X8 (by decide) rfl fl_X8_67 rfl ⟨rfl, _, Or.inl rfl⟩ ?_
  refine Runs.geti (ci := 4) (j := 1) (C := RX4) (T := TX4) (N := 4) dX8_ringAt_13 rfl cls_X4 (by decide) rfl fl_X8_270 (Or.inl rfl) ?_
  refine Runs.icmp_lt (tgt := 24) dX8_ringAt_16 (by decide) (fun h => ?_) (fun h => ?_)
  · exact k1 h
  · refine Runs.picks (loc' := []) [] rfl ?_
    exact k2 h
theorem kX8_ringAt_19 {X : Scr} {M : Mem} {P : Option AV → Mem → Prop} (k : Runs X mX8_ringAt 42 [] [vi (-9 : Int)] M P) : Runs X mX8_ringAt 19 [] [] M P := by
  refine Runs.bipush dX8_ringAt_19 (by decide) (by decide) ?_
  refine Runs.goto (tgt := 42) dX8_ringAt_21 (by decide) ?_
  exact k
theorem kX8_ringAt_24 {X : Scr} {M : Mem} {P Q : Option AV → Mem → Prop} {x1 : Int} (hC : Call X mX4_moneyAt [vi (M 34 0), vi (M 34 1), vi x1] M Q) (k : ∀ (z : Int) (M1 : Mem), Q (some (vi z)) M1 → Runs X mX8_ringAt 42 [] [vi z] M1 P) : Runs X mX8_ringAt 24 [(0, vr 0), (1, vi x1)] [] M P := by
  refine Runs.aload_n (j := 0) dX8_ringAt_24 rfl ?_
  refine Runs.getr (o' := 34) (ci := 8) (j := 9) (C := RX8) (T := TX8) (N := 12) dX8_ringAt_25 rfl cls_X8 (by decide) rfl fl_X8_67 rfl ⟨rfl, _, Or.inl rfl⟩ ?_
  refine Runs.geti (ci := 4) (j := 0) (C := RX4) (T := TX4) (N := 4) dX8_ringAt_28 rfl cls_X4 (by decide) rfl fl_X8_273 (Or.inl rfl) ?_
  refine Runs.aload_n (j := 0) dX8_ringAt_31 rfl ?_
  refine Runs.getr (o' := 34) (ci := 8) (j := 9) (C := RX8) (T := TX8) (N := 12) dX8_ringAt_32 rfl cls_X8 (by decide) rfl fl_X8_67 rfl ⟨rfl, _, Or.inl rfl⟩ ?_
  refine Runs.geti (ci := 4) (j := 1) (C := RX4) (T := TX4) (N := 4) dX8_ringAt_35 rfl cls_X4 (by decide) rfl fl_X8_270 (Or.inl rfl) ?_
  refine Runs.iload_n (j := 1) dX8_ringAt_38 rfl ?_
  refine Runs.callSi (y := mX4_moneyAt) (n := 3) (as := [vi (M 34 0), vi (M 34 1), vi x1]) (st := []) dX8_ringAt_39 oc_X4_moneyAt sm_X4_moneyAt ml_X8_276 rfl ⟨(Nat.le_of_ble_eq_true rfl), (Nat.le_of_ble_eq_true rfl)⟩ (Nat.le_of_ble_eq_true rfl) (Nat.le_of_ble_eq_true rfl) (Or.inl rfl) hC (fun z M1 hQ => ?_)
  refine Runs.picks (loc' := []) [] rfl ?_
  exact k z M1 hQ
theorem kX8_ringAt_42 {X : Scr} {M : Mem} {P : Option AV → Mem → Prop} {xs0 : Int} (k : P (some (vi xs0)) M) : Runs X mX8_ringAt 42 [] [vi xs0] M P := by
  exact Runs.reti dX8_ringAt_42 rfl k
theorem kX8_should_0 {X : Scr} {M : Mem} {P Q : Option AV → Mem → Prop} {x1 x2 : Int} (hC : Call X mX8_isTooth [vr 0, vi x1] M Q) (k : ∀ (z : Int) (M1 : Mem), Q (some (vi z)) M1 → Runs X mX8_should 5 [(0, vr 0), (1, vi x1), (2, vi x2)] [vi z] M1 P) : Runs X mX8_should 0 [(0, vr 0), (1, vi x1), (2, vi x2)] [] M P := by
  refine Runs.aload_n (j := 0) dX8_should_0 rfl ?_
  refine Runs.iload_n (j := 1) dX8_should_1 rfl ?_
  refine Runs.callVi (y := mX8_isTooth) (n := 1) (as := [vi x1]) (st := []) (q := (RX8, TX8, 12)) dX8_should_2 oc_X8_isTooth im_X8_isTooth se_X8_isTooth ml_X8_120 rfl ⟨(Nat.le_of_ble_eq_true rfl), (Nat.le_of_ble_eq_true rfl)⟩ (Nat.le_of_ble_eq_true rfl) (Nat.le_of_ble_eq_true rfl) rfl rfl rfl (Or.inr rfl) hC (fun z M1 hQ => ?_)
  exact k z M1 hQ
theorem kX8_should_5 {X : Scr} {M : Mem} {P : Option AV → Mem → Prop} {x1 x2 xs0 : Int} (k1 : xs0 ≠ 0 → Runs X mX8_should 10 [(0, vr 0), (1, vi x1), (2, vi x2)] [] M P) (k2 : xs0 = 0 → Runs X mX8_should 8 [] [] M P) : Runs X mX8_should 5 [(0, vr 0), (1, vi x1), (2, vi x2)] [vi xs0] M P := by
  refine Runs.if_ne (tgt := 10) dX8_should_5 (by decide) (fun h => ?_) (fun h => ?_)
  · exact k1 h
  · refine Runs.picks (loc' := []) [] rfl ?_
    exact k2 h
theorem kX8_should_8 {X : Scr} {M : Mem} {P : Option AV → Mem → Prop} (k : P (some (vi (-1 : Int))) M) : Runs X mX8_should 8 [] [] M P := by
  refine Runs.iconst dX8_should_8 (by decide) ?_
  exact Runs.reti dX8_should_9 rfl k
theorem kX8_should_10 {X : Scr} {M : Mem} {P : Option AV → Mem → Prop} {x1 x2 : Int} (k1 : x2 < 0 → Runs X mX8_should 20 [] [] M P) (k2 : 0 ≤ x2 → Runs X mX8_should 14 [(0, vr 0), (1, vi x1), (2, vi x2)] [] M P) : Runs X mX8_should 10 [(0, vr 0), (1, vi x1), (2, vi x2)] [] M P := by
  refine Runs.iload_n (j := 2) dX8_should_10 rfl ?_
  refine Runs.if_lt (tgt := 20) dX8_should_11 (by decide) (fun h => ?_) (fun h => ?_)
  · refine Runs.picks (loc' := []) [] rfl ?_
    exact k1 h
  · exact k2 h
theorem kX8_should_14 {X : Scr} {M : Mem} {P : Option AV → Mem → Prop} {x1 x2 : Int} (k1 : x2 ≤ (99 : Int) → Runs X mX8_should 23 [(0, vr 0), (1, vi x1), (2, vi x2)] [] M P) (k2 : (99 : Int) < x2 → Runs X mX8_should 20 [] [] M P) : Runs X mX8_should 14 [(0, vr 0), (1, vi x1), (2, vi x2)] [] M P := by
  refine Runs.iload_n (j := 2) dX8_should_14 rfl ?_
  refine Runs.bipush dX8_should_15 (by decide) (by decide) ?_
  refine Runs.icmp_le (tgt := 23) dX8_should_17 (by decide) (fun h => ?_) (fun h => ?_)
  · exact k1 h
  · refine Runs.picks (loc' := []) [] rfl ?_
    exact k2 h
theorem kX8_should_20 {X : Scr} {M : Mem} {P : Option AV → Mem → Prop} (k : P (some (vi (-2 : Int))) M) : Runs X mX8_should 20 [] [] M P := by
  refine Runs.bipush dX8_should_20 (by decide) (by decide) ?_
  exact Runs.reti dX8_should_22 rfl k
theorem kX8_should_23 {X : Scr} {M : Mem} {P Q : Option AV → Mem → Prop} {x1 x2 : Int} (hC : Call X mX6_get [vr (oT 0), vi x1, vi (5 : Int)] M Q) (k : ∀ (z : Int) (M1 : Mem), Q (some (vi z)) M1 → Runs X mX8_should 32 [(0, vr 0), (1, vi x1), (2, vi x2)] [vi z] M1 P) : Runs X mX8_should 23 [(0, vr 0), (1, vi x1), (2, vi x2)] [] M P := by
  refine Runs.aload_n (j := 0) dX8_should_23 rfl ?_
  refine Runs.getr (o' := (oT 0)) (ci := 8) (j := 1) (C := RX8) (T := TX8) (N := 12) dX8_should_24 rfl cls_X8 (by decide) rfl fl_X8_19 rfl ⟨rfl, _, Or.inl rfl⟩ ?_
  refine Runs.iload_n (j := 1) dX8_should_27 rfl ?_
  refine Runs.iconst dX8_should_28 (by decide) ?_
  refine Runs.callVi (y := mX6_get) (n := 2) (as := [vi x1, vi (5 : Int)]) (st := []) (q := (RX6, TX6, 2)) dX8_should_29 oc_X6_get im_X6_get se_X6_get ml_X8_124 rfl ⟨(Nat.le_of_ble_eq_true rfl), (Nat.le_of_ble_eq_true rfl)⟩ (Nat.le_of_ble_eq_true rfl) (Nat.le_of_ble_eq_true rfl) (kd_oT (by omega)) rfl rfl (Or.inl rfl) hC (fun z M1 hQ => ?_)
  exact k z M1 hQ
theorem kX8_should_32 {X : Scr} {M : Mem} {P Q : Option AV → Mem → Prop} {x1 x2 xs0 : Int} (hC : Call X mX6_set [vr (oT 0), vi x1, vi (5 : Int), vi x2] M Q) (k : ∀ (M1 : Mem), Q none M1 → Runs X mX8_should 43 [(3, vi xs0)] [] M1 P) : Runs X mX8_should 32 [(0, vr 0), (1, vi x1), (2, vi x2)] [vi xs0] M P := by
  refine Runs.istore_n (loc' := [(0, vr 0), (1, vi x1), (2, vi x2), (3, vi xs0)]) dX8_should_32 rfl (by decide) rfl ?_
  refine Runs.aload_n (j := 0) dX8_should_33 rfl ?_
  refine Runs.getr (o' := (oT 0)) (ci := 8) (j := 1) (C := RX8) (T := TX8) (N := 12) dX8_should_34 rfl cls_X8 (by decide) rfl fl_X8_19 rfl ⟨rfl, _, Or.inl rfl⟩ ?_
  refine Runs.iload_n (j := 1) dX8_should_37 rfl ?_
  refine Runs.iconst dX8_should_38 (by decide) ?_
  refine Runs.iload_n (j := 2) dX8_should_39 rfl ?_
  refine Runs.callVv (y := mX6_set) (n := 3) (as := [vi x1, vi (5 : Int), vi x2]) (st := []) (q := (RX6, TX6, 2)) dX8_should_40 oc_X6_set im_X6_set se_X6_set ml_X8_151 rfl ⟨(Nat.le_of_ble_eq_true rfl), (Nat.le_of_ble_eq_true rfl)⟩ (Nat.le_of_ble_eq_true rfl) (Nat.le_of_ble_eq_true rfl) (kd_oT (by omega)) rfl rfl rfl hC (fun M1 hQ => ?_)
  refine Runs.picks (loc' := [(3, vi xs0)]) [3] rfl ?_
  exact k M1 hQ
theorem kX8_should_43 {X : Scr} {M : Mem} {P : Option AV → Mem → Prop} {x3 : Int} (k : P (some (vi x3)) M) : Runs X mX8_should 43 [(3, vi x3)] [] M P := by
  refine Runs.iload_n (j := 0) dX8_should_43 rfl ?_
  exact Runs.reti dX8_should_44 rfl k
theorem kX8_stolen_0 {X : Scr} {M : Mem} {P : Option AV → Mem → Prop} (k : Runs X mX8_stolen 4 [(0, vr 0), (1, vi (0 : Int)), (2, vi (0 : Int))] [] M P) : Runs X mX8_stolen 0 [(0, vr 0)] [] M P := by
  refine Runs.iconst dX8_stolen_0 (by decide) ?_
  refine Runs.istore_n (loc' := [(0, vr 0), (1, vi (0 : Int))]) dX8_stolen_1 rfl (by decide) rfl ?_
  refine Runs.iconst dX8_stolen_2 (by decide) ?_
  refine Runs.istore_n (loc' := [(0, vr 0), (1, vi (0 : Int)), (2, vi (0 : Int))]) dX8_stolen_3 rfl (by decide) rfl ?_
  exact k
theorem kX8_stolen_4 {X : Scr} {M : Mem} {P : Option AV → Mem → Prop} {x1 x2 : Int} (k1 : (M (oT 0) 1) ≤ x2 → Runs X mX8_stolen 38 [(1, vi x1)] [] M P) (k2 : x2 < (M (oT 0) 1) → Runs X mX8_stolen 15 [(0, vr 0), (1, vi x1), (2, vi x2)] [] M P) : Runs X mX8_stolen 4 [(0, vr 0), (1, vi x1), (2, vi x2)] [] M P := by
  refine Runs.iload_n (j := 2) dX8_stolen_4 rfl ?_
  refine Runs.aload_n (j := 0) dX8_stolen_5 rfl ?_
  refine Runs.getr (o' := (oT 0)) (ci := 8) (j := 1) (C := RX8) (T := TX8) (N := 12) dX8_stolen_6 rfl cls_X8 (by decide) rfl fl_X8_19 rfl ⟨rfl, _, Or.inl rfl⟩ ?_
  refine Runs.geti (ci := 6) (j := 1) (C := RX6) (T := TX6) (N := 2) dX8_stolen_9 (kd_oT (by omega)) cls_X6 (by decide) rfl fl_X8_94 (Or.inl rfl) ?_
  refine Runs.icmp_ge (tgt := 38) dX8_stolen_12 (by decide) (fun h => ?_) (fun h => ?_)
  · refine Runs.picks (loc' := [(1, vi x1)]) [1] rfl ?_
    exact k1 h
  · exact k2 h
theorem kX8_stolen_15 {X : Scr} {M : Mem} {P Q : Option AV → Mem → Prop} {x1 x2 : Int} (hC : Call X mX6_wearTooMuch [vr (oT 0), vi x2] M Q) (k : ∀ (z : Int) (M1 : Mem), Q (some (vi z)) M1 → Runs X mX8_stolen 23 [(0, vr 0), (1, vi x1), (2, vi x2)] [vi z] M1 P) : Runs X mX8_stolen 15 [(0, vr 0), (1, vi x1), (2, vi x2)] [] M P := by
  refine Runs.aload_n (j := 0) dX8_stolen_15 rfl ?_
  refine Runs.getr (o' := (oT 0)) (ci := 8) (j := 1) (C := RX8) (T := TX8) (N := 12) dX8_stolen_16 rfl cls_X8 (by decide) rfl fl_X8_19 rfl ⟨rfl, _, Or.inl rfl⟩ ?_
  refine Runs.iload_n (j := 2) dX8_stolen_19 rfl ?_
  refine Runs.callVi (y := mX6_wearTooMuch) (n := 1) (as := [vi x2]) (st := []) (q := (RX6, TX6, 2)) dX8_stolen_20 oc_X6_wearTooMuch im_X6_wearTooMuch se_X6_wearTooMuch ml_X8_279 rfl ⟨(Nat.le_of_ble_eq_true rfl), (Nat.le_of_ble_eq_true rfl)⟩ (Nat.le_of_ble_eq_true rfl) (Nat.le_of_ble_eq_true rfl) (kd_oT (by omega)) rfl rfl (Or.inl rfl) hC (fun z M1 hQ => ?_)
  exact k z M1 hQ
theorem kX8_stolen_23 {X : Scr} {M : Mem} {P : Option AV → Mem → Prop} {x1 x2 xs0 : Int} (k1 : xs0 ≤ 0 → Runs X mX8_stolen 32 [(0, vr 0), (1, vi x1), (2, vi x2)] [] M P) (k2 : 0 < xs0 → Runs X mX8_stolen 26 [(0, vr 0), (1, vi x1), (2, vi x2)] [] M P) : Runs X mX8_stolen 23 [(0, vr 0), (1, vi x1), (2, vi x2)] [vi xs0] M P := by
  refine Runs.if_le (tgt := 32) dX8_stolen_23 (by decide) (fun h => ?_) (fun h => ?_)
  · exact k1 h
  · exact k2 h
theorem kX8_stolen_26 {X : Scr} {M : Mem} {P : Option AV → Mem → Prop} {x1 x2 : Int} (k : Runs X mX8_stolen 32 [(0, vr 0), (1, vi (zor x1 (zshl (1 : Int) x2))), (2, vi x2)] [] M P) : Runs X mX8_stolen 26 [(0, vr 0), (1, vi x1), (2, vi x2)] [] M P := by
  refine Runs.iload_n (j := 1) dX8_stolen_26 rfl ?_
  refine Runs.iconst dX8_stolen_27 (by decide) ?_
  refine Runs.iload_n (j := 2) dX8_stolen_28 rfl ?_
  refine Runs.ishl dX8_stolen_29 ?_
  refine Runs.ior dX8_stolen_30 ?_
  refine Runs.istore_n (loc' := [(0, vr 0), (1, vi (zor x1 (zshl (1 : Int) x2))), (2, vi x2)]) dX8_stolen_31 rfl (by decide) rfl ?_
  exact k
theorem kX8_stolen_32 {X : Scr} {M : Mem} {P : Option AV → Mem → Prop} {x1 x2 : Int} (k : Runs X mX8_stolen 4 [(0, vr 0), (1, vi x1), (2, vi (x2 + (1 : Int)))] [] M P) (h1 : -2147483648 ≤ (x2 + (1 : Int)) ∧ (x2 + (1 : Int)) ≤ 2147483647 := by omega) : Runs X mX8_stolen 32 [(0, vr 0), (1, vi x1), (2, vi x2)] [] M P := by
  refine Runs.iinc (k := 2) (loc' := [(0, vr 0), (1, vi x1), (2, vi (x2 + (1 : Int)))]) dX8_stolen_32 rfl h1 (by decide) rfl ?_
  refine Runs.goto (tgt := 4) dX8_stolen_35 (by decide) ?_
  exact k
theorem kX8_stolen_38 {X : Scr} {M : Mem} {P : Option AV → Mem → Prop} {x1 : Int} (k : P (some (vi x1)) M) : Runs X mX8_stolen 38 [(1, vi x1)] [] M P := by
  refine Runs.iload_n (j := 0) dX8_stolen_38 rfl ?_
  exact Runs.reti dX8_stolen_39 rfl k
theorem kX8_thief_0 {X : Scr} {M : Mem} {P : Option AV → Mem → Prop} (k : Runs X mX8_thief 7 [(0, vr 0), (1, vi (0 : Int)), (2, vi (-9 : Int)), (3, vi (0 : Int))] [] M P) : Runs X mX8_thief 0 [(0, vr 0)] [] M P := by
  refine Runs.iconst dX8_thief_0 (by decide) ?_
  refine Runs.istore_n (loc' := [(0, vr 0), (1, vi (0 : Int))]) dX8_thief_1 rfl (by decide) rfl ?_
  refine Runs.bipush dX8_thief_2 (by decide) (by decide) ?_
  refine Runs.istore_n (loc' := [(0, vr 0), (1, vi (0 : Int)), (2, vi (-9 : Int))]) dX8_thief_4 rfl (by decide) rfl ?_
  refine Runs.iconst dX8_thief_5 (by decide) ?_
  refine Runs.istore_n (loc' := [(0, vr 0), (1, vi (0 : Int)), (2, vi (-9 : Int)), (3, vi (0 : Int))]) dX8_thief_6 rfl (by decide) rfl ?_
  exact k
theorem kX8_thief_7 {X : Scr} {M : Mem} {P : Option AV → Mem → Prop} {x1 x2 x3 : Int} (k1 : (4 : Int) ≤ x3 → Runs X mX8_thief 39 [(2, vi x2)] [] M P) (k2 : x3 < (4 : Int) → Runs X mX8_thief 12 [(0, vr 0), (1, vi x1), (2, vi x2), (3, vi x3)] [] M P) : Runs X mX8_thief 7 [(0, vr 0), (1, vi x1), (2, vi x2), (3, vi x3)] [] M P := by
  refine Runs.iload_n (j := 3) dX8_thief_7 rfl ?_
  refine Runs.iconst dX8_thief_8 (by decide) ?_
  refine Runs.icmp_ge (tgt := 39) dX8_thief_9 (by decide) (fun h => ?_) (fun h => ?_)
  · refine Runs.picks (loc' := [(2, vi x2)]) [2] rfl ?_
    exact k1 h
  · exact k2 h
theorem kX8_thief_12 {X : Scr} {M : Mem} {P Q : Option AV → Mem → Prop} {x1 x2 x3 : Int} (hC : Call X mX6_wearTooMuchOf [vr (oT 0), vi x3] M Q) (k : ∀ (z : Int) (M1 : Mem), Q (some (vi z)) M1 → Runs X mX8_thief 20 [(0, vr 0), (1, vi x1), (2, vi x2), (3, vi x3)] [vi z] M1 P) : Runs X mX8_thief 12 [(0, vr 0), (1, vi x1), (2, vi x2), (3, vi x3)] [] M P := by
  refine Runs.aload_n (j := 0) dX8_thief_12 rfl ?_
  refine Runs.getr (o' := (oT 0)) (ci := 8) (j := 1) (C := RX8) (T := TX8) (N := 12) dX8_thief_13 rfl cls_X8 (by decide) rfl fl_X8_19 rfl ⟨rfl, _, Or.inl rfl⟩ ?_
  refine Runs.iload_n (j := 3) dX8_thief_16 rfl ?_
  refine Runs.callVi (y := mX6_wearTooMuchOf) (n := 1) (as := [vi x3]) (st := []) (q := (RX6, TX6, 2)) dX8_thief_17 oc_X6_wearTooMuchOf im_X6_wearTooMuchOf se_X6_wearTooMuchOf ml_X8_282 rfl ⟨(Nat.le_of_ble_eq_true rfl), (Nat.le_of_ble_eq_true rfl)⟩ (Nat.le_of_ble_eq_true rfl) (Nat.le_of_ble_eq_true rfl) (kd_oT (by omega)) rfl rfl (Or.inl rfl) hC (fun z M1 hQ => ?_)
  exact k z M1 hQ
theorem kX8_thief_20 {X : Scr} {M : Mem} {P : Option AV → Mem → Prop} {x1 x2 x3 xs0 : Int} (k1 : xs0 ≤ x1 → Runs X mX8_thief 33 [(0, vr 0), (1, vi x1), (2, vi x2), (3, vi x3)] [] M P) (k2 : x1 < xs0 → Runs X mX8_thief 28 [(0, vr 0), (3, vi x3), (4, vi xs0)] [] M P) : Runs X mX8_thief 20 [(0, vr 0), (1, vi x1), (2, vi x2), (3, vi x3)] [vi xs0] M P := by
  refine Runs.istore (loc' := [(0, vr 0), (1, vi x1), (2, vi x2), (3, vi x3), (4, vi xs0)]) dX8_thief_20 (by decide) rfl ?_
  refine Runs.iload (j := 4) dX8_thief_22 rfl ?_
  refine Runs.iload_n (j := 1) dX8_thief_24 rfl ?_
  refine Runs.icmp_le (tgt := 33) dX8_thief_25 (by decide) (fun h => ?_) (fun h => ?_)
  · refine Runs.picks (loc' := [(0, vr 0), (1, vi x1), (2, vi x2), (3, vi x3)]) [0, 1, 2, 3] rfl ?_
    exact k1 h
  · refine Runs.picks (loc' := [(0, vr 0), (3, vi x3), (4, vi xs0)]) [0, 3, 4] rfl ?_
    exact k2 h
theorem kX8_thief_28 {X : Scr} {M : Mem} {P : Option AV → Mem → Prop} {x3 x4 : Int} (k : Runs X mX8_thief 33 [(0, vr 0), (1, vi x4), (2, vi x3), (3, vi x3)] [] M P) : Runs X mX8_thief 28 [(0, vr 0), (3, vi x3), (4, vi x4)] [] M P := by
  refine Runs.iload (j := 2) dX8_thief_28 rfl ?_
  refine Runs.istore_n (loc' := [(0, vr 0), (1, vi x4), (3, vi x3), (4, vi x4)]) dX8_thief_30 rfl (by decide) rfl ?_
  refine Runs.iload_n (j := 2) dX8_thief_31 rfl ?_
  refine Runs.istore_n (loc' := [(0, vr 0), (1, vi x4), (2, vi x3), (3, vi x3), (4, vi x4)]) dX8_thief_32 rfl (by decide) rfl ?_
  refine Runs.picks (loc' := [(0, vr 0), (1, vi x4), (2, vi x3), (3, vi x3)]) [0, 1, 2, 3] rfl ?_
  exact k
theorem kX8_thief_33 {X : Scr} {M : Mem} {P : Option AV → Mem → Prop} {x1 x2 x3 : Int} (k : Runs X mX8_thief 7 [(0, vr 0), (1, vi x1), (2, vi x2), (3, vi (x3 + (1 : Int)))] [] M P) (h1 : -2147483648 ≤ (x3 + (1 : Int)) ∧ (x3 + (1 : Int)) ≤ 2147483647 := by omega) : Runs X mX8_thief 33 [(0, vr 0), (1, vi x1), (2, vi x2), (3, vi x3)] [] M P := by
  refine Runs.iinc (k := 3) (loc' := [(0, vr 0), (1, vi x1), (2, vi x2), (3, vi (x3 + (1 : Int)))]) dX8_thief_33 rfl h1 (by decide) rfl ?_
  refine Runs.goto (tgt := 7) dX8_thief_36 (by decide) ?_
  exact k
theorem kX8_thief_39 {X : Scr} {M : Mem} {P : Option AV → Mem → Prop} {x2 : Int} (k : P (some (vi x2)) M) : Runs X mX8_thief 39 [(2, vi x2)] [] M P := by
  refine Runs.iload_n (j := 0) dX8_thief_39 rfl ?_
  exact Runs.reti dX8_thief_40 rfl k
theorem kX8_keep_0 {X : Scr} {M : Mem} {P Q : Option AV → Mem → Prop} {x1 : Int} (hC : Call X mX8_isSlot [vr 0, vi x1] M Q) (k : ∀ (z : Int) (M1 : Mem), Q (some (vi z)) M1 → Runs X mX8_keep 5 [(0, vr 0), (1, vi x1)] [vi z] M1 P) : Runs X mX8_keep 0 [(0, vr 0), (1, vi x1)] [] M P := by
  refine Runs.aload_n (j := 0) dX8_keep_0 rfl ?_
  refine Runs.iload_n (j := 1) dX8_keep_1 rfl ?_
  refine Runs.callVi (y := mX8_isSlot) (n := 1) (as := [vi x1]) (st := []) (q := (RX8, TX8, 12)) dX8_keep_2 oc_X8_isSlot im_X8_isSlot se_X8_isSlot ml_X8_285 rfl ⟨(Nat.le_of_ble_eq_true rfl), (Nat.le_of_ble_eq_true rfl)⟩ (Nat.le_of_ble_eq_true rfl) (Nat.le_of_ble_eq_true rfl) rfl rfl rfl (Or.inr rfl) hC (fun z M1 hQ => ?_)
  exact k z M1 hQ
theorem kX8_keep_5 {X : Scr} {M : Mem} {P : Option AV → Mem → Prop} {x1 xs0 : Int} (k1 : xs0 ≠ 0 → Runs X mX8_keep 10 [(0, vr 0), (1, vi x1)] [] M P) (k2 : xs0 = 0 → Runs X mX8_keep 8 [] [] M P) : Runs X mX8_keep 5 [(0, vr 0), (1, vi x1)] [vi xs0] M P := by
  refine Runs.if_ne (tgt := 10) dX8_keep_5 (by decide) (fun h => ?_) (fun h => ?_)
  · exact k1 h
  · refine Runs.picks (loc' := []) [] rfl ?_
    exact k2 h
theorem kX8_keep_8 {X : Scr} {M : Mem} {P : Option AV → Mem → Prop} (k : P (some (vi (-1 : Int))) M) : Runs X mX8_keep 8 [] [] M P := by
  refine Runs.iconst dX8_keep_8 (by decide) ?_
  exact Runs.reti dX8_keep_9 rfl k
theorem kX8_keep_10 {X : Scr} {M : Mem} {P Q : Option AV → Mem → Prop} {x1 : Int} (hC : Call X mX5_takeIn [vr (oS (x1).toNat), vr (oT 0), vr (oB 0), vr (oR 0)] M Q) (k : ∀ (M1 : Mem), Q none M1 → Runs X mX8_keep 31 [(0, vr 0)] [] M1 P) (h1 : 0 ≤ x1 := by omega) (h2 : x1 < ((2 : Nat) : Int) := by omega) : Runs X mX8_keep 10 [(0, vr 0), (1, vi x1)] [] M P := by
  refine Runs.aload_n (j := 0) dX8_keep_10 rfl ?_
  refine Runs.getr (o' := 30) (ci := 8) (j := 5) (C := RX8) (T := TX8) (N := 12) dX8_keep_11 rfl cls_X8 (by decide) rfl fl_X8_46 rfl ⟨rfl, "", Or.inr ⟨_, rfl⟩⟩ ?_
  refine Runs.iload_n (j := 1) dX8_keep_14 rfl ?_
  refine Runs.aald (o' := (oS (x1).toNat)) dX8_keep_15 rfl h1 h2 (rf_sl (by omega)) ?_
  refine Runs.aload_n (j := 0) dX8_keep_16 rfl ?_
  refine Runs.getr (o' := (oT 0)) (ci := 8) (j := 1) (C := RX8) (T := TX8) (N := 12) dX8_keep_17 rfl cls_X8 (by decide) rfl fl_X8_19 rfl ⟨rfl, _, Or.inl rfl⟩ ?_
  refine Runs.aload_n (j := 0) dX8_keep_20 rfl ?_
  refine Runs.getr (o' := (oB 0)) (ci := 8) (j := 3) (C := RX8) (T := TX8) (N := 12) dX8_keep_21 rfl cls_X8 (by decide) rfl fl_X8_33 rfl ⟨rfl, _, Or.inl rfl⟩ ?_
  refine Runs.aload_n (j := 0) dX8_keep_24 rfl ?_
  refine Runs.getr (o' := (oR 0)) (ci := 8) (j := 4) (C := RX8) (T := TX8) (N := 12) dX8_keep_25 rfl cls_X8 (by decide) rfl fl_X8_40 rfl ⟨rfl, _, Or.inl rfl⟩ ?_
  refine Runs.callVv (y := mX5_takeIn) (n := 3) (as := [vr (oT 0), vr (oB 0), vr (oR 0)]) (st := []) (q := (RX5, TX5, 4)) dX8_keep_28 oc_X5_takeIn im_X5_takeIn se_X5_takeIn ml_X8_288 rfl ⟨(Nat.le_of_ble_eq_true rfl), (Nat.le_of_ble_eq_true rfl)⟩ (Nat.le_of_ble_eq_true rfl) (Nat.le_of_ble_eq_true rfl) (kd_oS (by omega)) rfl rfl rfl hC (fun M1 hQ => ?_)
  refine Runs.picks (loc' := [(0, vr 0)]) [0] rfl ?_
  exact k M1 hQ
theorem kX8_keep_31 {X : Scr} {M : Mem} {P : Option AV → Mem → Prop} (k : P (some (vi (M (oT 0) 1))) M) : Runs X mX8_keep 31 [(0, vr 0)] [] M P := by
  refine Runs.aload_n (j := 0) dX8_keep_31 rfl ?_
  refine Runs.getr (o' := (oT 0)) (ci := 8) (j := 1) (C := RX8) (T := TX8) (N := 12) dX8_keep_32 rfl cls_X8 (by decide) rfl fl_X8_19 rfl ⟨rfl, _, Or.inl rfl⟩ ?_
  refine Runs.geti (ci := 6) (j := 1) (C := RX6) (T := TX6) (N := 2) dX8_keep_35 (kd_oT (by omega)) cls_X6 (by decide) rfl fl_X8_94 (Or.inl rfl) ?_
  exact Runs.reti dX8_keep_38 rfl k
theorem kX8_again_0 {X : Scr} {M : Mem} {P Q : Option AV → Mem → Prop} {x1 : Int} (hC : Call X mX8_isSlot [vr 0, vi x1] M Q) (k : ∀ (z : Int) (M1 : Mem), Q (some (vi z)) M1 → Runs X mX8_again 5 [(0, vr 0), (1, vi x1)] [vi z] M1 P) : Runs X mX8_again 0 [(0, vr 0), (1, vi x1)] [] M P := by
  refine Runs.aload_n (j := 0) dX8_again_0 rfl ?_
  refine Runs.iload_n (j := 1) dX8_again_1 rfl ?_
  refine Runs.callVi (y := mX8_isSlot) (n := 1) (as := [vi x1]) (st := []) (q := (RX8, TX8, 12)) dX8_again_2 oc_X8_isSlot im_X8_isSlot se_X8_isSlot ml_X8_285 rfl ⟨(Nat.le_of_ble_eq_true rfl), (Nat.le_of_ble_eq_true rfl)⟩ (Nat.le_of_ble_eq_true rfl) (Nat.le_of_ble_eq_true rfl) rfl rfl rfl (Or.inr rfl) hC (fun z M1 hQ => ?_)
  exact k z M1 hQ
theorem kX8_again_5 {X : Scr} {M : Mem} {P : Option AV → Mem → Prop} {x1 xs0 : Int} (k1 : xs0 ≠ 0 → Runs X mX8_again 10 [(0, vr 0), (1, vi x1)] [] M P) (k2 : xs0 = 0 → Runs X mX8_again 8 [] [] M P) : Runs X mX8_again 5 [(0, vr 0), (1, vi x1)] [vi xs0] M P := by
  refine Runs.if_ne (tgt := 10) dX8_again_5 (by decide) (fun h => ?_) (fun h => ?_)
  · exact k1 h
  · refine Runs.picks (loc' := []) [] rfl ?_
    exact k2 h
theorem kX8_again_8 {X : Scr} {M : Mem} {P : Option AV → Mem → Prop} (k : P (some (vi (-1 : Int))) M) : Runs X mX8_again 8 [] [] M P := by
  refine Runs.iconst dX8_again_8 (by decide) ?_
  exact Runs.reti dX8_again_9 rfl k
theorem kX8_again_10 {X : Scr} {M : Mem} {P : Option AV → Mem → Prop} {x1 : Int} (k1 : (M (oS (x1).toNat) 3) ≠ 0 → Runs X mX8_again 25 [(0, vr 0), (1, vi x1)] [] M P) (k2 : (M (oS (x1).toNat) 3) = 0 → Runs X mX8_again 22 [] [] M P) (h1 : 0 ≤ x1 := by omega) (h2 : x1 < ((2 : Nat) : Int) := by omega) : Runs X mX8_again 10 [(0, vr 0), (1, vi x1)] [] M P := by
  refine Runs.aload_n (j := 0) dX8_again_10 rfl ?_
  refine Runs.getr (o' := 30) (ci := 8) (j := 5) (C := RX8) (T := TX8) (N := 12) dX8_again_11 rfl cls_X8 (by decide) rfl fl_X8_46 rfl ⟨rfl, "", Or.inr ⟨_, rfl⟩⟩ ?_
  refine Runs.iload_n (j := 1) dX8_again_14 rfl ?_
  refine Runs.aald (o' := (oS (x1).toNat)) dX8_again_15 rfl h1 h2 (rf_sl (by omega)) ?_
  refine Runs.geti (ci := 5) (j := 3) (C := RX5) (T := TX5) (N := 4) dX8_again_16 (kd_oS (by omega)) cls_X5 (by decide) rfl fl_X8_292 (Or.inr (Or.inl rfl)) ?_
  refine Runs.if_ne (tgt := 25) dX8_again_19 (by decide) (fun h => ?_) (fun h => ?_)
  · exact k1 h
  · refine Runs.picks (loc' := []) [] rfl ?_
    exact k2 h
theorem kX8_again_22 {X : Scr} {M : Mem} {P : Option AV → Mem → Prop} (k : P (some (vi (-3 : Int))) M) : Runs X mX8_again 22 [] [] M P := by
  refine Runs.bipush dX8_again_22 (by decide) (by decide) ?_
  exact Runs.reti dX8_again_24 rfl k
theorem kX8_again_25 {X : Scr} {M : Mem} {P Q : Option AV → Mem → Prop} {x1 : Int} (hC : Call X mX5_giveOut [vr (oS (x1).toNat), vr (oT 0), vr (oB 0), vr (oR 0)] M Q) (k : ∀ (M1 : Mem), Q none M1 → Runs X mX8_again 46 [(0, vr 0)] [] M1 P) (h1 : 0 ≤ x1 := by omega) (h2 : x1 < ((2 : Nat) : Int) := by omega) : Runs X mX8_again 25 [(0, vr 0), (1, vi x1)] [] M P := by
  refine Runs.aload_n (j := 0) dX8_again_25 rfl ?_
  refine Runs.getr (o' := 30) (ci := 8) (j := 5) (C := RX8) (T := TX8) (N := 12) dX8_again_26 rfl cls_X8 (by decide) rfl fl_X8_46 rfl ⟨rfl, "", Or.inr ⟨_, rfl⟩⟩ ?_
  refine Runs.iload_n (j := 1) dX8_again_29 rfl ?_
  refine Runs.aald (o' := (oS (x1).toNat)) dX8_again_30 rfl h1 h2 (rf_sl (by omega)) ?_
  refine Runs.aload_n (j := 0) dX8_again_31 rfl ?_
  refine Runs.getr (o' := (oT 0)) (ci := 8) (j := 1) (C := RX8) (T := TX8) (N := 12) dX8_again_32 rfl cls_X8 (by decide) rfl fl_X8_19 rfl ⟨rfl, _, Or.inl rfl⟩ ?_
  refine Runs.aload_n (j := 0) dX8_again_35 rfl ?_
  refine Runs.getr (o' := (oB 0)) (ci := 8) (j := 3) (C := RX8) (T := TX8) (N := 12) dX8_again_36 rfl cls_X8 (by decide) rfl fl_X8_33 rfl ⟨rfl, _, Or.inl rfl⟩ ?_
  refine Runs.aload_n (j := 0) dX8_again_39 rfl ?_
  refine Runs.getr (o' := (oR 0)) (ci := 8) (j := 4) (C := RX8) (T := TX8) (N := 12) dX8_again_40 rfl cls_X8 (by decide) rfl fl_X8_40 rfl ⟨rfl, _, Or.inl rfl⟩ ?_
  refine Runs.callVv (y := mX5_giveOut) (n := 3) (as := [vr (oT 0), vr (oB 0), vr (oR 0)]) (st := []) (q := (RX5, TX5, 4)) dX8_again_43 oc_X5_giveOut im_X5_giveOut se_X5_giveOut ml_X8_295 rfl ⟨(Nat.le_of_ble_eq_true rfl), (Nat.le_of_ble_eq_true rfl)⟩ (Nat.le_of_ble_eq_true rfl) (Nat.le_of_ble_eq_true rfl) (kd_oS (by omega)) rfl rfl rfl hC (fun M1 hQ => ?_)
  refine Runs.picks (loc' := [(0, vr 0)]) [0] rfl ?_
  exact k M1 hQ
theorem kX8_again_46 {X : Scr} {M : Mem} {P : Option AV → Mem → Prop} (k : P (some (vi (M (oT 0) 1))) M) : Runs X mX8_again 46 [(0, vr 0)] [] M P := by
  refine Runs.aload_n (j := 0) dX8_again_46 rfl ?_
  refine Runs.getr (o' := (oT 0)) (ci := 8) (j := 1) (C := RX8) (T := TX8) (N := 12) dX8_again_47 rfl cls_X8 (by decide) rfl fl_X8_19 rfl ⟨rfl, _, Or.inl rfl⟩ ?_
  refine Runs.geti (ci := 6) (j := 1) (C := RX6) (T := TX6) (N := 2) dX8_again_50 (kd_oT (by omega)) cls_X6 (by decide) rfl fl_X8_94 (Or.inl rfl) ?_
  exact Runs.reti dX8_again_53 rfl k
theorem kX8_isTooth_0 {X : Scr} {M : Mem} {P : Option AV → Mem → Prop} {x1 : Int} (k1 : x1 < 0 → Runs X mX8_isTooth 19 [] [] M P) (k2 : 0 ≤ x1 → Runs X mX8_isTooth 4 [(0, vr 0), (1, vi x1)] [] M P) : Runs X mX8_isTooth 0 [(0, vr 0), (1, vi x1)] [] M P := by
  refine Runs.iload_n (j := 1) dX8_isTooth_0 rfl ?_
  refine Runs.if_lt (tgt := 19) dX8_isTooth_1 (by decide) (fun h => ?_) (fun h => ?_)
  · refine Runs.picks (loc' := []) [] rfl ?_
    exact k1 h
  · exact k2 h
theorem kX8_isTooth_4 {X : Scr} {M : Mem} {P : Option AV → Mem → Prop} {x1 : Int} (k1 : (M (oT 0) 1) ≤ x1 → Runs X mX8_isTooth 19 [] [] M P) (k2 : x1 < (M (oT 0) 1) → Runs X mX8_isTooth 15 [] [] M P) : Runs X mX8_isTooth 4 [(0, vr 0), (1, vi x1)] [] M P := by
  refine Runs.iload_n (j := 1) dX8_isTooth_4 rfl ?_
  refine Runs.aload_n (j := 0) dX8_isTooth_5 rfl ?_
  refine Runs.getr (o' := (oT 0)) (ci := 8) (j := 1) (C := RX8) (T := TX8) (N := 12) dX8_isTooth_6 rfl cls_X8 (by decide) rfl fl_X8_19 rfl ⟨rfl, _, Or.inl rfl⟩ ?_
  refine Runs.geti (ci := 6) (j := 1) (C := RX6) (T := TX6) (N := 2) dX8_isTooth_9 (kd_oT (by omega)) cls_X6 (by decide) rfl fl_X8_94 (Or.inl rfl) ?_
  refine Runs.icmp_ge (tgt := 19) dX8_isTooth_12 (by decide) (fun h => ?_) (fun h => ?_)
  · refine Runs.picks (loc' := []) [] rfl ?_
    exact k1 h
  · refine Runs.picks (loc' := []) [] rfl ?_
    exact k2 h
theorem kX8_isTooth_15 {X : Scr} {M : Mem} {P : Option AV → Mem → Prop} (k : Runs X mX8_isTooth 20 [] [vi (1 : Int)] M P) : Runs X mX8_isTooth 15 [] [] M P := by
  refine Runs.iconst dX8_isTooth_15 (by decide) ?_
  refine Runs.goto (tgt := 20) dX8_isTooth_16 (by decide) ?_
  exact k
theorem kX8_isTooth_19 {X : Scr} {M : Mem} {P : Option AV → Mem → Prop} (k : Runs X mX8_isTooth 20 [] [vi (0 : Int)] M P) : Runs X mX8_isTooth 19 [] [] M P := by
  refine Runs.iconst dX8_isTooth_19 (by decide) ?_
  exact k
theorem kX8_isTooth_20 {X : Scr} {M : Mem} {P : Option AV → Mem → Prop} {xs0 : Int} (k : P (some (vi xs0)) M) (h1 : 0 ≤ xs0 ∧ xs0 ≤ 1 := by omega) : Runs X mX8_isTooth 20 [] [vi xs0] M P := by
  exact Runs.retz dX8_isTooth_20 rfl h1 k
theorem kX8_isGood_0 {X : Scr} {M : Mem} {P : Option AV → Mem → Prop} {x1 : Int} (k1 : x1 < 0 → Runs X mX8_isGood 19 [] [] M P) (k2 : 0 ≤ x1 → Runs X mX8_isGood 4 [(0, vr 0), (1, vi x1)] [] M P) : Runs X mX8_isGood 0 [(0, vr 0), (1, vi x1)] [] M P := by
  refine Runs.iload_n (j := 1) dX8_isGood_0 rfl ?_
  refine Runs.if_lt (tgt := 19) dX8_isGood_1 (by decide) (fun h => ?_) (fun h => ?_)
  · refine Runs.picks (loc' := []) [] rfl ?_
    exact k1 h
  · exact k2 h
theorem kX8_isGood_4 {X : Scr} {M : Mem} {P : Option AV → Mem → Prop} {x1 : Int} (k1 : (M 3 2) ≤ x1 → Runs X mX8_isGood 19 [] [] M P) (k2 : x1 < (M 3 2) → Runs X mX8_isGood 15 [] [] M P) : Runs X mX8_isGood 4 [(0, vr 0), (1, vi x1)] [] M P := by
  refine Runs.iload_n (j := 1) dX8_isGood_4 rfl ?_
  refine Runs.aload_n (j := 0) dX8_isGood_5 rfl ?_
  refine Runs.getr (o' := 3) (ci := 8) (j := 2) (C := RX8) (T := TX8) (N := 12) dX8_isGood_6 rfl cls_X8 (by decide) rfl fl_X8_26 rfl ⟨rfl, _, Or.inl rfl⟩ ?_
  refine Runs.geti (ci := 1) (j := 2) (C := RX1) (T := TX1) (N := 3) dX8_isGood_9 rfl cls_X1 (by decide) rfl fl_X8_97 (Or.inl rfl) ?_
  refine Runs.icmp_ge (tgt := 19) dX8_isGood_12 (by decide) (fun h => ?_) (fun h => ?_)
  · refine Runs.picks (loc' := []) [] rfl ?_
    exact k1 h
  · refine Runs.picks (loc' := []) [] rfl ?_
    exact k2 h
theorem kX8_isGood_15 {X : Scr} {M : Mem} {P : Option AV → Mem → Prop} (k : Runs X mX8_isGood 20 [] [vi (1 : Int)] M P) : Runs X mX8_isGood 15 [] [] M P := by
  refine Runs.iconst dX8_isGood_15 (by decide) ?_
  refine Runs.goto (tgt := 20) dX8_isGood_16 (by decide) ?_
  exact k
theorem kX8_isGood_19 {X : Scr} {M : Mem} {P : Option AV → Mem → Prop} (k : Runs X mX8_isGood 20 [] [vi (0 : Int)] M P) : Runs X mX8_isGood 19 [] [] M P := by
  refine Runs.iconst dX8_isGood_19 (by decide) ?_
  exact k
theorem kX8_isGood_20 {X : Scr} {M : Mem} {P : Option AV → Mem → Prop} {xs0 : Int} (k : P (some (vi xs0)) M) (h1 : 0 ≤ xs0 ∧ xs0 ≤ 1 := by omega) : Runs X mX8_isGood 20 [] [vi xs0] M P := by
  exact Runs.retz dX8_isGood_20 rfl h1 k
theorem kX8_isSlot_0 {X : Scr} {M : Mem} {P : Option AV → Mem → Prop} {x1 : Int} (k1 : x1 < 0 → Runs X mX8_isSlot 26 [] [] M P) (k2 : 0 ≤ x1 → Runs X mX8_isSlot 4 [(0, vr 0), (1, vi x1)] [] M P) : Runs X mX8_isSlot 0 [(0, vr 0), (1, vi x1)] [] M P := by
  refine Runs.iload_n (j := 1) dX8_isSlot_0 rfl ?_
  refine Runs.if_lt (tgt := 26) dX8_isSlot_1 (by decide) (fun h => ?_) (fun h => ?_)
  · refine Runs.picks (loc' := []) [] rfl ?_
    exact k1 h
  · exact k2 h
theorem kX8_isSlot_4 {X : Scr} {M : Mem} {P : Option AV → Mem → Prop} {x1 : Int} (k1 : ((2 : Nat) : Int) ≤ x1 → Runs X mX8_isSlot 26 [] [] M P) (k2 : x1 < ((2 : Nat) : Int) → Runs X mX8_isSlot 13 [(0, vr 0), (1, vi x1)] [] M P) : Runs X mX8_isSlot 4 [(0, vr 0), (1, vi x1)] [] M P := by
  refine Runs.iload_n (j := 1) dX8_isSlot_4 rfl ?_
  refine Runs.aload_n (j := 0) dX8_isSlot_5 rfl ?_
  refine Runs.getr (o' := 30) (ci := 8) (j := 5) (C := RX8) (T := TX8) (N := 12) dX8_isSlot_6 rfl cls_X8 (by decide) rfl fl_X8_46 rfl ⟨rfl, "", Or.inr ⟨_, rfl⟩⟩ ?_
  refine Runs.alen dX8_isSlot_9 rfl (by decide) ?_
  refine Runs.icmp_ge (tgt := 26) dX8_isSlot_10 (by decide) (fun h => ?_) (fun h => ?_)
  · refine Runs.picks (loc' := []) [] rfl ?_
    exact k1 h
  · exact k2 h
theorem kX8_isSlot_13 {X : Scr} {M : Mem} {P : Option AV → Mem → Prop} {x1 : Int} (k : Runs X mX8_isSlot 27 [] [vi (1 : Int)] M P) (h1 : 0 ≤ x1 := by omega) (h2 : x1 < ((2 : Nat) : Int) := by omega) : Runs X mX8_isSlot 13 [(0, vr 0), (1, vi x1)] [] M P := by
  refine Runs.aload_n (j := 0) dX8_isSlot_13 rfl ?_
  refine Runs.getr (o' := 30) (ci := 8) (j := 5) (C := RX8) (T := TX8) (N := 12) dX8_isSlot_14 rfl cls_X8 (by decide) rfl fl_X8_46 rfl ⟨rfl, "", Or.inr ⟨_, rfl⟩⟩ ?_
  refine Runs.iload_n (j := 1) dX8_isSlot_17 rfl ?_
  refine Runs.aald (o' := (oS (x1).toNat)) dX8_isSlot_18 rfl h1 h2 (rf_sl (by omega)) ?_
  refine Runs.ifnull dX8_isSlot_19 ?_
  refine Runs.iconst dX8_isSlot_22 (by decide) ?_
  refine Runs.goto (tgt := 27) dX8_isSlot_23 (by decide) ?_
  refine Runs.picks (loc' := []) [] rfl ?_
  exact k
theorem kX8_isSlot_26 {X : Scr} {M : Mem} {P : Option AV → Mem → Prop} (k : Runs X mX8_isSlot 27 [] [vi (0 : Int)] M P) : Runs X mX8_isSlot 26 [] [] M P := by
  refine Runs.iconst dX8_isSlot_26 (by decide) ?_
  exact k
theorem kX8_isSlot_27 {X : Scr} {M : Mem} {P : Option AV → Mem → Prop} {xs0 : Int} (k : P (some (vi xs0)) M) (h1 : 0 ≤ xs0 ∧ xs0 ≤ 1 := by omega) : Runs X mX8_isSlot 27 [] [vi xs0] M P := by
  exact Runs.retz dX8_isSlot_27 rfl h1 k
theorem kX8_isPerson_0 {X : Scr} {M : Mem} {P : Option AV → Mem → Prop} {x0 : Int} (k1 : x0 < 0 → Runs X mX8_isPerson 13 [] [] M P) (k2 : 0 ≤ x0 → Runs X mX8_isPerson 4 [(0, vi x0)] [] M P) : Runs X mX8_isPerson 0 [(0, vi x0)] [] M P := by
  refine Runs.iload_n (j := 0) dX8_isPerson_0 rfl ?_
  refine Runs.if_lt (tgt := 13) dX8_isPerson_1 (by decide) (fun h => ?_) (fun h => ?_)
  · refine Runs.picks (loc' := []) [] rfl ?_
    exact k1 h
  · exact k2 h
theorem kX8_isPerson_4 {X : Scr} {M : Mem} {P : Option AV → Mem → Prop} {x0 : Int} (k1 : (4 : Int) ≤ x0 → Runs X mX8_isPerson 13 [] [] M P) (k2 : x0 < (4 : Int) → Runs X mX8_isPerson 9 [] [] M P) : Runs X mX8_isPerson 4 [(0, vi x0)] [] M P := by
  refine Runs.iload_n (j := 0) dX8_isPerson_4 rfl ?_
  refine Runs.iconst dX8_isPerson_5 (by decide) ?_
  refine Runs.icmp_ge (tgt := 13) dX8_isPerson_6 (by decide) (fun h => ?_) (fun h => ?_)
  · refine Runs.picks (loc' := []) [] rfl ?_
    exact k1 h
  · refine Runs.picks (loc' := []) [] rfl ?_
    exact k2 h
theorem kX8_isPerson_9 {X : Scr} {M : Mem} {P : Option AV → Mem → Prop} (k : Runs X mX8_isPerson 14 [] [vi (1 : Int)] M P) : Runs X mX8_isPerson 9 [] [] M P := by
  refine Runs.iconst dX8_isPerson_9 (by decide) ?_
  refine Runs.goto (tgt := 14) dX8_isPerson_10 (by decide) ?_
  exact k
theorem kX8_isPerson_13 {X : Scr} {M : Mem} {P : Option AV → Mem → Prop} (k : Runs X mX8_isPerson 14 [] [vi (0 : Int)] M P) : Runs X mX8_isPerson 13 [] [] M P := by
  refine Runs.iconst dX8_isPerson_13 (by decide) ?_
  exact k
theorem kX8_isPerson_14 {X : Scr} {M : Mem} {P : Option AV → Mem → Prop} {xs0 : Int} (k : P (some (vi xs0)) M) (h1 : 0 ≤ xs0 ∧ xs0 ≤ 1 := by omega) : Runs X mX8_isPerson 14 [] [vi xs0] M P := by
  exact Runs.retz dX8_isPerson_14 rfl h1 k
theorem kX8_isMoney_0 {X : Scr} {M : Mem} {P : Option AV → Mem → Prop} {x0 : Int} (k1 : x0 < 0 → Runs X mX8_isMoney 13 [] [] M P) (k2 : 0 ≤ x0 → Runs X mX8_isMoney 4 [(0, vi x0)] [] M P) : Runs X mX8_isMoney 0 [(0, vi x0)] [] M P := by
  refine Runs.iload_n (j := 0) dX8_isMoney_0 rfl ?_
  refine Runs.if_lt (tgt := 13) dX8_isMoney_1 (by decide) (fun h => ?_) (fun h => ?_)
  · refine Runs.picks (loc' := []) [] rfl ?_
    exact k1 h
  · exact k2 h
theorem kX8_isMoney_4 {X : Scr} {M : Mem} {P : Option AV → Mem → Prop} {x0 : Int} (k1 : (4 : Int) ≤ x0 → Runs X mX8_isMoney 13 [] [] M P) (k2 : x0 < (4 : Int) → Runs X mX8_isMoney 9 [] [] M P) : Runs X mX8_isMoney 4 [(0, vi x0)] [] M P := by
  refine Runs.iload_n (j := 0) dX8_isMoney_4 rfl ?_
  refine Runs.iconst dX8_isMoney_5 (by decide) ?_
  refine Runs.icmp_ge (tgt := 13) dX8_isMoney_6 (by decide) (fun h => ?_) (fun h => ?_)
  · refine Runs.picks (loc' := []) [] rfl ?_
    exact k1 h
  · refine Runs.picks (loc' := []) [] rfl ?_
    exact k2 h
theorem kX8_isMoney_9 {X : Scr} {M : Mem} {P : Option AV → Mem → Prop} (k : Runs X mX8_isMoney 14 [] [vi (1 : Int)] M P) : Runs X mX8_isMoney 9 [] [] M P := by
  refine Runs.iconst dX8_isMoney_9 (by decide) ?_
  refine Runs.goto (tgt := 14) dX8_isMoney_10 (by decide) ?_
  exact k
theorem kX8_isMoney_13 {X : Scr} {M : Mem} {P : Option AV → Mem → Prop} (k : Runs X mX8_isMoney 14 [] [vi (0 : Int)] M P) : Runs X mX8_isMoney 13 [] [] M P := by
  refine Runs.iconst dX8_isMoney_13 (by decide) ?_
  exact k
theorem kX8_isMoney_14 {X : Scr} {M : Mem} {P : Option AV → Mem → Prop} {xs0 : Int} (k : P (some (vi xs0)) M) (h1 : 0 ≤ xs0 ∧ xs0 ≤ 1 := by omega) : Runs X mX8_isMoney 14 [] [vi xs0] M P := by
  exact Runs.retz dX8_isMoney_14 rfl h1 k
theorem kX8_isPrice_0 {X : Scr} {M : Mem} {P : Option AV → Mem → Prop} {x0 : Int} (k1 : x0 < 0 → Runs X mX8_isPrice 15 [] [] M P) (k2 : 0 ≤ x0 → Runs X mX8_isPrice 4 [(0, vi x0)] [] M P) : Runs X mX8_isPrice 0 [(0, vi x0)] [] M P := by
  refine Runs.iload_n (j := 0) dX8_isPrice_0 rfl ?_
  refine Runs.if_lt (tgt := 15) dX8_isPrice_1 (by decide) (fun h => ?_) (fun h => ?_)
  · refine Runs.picks (loc' := []) [] rfl ?_
    exact k1 h
  · exact k2 h
theorem kX8_isPrice_4 {X : Scr} {M : Mem} {P : Option AV → Mem → Prop} {x0 : Int} (k1 : (999 : Int) < x0 → Runs X mX8_isPrice 15 [] [] M P) (k2 : x0 ≤ (999 : Int) → Runs X mX8_isPrice 11 [] [] M P) : Runs X mX8_isPrice 4 [(0, vi x0)] [] M P := by
  refine Runs.iload_n (j := 0) dX8_isPrice_4 rfl ?_
  refine Runs.sipush dX8_isPrice_5 (by decide) (by decide) ?_
  refine Runs.icmp_gt (tgt := 15) dX8_isPrice_8 (by decide) (fun h => ?_) (fun h => ?_)
  · refine Runs.picks (loc' := []) [] rfl ?_
    exact k1 h
  · refine Runs.picks (loc' := []) [] rfl ?_
    exact k2 h
theorem kX8_isPrice_11 {X : Scr} {M : Mem} {P : Option AV → Mem → Prop} (k : Runs X mX8_isPrice 16 [] [vi (1 : Int)] M P) : Runs X mX8_isPrice 11 [] [] M P := by
  refine Runs.iconst dX8_isPrice_11 (by decide) ?_
  refine Runs.goto (tgt := 16) dX8_isPrice_12 (by decide) ?_
  exact k
theorem kX8_isPrice_15 {X : Scr} {M : Mem} {P : Option AV → Mem → Prop} (k : Runs X mX8_isPrice 16 [] [vi (0 : Int)] M P) : Runs X mX8_isPrice 15 [] [] M P := by
  refine Runs.iconst dX8_isPrice_15 (by decide) ?_
  exact k
theorem kX8_isPrice_16 {X : Scr} {M : Mem} {P : Option AV → Mem → Prop} {xs0 : Int} (k : P (some (vi xs0)) M) (h1 : 0 ≤ xs0 ∧ xs0 ≤ 1 := by omega) : Runs X mX8_isPrice 16 [] [vi xs0] M P := by
  exact Runs.retz dX8_isPrice_16 rfl h1 k
theorem kX8_isTenths_0 {X : Scr} {M : Mem} {P : Option AV → Mem → Prop} {x0 : Int} (k1 : x0 < 0 → Runs X mX8_isTenths 14 [] [] M P) (k2 : 0 ≤ x0 → Runs X mX8_isTenths 4 [(0, vi x0)] [] M P) : Runs X mX8_isTenths 0 [(0, vi x0)] [] M P := by
  refine Runs.iload_n (j := 0) dX8_isTenths_0 rfl ?_
  refine Runs.if_lt (tgt := 14) dX8_isTenths_1 (by decide) (fun h => ?_) (fun h => ?_)
  · refine Runs.picks (loc' := []) [] rfl ?_
    exact k1 h
  · exact k2 h
theorem kX8_isTenths_4 {X : Scr} {M : Mem} {P : Option AV → Mem → Prop} {x0 : Int} (k1 : (10 : Int) < x0 → Runs X mX8_isTenths 14 [] [] M P) (k2 : x0 ≤ (10 : Int) → Runs X mX8_isTenths 10 [] [] M P) : Runs X mX8_isTenths 4 [(0, vi x0)] [] M P := by
  refine Runs.iload_n (j := 0) dX8_isTenths_4 rfl ?_
  refine Runs.bipush dX8_isTenths_5 (by decide) (by decide) ?_
  refine Runs.icmp_gt (tgt := 14) dX8_isTenths_7 (by decide) (fun h => ?_) (fun h => ?_)
  · refine Runs.picks (loc' := []) [] rfl ?_
    exact k1 h
  · refine Runs.picks (loc' := []) [] rfl ?_
    exact k2 h
theorem kX8_isTenths_10 {X : Scr} {M : Mem} {P : Option AV → Mem → Prop} (k : Runs X mX8_isTenths 15 [] [vi (1 : Int)] M P) : Runs X mX8_isTenths 10 [] [] M P := by
  refine Runs.iconst dX8_isTenths_10 (by decide) ?_
  refine Runs.goto (tgt := 15) dX8_isTenths_11 (by decide) ?_
  exact k
theorem kX8_isTenths_14 {X : Scr} {M : Mem} {P : Option AV → Mem → Prop} (k : Runs X mX8_isTenths 15 [] [vi (0 : Int)] M P) : Runs X mX8_isTenths 14 [] [] M P := by
  refine Runs.iconst dX8_isTenths_14 (by decide) ?_
  exact k
theorem kX8_isTenths_15 {X : Scr} {M : Mem} {P : Option AV → Mem → Prop} {xs0 : Int} (k : P (some (vi xs0)) M) (h1 : 0 ≤ xs0 ∧ xs0 ≤ 1 := by omega) : Runs X mX8_isTenths 15 [] [vi xs0] M P := by
  exact Runs.retz dX8_isTenths_15 rfl h1 k
theorem kX8_paymentRefusal_0 {X : Scr} {M : Mem} {P Q : Option AV → Mem → Prop} {x0 x1 x2 : Int} (hC : Call X mX8_isPerson [vi x0] M Q) (k : ∀ (z : Int) (M1 : Mem), Q (some (vi z)) M1 → Runs X mX8_paymentRefusal 4 [(0, vi x0), (1, vi x1), (2, vi x2)] [vi z] M1 P) : Runs X mX8_paymentRefusal 0 [(0, vi x0), (1, vi x1), (2, vi x2)] [] M P := by
  refine Runs.iload_n (j := 0) dX8_paymentRefusal_0 rfl ?_
  refine Runs.callSi (y := mX8_isPerson) (n := 1) (as := [vi x0]) (st := []) dX8_paymentRefusal_1 oc_X8_isPerson sm_X8_isPerson ml_X8_139 rfl ⟨(Nat.le_of_ble_eq_true rfl), (Nat.le_of_ble_eq_true rfl)⟩ (Nat.le_of_ble_eq_true rfl) (Nat.le_of_ble_eq_true rfl) (Or.inr rfl) hC (fun z M1 hQ => ?_)
  exact k z M1 hQ
theorem kX8_paymentRefusal_4 {X : Scr} {M : Mem} {P : Option AV → Mem → Prop} {x0 x1 x2 xs0 : Int} (k1 : xs0 = 0 → Runs X mX8_paymentRefusal 14 [] [] M P) (k2 : xs0 ≠ 0 → Runs X mX8_paymentRefusal 7 [(0, vi x0), (1, vi x1), (2, vi x2)] [] M P) : Runs X mX8_paymentRefusal 4 [(0, vi x0), (1, vi x1), (2, vi x2)] [vi xs0] M P := by
  refine Runs.if_eq (tgt := 14) dX8_paymentRefusal_4 (by decide) (fun h => ?_) (fun h => ?_)
  · refine Runs.picks (loc' := []) [] rfl ?_
    exact k1 h
  · exact k2 h
theorem kX8_paymentRefusal_7 {X : Scr} {M : Mem} {P Q : Option AV → Mem → Prop} {x0 x1 x2 : Int} (hC : Call X mX8_isPerson [vi x1] M Q) (k : ∀ (z : Int) (M1 : Mem), Q (some (vi z)) M1 → Runs X mX8_paymentRefusal 11 [(0, vi x0), (1, vi x1), (2, vi x2)] [vi z] M1 P) : Runs X mX8_paymentRefusal 7 [(0, vi x0), (1, vi x1), (2, vi x2)] [] M P := by
  refine Runs.iload_n (j := 1) dX8_paymentRefusal_7 rfl ?_
  refine Runs.callSi (y := mX8_isPerson) (n := 1) (as := [vi x1]) (st := []) dX8_paymentRefusal_8 oc_X8_isPerson sm_X8_isPerson ml_X8_139 rfl ⟨(Nat.le_of_ble_eq_true rfl), (Nat.le_of_ble_eq_true rfl)⟩ (Nat.le_of_ble_eq_true rfl) (Nat.le_of_ble_eq_true rfl) (Or.inr rfl) hC (fun z M1 hQ => ?_)
  exact k z M1 hQ
theorem kX8_paymentRefusal_11 {X : Scr} {M : Mem} {P : Option AV → Mem → Prop} {x0 x1 x2 xs0 : Int} (k1 : xs0 ≠ 0 → Runs X mX8_paymentRefusal 16 [(0, vi x0), (1, vi x1), (2, vi x2)] [] M P) (k2 : xs0 = 0 → Runs X mX8_paymentRefusal 14 [] [] M P) : Runs X mX8_paymentRefusal 11 [(0, vi x0), (1, vi x1), (2, vi x2)] [vi xs0] M P := by
  refine Runs.if_ne (tgt := 16) dX8_paymentRefusal_11 (by decide) (fun h => ?_) (fun h => ?_)
  · exact k1 h
  · refine Runs.picks (loc' := []) [] rfl ?_
    exact k2 h
theorem kX8_paymentRefusal_14 {X : Scr} {M : Mem} {P : Option AV → Mem → Prop} (k : P (some (vi (-1 : Int))) M) : Runs X mX8_paymentRefusal 14 [] [] M P := by
  refine Runs.iconst dX8_paymentRefusal_14 (by decide) ?_
  exact Runs.reti dX8_paymentRefusal_15 rfl k
theorem kX8_paymentRefusal_16 {X : Scr} {M : Mem} {P : Option AV → Mem → Prop} {x0 x1 x2 : Int} (k1 : x0 = x1 → Runs X mX8_paymentRefusal 28 [] [] M P) (k2 : x0 ≠ x1 → Runs X mX8_paymentRefusal 21 [(2, vi x2)] [] M P) : Runs X mX8_paymentRefusal 16 [(0, vi x0), (1, vi x1), (2, vi x2)] [] M P := by
  refine Runs.iload_n (j := 0) dX8_paymentRefusal_16 rfl ?_
  refine Runs.iload_n (j := 1) dX8_paymentRefusal_17 rfl ?_
  refine Runs.icmp_eq (tgt := 28) dX8_paymentRefusal_18 (by decide) (fun h => ?_) (fun h => ?_)
  · refine Runs.picks (loc' := []) [] rfl ?_
    exact k1 h
  · refine Runs.picks (loc' := [(2, vi x2)]) [2] rfl ?_
    exact k2 h
theorem kX8_paymentRefusal_21 {X : Scr} {M : Mem} {P Q : Option AV → Mem → Prop} {x2 : Int} (hC : Call X mX8_isPrice [vi x2] M Q) (k : ∀ (z : Int) (M1 : Mem), Q (some (vi z)) M1 → Runs X mX8_paymentRefusal 25 [] [vi z] M1 P) : Runs X mX8_paymentRefusal 21 [(2, vi x2)] [] M P := by
  refine Runs.iload_n (j := 0) dX8_paymentRefusal_21 rfl ?_
  refine Runs.callSi (y := mX8_isPrice) (n := 1) (as := [vi x2]) (st := []) dX8_paymentRefusal_22 oc_X8_isPrice sm_X8_isPrice ml_X8_186 rfl ⟨(Nat.le_of_ble_eq_true rfl), (Nat.le_of_ble_eq_true rfl)⟩ (Nat.le_of_ble_eq_true rfl) (Nat.le_of_ble_eq_true rfl) (Or.inr rfl) hC (fun z M1 hQ => ?_)
  refine Runs.picks (loc' := []) [] rfl ?_
  exact k z M1 hQ
theorem kX8_paymentRefusal_25 {X : Scr} {M : Mem} {P : Option AV → Mem → Prop} {xs0 : Int} (k1 : xs0 ≠ 0 → Runs X mX8_paymentRefusal 33 [] [] M P) (k2 : xs0 = 0 → Runs X mX8_paymentRefusal 28 [] [] M P) : Runs X mX8_paymentRefusal 25 [] [vi xs0] M P := by
  refine Runs.if_ne (tgt := 33) dX8_paymentRefusal_25 (by decide) (fun h => ?_) (fun h => ?_)
  · exact k1 h
  · exact k2 h
theorem kX8_paymentRefusal_28 {X : Scr} {M : Mem} {P : Option AV → Mem → Prop} (k : Runs X mX8_paymentRefusal 34 [] [vi (-2 : Int)] M P) : Runs X mX8_paymentRefusal 28 [] [] M P := by
  refine Runs.bipush dX8_paymentRefusal_28 (by decide) (by decide) ?_
  refine Runs.goto (tgt := 34) dX8_paymentRefusal_30 (by decide) ?_
  exact k
theorem kX8_paymentRefusal_33 {X : Scr} {M : Mem} {P : Option AV → Mem → Prop} (k : Runs X mX8_paymentRefusal 34 [] [vi (0 : Int)] M P) : Runs X mX8_paymentRefusal 33 [] [] M P := by
  refine Runs.iconst dX8_paymentRefusal_33 (by decide) ?_
  exact k
theorem kX8_paymentRefusal_34 {X : Scr} {M : Mem} {P : Option AV → Mem → Prop} {xs0 : Int} (k : P (some (vi xs0)) M) : Runs X mX8_paymentRefusal 34 [] [vi xs0] M P := by
  exact Runs.reti dX8_paymentRefusal_34 rfl k
theorem kX8_readPart_0 {X : Scr} {M : Mem} {P Q : Option AV → Mem → Prop} {x1 : Int} (hC : Call X mX7_byteAt [vr 1, vi x1] M Q) (k : ∀ (z : Int) (M1 : Mem), Q (some (vi z)) M1 → Runs X mX8_readPart 8 [(0, vr 0), (1, vi x1)] [vi z] M1 P) : Runs X mX8_readPart 0 [(0, vr 0), (1, vi x1)] [] M P := by
  refine Runs.aload_n (j := 0) dX8_readPart_0 rfl ?_
  refine Runs.getr (o' := 1) (ci := 8) (j := 0) (C := RX8) (T := TX8) (N := 12) dX8_readPart_1 rfl cls_X8 (by decide) rfl fl_X8_10 rfl ⟨rfl, _, Or.inl rfl⟩ ?_
  refine Runs.iload_n (j := 1) dX8_readPart_4 rfl ?_
  refine Runs.callVi (y := mX7_byteAt) (n := 1) (as := [vi x1]) (st := []) (q := (RX7, TX7, 2)) dX8_readPart_5 oc_X7_byteAt im_X7_byteAt se_X7_byteAt ml_X8_105 rfl ⟨(Nat.le_of_ble_eq_true rfl), (Nat.le_of_ble_eq_true rfl)⟩ (Nat.le_of_ble_eq_true rfl) (Nat.le_of_ble_eq_true rfl) rfl rfl rfl (Or.inl rfl) hC (fun z M1 hQ => ?_)
  exact k z M1 hQ
theorem kX8_readPart_8 {X : Scr} {M : Mem} {P Q : Option AV → Mem → Prop} {x1 xs0 : Int} (hC : Call X mX7_tellsTooth [vi xs0] M Q) (k : ∀ (z : Int) (M1 : Mem), Q (some (vi z)) M1 → Runs X mX8_readPart 13 [(0, vr 0), (1, vi x1), (2, vi xs0)] [vi z] M1 P) : Runs X mX8_readPart 8 [(0, vr 0), (1, vi x1)] [vi xs0] M P := by
  refine Runs.istore_n (loc' := [(0, vr 0), (1, vi x1), (2, vi xs0)]) dX8_readPart_8 rfl (by decide) rfl ?_
  refine Runs.iload_n (j := 2) dX8_readPart_9 rfl ?_
  refine Runs.callSi (y := mX7_tellsTooth) (n := 1) (as := [vi xs0]) (st := []) dX8_readPart_10 oc_X7_tellsTooth sm_X7_tellsTooth ml_X8_298 rfl ⟨(Nat.le_of_ble_eq_true rfl), (Nat.le_of_ble_eq_true rfl)⟩ (Nat.le_of_ble_eq_true rfl) (Nat.le_of_ble_eq_true rfl) (Or.inr rfl) hC (fun z M1 hQ => ?_)
  exact k z M1 hQ
theorem kX8_readPart_13 {X : Scr} {M : Mem} {P : Option AV → Mem → Prop} {x1 x2 xs0 : Int} (k1 : xs0 = 0 → Runs X mX8_readPart 125 [(0, vr 0), (1, vi x1), (2, vi x2)] [] M P) (k2 : xs0 ≠ 0 → Runs X mX8_readPart 16 [(0, vr 0), (1, vi x1), (2, vi x2)] [] M P) : Runs X mX8_readPart 13 [(0, vr 0), (1, vi x1), (2, vi x2)] [vi xs0] M P := by
  refine Runs.if_eq (tgt := 125) dX8_readPart_13 (by decide) (fun h => ?_) (fun h => ?_)
  · exact k1 h
  · exact k2 h
theorem kX8_readPart_16 {X : Scr} {M : Mem} {P Q : Option AV → Mem → Prop} {x1 x2 : Int} (hC : Call X mX7_figureAt [vr 1, vi (x1 + (1 : Int))] M Q) (k : ∀ (z : Int) (M1 : Mem), Q (some (vi z)) M1 → Runs X mX8_readPart 30 [(0, vr 0), (1, vi x1), (2, vi x2)] [vi z, vr (oT 0)] M1 P) (h1 : -2147483648 ≤ (x1 + (1 : Int)) ∧ (x1 + (1 : Int)) ≤ 2147483647 := by omega) : Runs X mX8_readPart 16 [(0, vr 0), (1, vi x1), (2, vi x2)] [] M P := by
  refine Runs.aload_n (j := 0) dX8_readPart_16 rfl ?_
  refine Runs.getr (o' := (oT 0)) (ci := 8) (j := 1) (C := RX8) (T := TX8) (N := 12) dX8_readPart_17 rfl cls_X8 (by decide) rfl fl_X8_19 rfl ⟨rfl, _, Or.inl rfl⟩ ?_
  refine Runs.aload_n (j := 0) dX8_readPart_20 rfl ?_
  refine Runs.getr (o' := 1) (ci := 8) (j := 0) (C := RX8) (T := TX8) (N := 12) dX8_readPart_21 rfl cls_X8 (by decide) rfl fl_X8_10 rfl ⟨rfl, _, Or.inl rfl⟩ ?_
  refine Runs.iload_n (j := 1) dX8_readPart_24 rfl ?_
  refine Runs.iconst dX8_readPart_25 (by decide) ?_
  refine Runs.iadd dX8_readPart_26 h1 ?_
  refine Runs.callVi (y := mX7_figureAt) (n := 1) (as := [vi (x1 + (1 : Int))]) (st := [vr (oT 0)]) (q := (RX7, TX7, 2)) dX8_readPart_27 oc_X7_figureAt im_X7_figureAt se_X7_figureAt ml_X8_90 rfl ⟨(Nat.le_of_ble_eq_true rfl), (Nat.le_of_ble_eq_true rfl)⟩ (Nat.le_of_ble_eq_true rfl) (Nat.le_of_ble_eq_true rfl) rfl rfl rfl (Or.inl rfl) hC (fun z M1 hQ => ?_)
  exact k z M1 hQ
theorem kX8_readPart_30 {X : Scr} {M : Mem} {P Q : Option AV → Mem → Prop} {ts0 : Nat} {x1 x2 xs1 : Int} (hC : Call X mX7_byteAt [vr 1, vi (x1 + (2 : Int))] M Q) (k : ∀ (z : Int) (M1 : Mem), Q (some (vi z)) M1 → Runs X mX8_readPart 40 [(0, vr 0), (1, vi x1), (2, vi x2)] [vi z, vi xs1, vr (oT ts0)] M1 P) (hb_ts0 : ts0 < 27 := by omega) (h1 : -2147483648 ≤ (x1 + (2 : Int)) ∧ (x1 + (2 : Int)) ≤ 2147483647 := by omega) : Runs X mX8_readPart 30 [(0, vr 0), (1, vi x1), (2, vi x2)] [vi xs1, vr (oT ts0)] M P := by
  refine Runs.aload_n (j := 0) dX8_readPart_30 rfl ?_
  refine Runs.getr (o' := 1) (ci := 8) (j := 0) (C := RX8) (T := TX8) (N := 12) dX8_readPart_31 rfl cls_X8 (by decide) rfl fl_X8_10 rfl ⟨rfl, _, Or.inl rfl⟩ ?_
  refine Runs.iload_n (j := 1) dX8_readPart_34 rfl ?_
  refine Runs.iconst dX8_readPart_35 (by decide) ?_
  refine Runs.iadd dX8_readPart_36 h1 ?_
  refine Runs.callVi (y := mX7_byteAt) (n := 1) (as := [vi (x1 + (2 : Int))]) (st := [vi xs1, vr (oT ts0)]) (q := (RX7, TX7, 2)) dX8_readPart_37 oc_X7_byteAt im_X7_byteAt se_X7_byteAt ml_X8_105 rfl ⟨(Nat.le_of_ble_eq_true rfl), (Nat.le_of_ble_eq_true rfl)⟩ (Nat.le_of_ble_eq_true rfl) (Nat.le_of_ble_eq_true rfl) rfl rfl rfl (Or.inl rfl) hC (fun z M1 hQ => ?_)
  exact k z M1 hQ
theorem kX8_readPart_40 {X : Scr} {M : Mem} {P : Option AV → Mem → Prop} {ts0 : Nat} {x1 x2 xs1 xs2 : Int} (k1 : xs2 ≠ (76 : Int) → Runs X mX8_readPart 49 [(0, vr 0), (1, vi x1), (2, vi x2)] [vi xs1, vr (oT ts0)] M P) (k2 : xs2 = (76 : Int) → Runs X mX8_readPart 45 [(0, vr 0), (1, vi x1), (2, vi x2)] [vi xs1, vr (oT ts0)] M P) (hb_ts0 : ts0 < 27 := by omega) : Runs X mX8_readPart 40 [(0, vr 0), (1, vi x1), (2, vi x2)] [vi xs2, vi xs1, vr (oT ts0)] M P := by
  refine Runs.bipush dX8_readPart_40 (by decide) (by decide) ?_
  refine Runs.icmp_ne (tgt := 49) dX8_readPart_42 (by decide) (fun h => ?_) (fun h => ?_)
  · exact k1 h
  · exact k2 h
theorem kX8_readPart_45 {X : Scr} {M : Mem} {P : Option AV → Mem → Prop} {ts0 : Nat} {x1 x2 xs1 : Int} (k : Runs X mX8_readPart 50 [(0, vr 0), (1, vi x1), (2, vi x2)] [vi (1 : Int), vi xs1, vr (oT ts0)] M P) (hb_ts0 : ts0 < 27 := by omega) : Runs X mX8_readPart 45 [(0, vr 0), (1, vi x1), (2, vi x2)] [vi xs1, vr (oT ts0)] M P := by
  refine Runs.iconst dX8_readPart_45 (by decide) ?_
  refine Runs.goto (tgt := 50) dX8_readPart_46 (by decide) ?_
  exact k
theorem kX8_readPart_49 {X : Scr} {M : Mem} {P : Option AV → Mem → Prop} {ts0 : Nat} {x1 x2 xs1 : Int} (k : Runs X mX8_readPart 50 [(0, vr 0), (1, vi x1), (2, vi x2)] [vi (0 : Int), vi xs1, vr (oT ts0)] M P) (hb_ts0 : ts0 < 27 := by omega) : Runs X mX8_readPart 49 [(0, vr 0), (1, vi x1), (2, vi x2)] [vi xs1, vr (oT ts0)] M P := by
  refine Runs.iconst dX8_readPart_49 (by decide) ?_
  exact k
theorem kX8_readPart_50 {X : Scr} {M : Mem} {P Q : Option AV → Mem → Prop} {ts0 : Nat} {x1 x2 xs1 xs2 : Int} (hC : Call X mX7_figureAt [vr 1, vi (x1 + (4 : Int))] M Q) (k : ∀ (z : Int) (M1 : Mem), Q (some (vi z)) M1 → Runs X mX8_readPart 60 [(0, vr 0), (1, vi x1), (2, vi x2)] [vi z, vi xs2, vi xs1, vr (oT ts0)] M1 P) (hb_ts0 : ts0 < 27 := by omega) (h1 : -2147483648 ≤ (x1 + (4 : Int)) ∧ (x1 + (4 : Int)) ≤ 2147483647 := by omega) : Runs X mX8_readPart 50 [(0, vr 0), (1, vi x1), (2, vi x2)] [vi xs2, vi xs1, vr (oT ts0)] M P := by
  refine Runs.aload_n (j := 0) dX8_readPart_50 rfl ?_
  refine Runs.getr (o' := 1) (ci := 8) (j := 0) (C := RX8) (T := TX8) (N := 12) dX8_readPart_51 rfl cls_X8 (by decide) rfl fl_X8_10 rfl ⟨rfl, _, Or.inl rfl⟩ ?_
  refine Runs.iload_n (j := 1) dX8_readPart_54 rfl ?_
  refine Runs.iconst dX8_readPart_55 (by decide) ?_
  refine Runs.iadd dX8_readPart_56 h1 ?_
  refine Runs.callVi (y := mX7_figureAt) (n := 1) (as := [vi (x1 + (4 : Int))]) (st := [vi xs2, vi xs1, vr (oT ts0)]) (q := (RX7, TX7, 2)) dX8_readPart_57 oc_X7_figureAt im_X7_figureAt se_X7_figureAt ml_X8_90 rfl ⟨(Nat.le_of_ble_eq_true rfl), (Nat.le_of_ble_eq_true rfl)⟩ (Nat.le_of_ble_eq_true rfl) (Nat.le_of_ble_eq_true rfl) rfl rfl rfl (Or.inl rfl) hC (fun z M1 hQ => ?_)
  exact k z M1 hQ
theorem kX8_readPart_60 {X : Scr} {M : Mem} {P Q : Option AV → Mem → Prop} {ts0 : Nat} {x1 x2 xs1 xs2 xs3 : Int} (hC : Call X mX6_add [vr (oT ts0), vi xs1, vi xs2, vi xs3] M Q) (k : ∀ (z : Int) (M1 : Mem), Q (some (vi z)) M1 → Runs X mX8_readPart 63 [(0, vr 0), (1, vi x1), (2, vi x2)] [vi z] M1 P) (hb_ts0 : ts0 < 27 := by omega) : Runs X mX8_readPart 60 [(0, vr 0), (1, vi x1), (2, vi x2)] [vi xs3, vi xs2, vi xs1, vr (oT ts0)] M P := by
  refine Runs.callVi (y := mX6_add) (n := 3) (as := [vi xs1, vi xs2, vi xs3]) (st := []) (q := (RX6, TX6, 2)) dX8_readPart_60 oc_X6_add im_X6_add se_X6_add ml_X8_301 rfl ⟨(Nat.le_of_ble_eq_true rfl), (Nat.le_of_ble_eq_true rfl)⟩ (Nat.le_of_ble_eq_true rfl) (Nat.le_of_ble_eq_true rfl) (kd_oT (by omega)) rfl rfl (Or.inl rfl) hC (fun z M1 hQ => ?_)
  exact k z M1 hQ
theorem kX8_readPart_63 {X : Scr} {M : Mem} {P Q : Option AV → Mem → Prop} {x1 x2 xs0 : Int} (hC : Call X mX7_figureAt [vr 1, vi (x1 + (3 : Int))] M Q) (k : ∀ (z : Int) (M1 : Mem), Q (some (vi z)) M1 → Runs X mX8_readPart 80 [(0, vr 0), (1, vi x1), (2, vi x2), (3, vi xs0)] [vi z, vi (2 : Int), vi xs0, vr (oT 0)] M1 P) (h1 : -2147483648 ≤ (x1 + (3 : Int)) ∧ (x1 + (3 : Int)) ≤ 2147483647 := by omega) : Runs X mX8_readPart 63 [(0, vr 0), (1, vi x1), (2, vi x2)] [vi xs0] M P := by
  refine Runs.istore_n (loc' := [(0, vr 0), (1, vi x1), (2, vi x2), (3, vi xs0)]) dX8_readPart_63 rfl (by decide) rfl ?_
  refine Runs.aload_n (j := 0) dX8_readPart_64 rfl ?_
  refine Runs.getr (o' := (oT 0)) (ci := 8) (j := 1) (C := RX8) (T := TX8) (N := 12) dX8_readPart_65 rfl cls_X8 (by decide) rfl fl_X8_19 rfl ⟨rfl, _, Or.inl rfl⟩ ?_
  refine Runs.iload_n (j := 3) dX8_readPart_68 rfl ?_
  refine Runs.iconst dX8_readPart_69 (by decide) ?_
  refine Runs.aload_n (j := 0) dX8_readPart_70 rfl ?_
  refine Runs.getr (o' := 1) (ci := 8) (j := 0) (C := RX8) (T := TX8) (N := 12) dX8_readPart_71 rfl cls_X8 (by decide) rfl fl_X8_10 rfl ⟨rfl, _, Or.inl rfl⟩ ?_
  refine Runs.iload_n (j := 1) dX8_readPart_74 rfl ?_
  refine Runs.iconst dX8_readPart_75 (by decide) ?_
  refine Runs.iadd dX8_readPart_76 h1 ?_
  refine Runs.callVi (y := mX7_figureAt) (n := 1) (as := [vi (x1 + (3 : Int))]) (st := [vi (2 : Int), vi xs0, vr (oT 0)]) (q := (RX7, TX7, 2)) dX8_readPart_77 oc_X7_figureAt im_X7_figureAt se_X7_figureAt ml_X8_90 rfl ⟨(Nat.le_of_ble_eq_true rfl), (Nat.le_of_ble_eq_true rfl)⟩ (Nat.le_of_ble_eq_true rfl) (Nat.le_of_ble_eq_true rfl) rfl rfl rfl (Or.inl rfl) hC (fun z M1 hQ => ?_)
  exact k z M1 hQ
theorem kX8_readPart_80 {X : Scr} {M : Mem} {P Q : Option AV → Mem → Prop} {ts0 : Nat} {x1 x2 x3 xs1 xs2 xs3 : Int} (hC : Call X mX6_set [vr (oT ts0), vi xs1, vi xs2, vi xs3] M Q) (k : ∀ (M1 : Mem), Q none M1 → Runs X mX8_readPart 83 [(0, vr 0), (1, vi x1), (2, vi x2), (3, vi x3)] [] M1 P) (hb_ts0 : ts0 < 27 := by omega) : Runs X mX8_readPart 80 [(0, vr 0), (1, vi x1), (2, vi x2), (3, vi x3)] [vi xs3, vi xs2, vi xs1, vr (oT ts0)] M P := by
  refine Runs.callVv (y := mX6_set) (n := 3) (as := [vi xs1, vi xs2, vi xs3]) (st := []) (q := (RX6, TX6, 2)) dX8_readPart_80 oc_X6_set im_X6_set se_X6_set ml_X8_151 rfl ⟨(Nat.le_of_ble_eq_true rfl), (Nat.le_of_ble_eq_true rfl)⟩ (Nat.le_of_ble_eq_true rfl) (Nat.le_of_ble_eq_true rfl) (kd_oT (by omega)) rfl rfl rfl hC (fun M1 hQ => ?_)
  exact k M1 hQ
theorem kX8_readPart_83 {X : Scr} {M : Mem} {P Q : Option AV → Mem → Prop} {x1 x2 x3 : Int} (hC : Call X mX7_figureAt [vr 1, vi (x1 + (3 : Int))] M Q) (k : ∀ (z : Int) (M1 : Mem), Q (some (vi z)) M1 → Runs X mX8_readPart 99 [(0, vr 0), (2, vi x2), (3, vi x3)] [vi z, vi (5 : Int), vi x3, vr (oT 0)] M1 P) (h1 : -2147483648 ≤ (x1 + (3 : Int)) ∧ (x1 + (3 : Int)) ≤ 2147483647 := by omega) : Runs X mX8_readPart 83 [(0, vr 0), (1, vi x1), (2, vi x2), (3, vi x3)] [] M P := by
  refine Runs.aload_n (j := 0) dX8_readPart_83 rfl ?_
  refine Runs.getr (o' := (oT 0)) (ci := 8) (j := 1) (C := RX8) (T := TX8) (N := 12) dX8_readPart_84 rfl cls_X8 (by decide) rfl fl_X8_19 rfl ⟨rfl, _, Or.inl rfl⟩ ?_
  refine Runs.iload_n (j := 3) dX8_readPart_87 rfl ?_
  refine Runs.iconst dX8_readPart_88 (by decide) ?_
  refine Runs.aload_n (j := 0) dX8_readPart_89 rfl ?_
  refine Runs.getr (o' := 1) (ci := 8) (j := 0) (C := RX8) (T := TX8) (N := 12) dX8_readPart_90 rfl cls_X8 (by decide) rfl fl_X8_10 rfl ⟨rfl, _, Or.inl rfl⟩ ?_
  refine Runs.iload_n (j := 1) dX8_readPart_93 rfl ?_
  refine Runs.iconst dX8_readPart_94 (by decide) ?_
  refine Runs.iadd dX8_readPart_95 h1 ?_
  refine Runs.callVi (y := mX7_figureAt) (n := 1) (as := [vi (x1 + (3 : Int))]) (st := [vi (5 : Int), vi x3, vr (oT 0)]) (q := (RX7, TX7, 2)) dX8_readPart_96 oc_X7_figureAt im_X7_figureAt se_X7_figureAt ml_X8_90 rfl ⟨(Nat.le_of_ble_eq_true rfl), (Nat.le_of_ble_eq_true rfl)⟩ (Nat.le_of_ble_eq_true rfl) (Nat.le_of_ble_eq_true rfl) rfl rfl rfl (Or.inl rfl) hC (fun z M1 hQ => ?_)
  refine Runs.picks (loc' := [(0, vr 0), (2, vi x2), (3, vi x3)]) [0, 2, 3] rfl ?_
  exact k z M1 hQ
theorem kX8_readPart_99 {X : Scr} {M : Mem} {P Q : Option AV → Mem → Prop} {ts0 : Nat} {x2 x3 xs1 xs2 xs3 : Int} (hC : Call X mX6_set [vr (oT ts0), vi xs1, vi xs2, vi xs3] M Q) (k : ∀ (M1 : Mem), Q none M1 → Runs X mX8_readPart 102 [(0, vr 0), (2, vi x2), (3, vi x3)] [] M1 P) (hb_ts0 : ts0 < 27 := by omega) : Runs X mX8_readPart 99 [(0, vr 0), (2, vi x2), (3, vi x3)] [vi xs3, vi xs2, vi xs1, vr (oT ts0)] M P := by
  refine Runs.callVv (y := mX6_set) (n := 3) (as := [vi xs1, vi xs2, vi xs3]) (st := []) (q := (RX6, TX6, 2)) dX8_readPart_99 oc_X6_set im_X6_set se_X6_set ml_X8_151 rfl ⟨(Nat.le_of_ble_eq_true rfl), (Nat.le_of_ble_eq_true rfl)⟩ (Nat.le_of_ble_eq_true rfl) (Nat.le_of_ble_eq_true rfl) (kd_oT (by omega)) rfl rfl rfl hC (fun M1 hQ => ?_)
  exact k M1 hQ
theorem kX8_readPart_102 {X : Scr} {M : Mem} {P : Option AV → Mem → Prop} {x2 x3 : Int} (k1 : x2 ≠ (66 : Int) → Runs X mX8_readPart 118 [] [vi (4 : Int), vi x3, vr (oT 0)] M P) (k2 : x2 = (66 : Int) → Runs X mX8_readPart 114 [] [vi (4 : Int), vi x3, vr (oT 0)] M P) : Runs X mX8_readPart 102 [(0, vr 0), (2, vi x2), (3, vi x3)] [] M P := by
  refine Runs.aload_n (j := 0) dX8_readPart_102 rfl ?_
  refine Runs.getr (o' := (oT 0)) (ci := 8) (j := 1) (C := RX8) (T := TX8) (N := 12) dX8_readPart_103 rfl cls_X8 (by decide) rfl fl_X8_19 rfl ⟨rfl, _, Or.inl rfl⟩ ?_
  refine Runs.iload_n (j := 2) dX8_readPart_106 rfl ?_
  refine Runs.iconst dX8_readPart_107 (by decide) ?_
  refine Runs.iload_n (j := 1) dX8_readPart_108 rfl ?_
  refine Runs.bipush dX8_readPart_109 (by decide) (by decide) ?_
  refine Runs.icmp_ne (tgt := 118) dX8_readPart_111 (by decide) (fun h => ?_) (fun h => ?_)
  · refine Runs.picks (loc' := []) [] rfl ?_
    exact k1 h
  · refine Runs.picks (loc' := []) [] rfl ?_
    exact k2 h
theorem kX8_readPart_114 {X : Scr} {M : Mem} {P : Option AV → Mem → Prop} {ts0 : Nat} {xs1 xs2 : Int} (k : Runs X mX8_readPart 119 [] [vi (1 : Int), vi xs2, vi xs1, vr (oT ts0)] M P) (hb_ts0 : ts0 < 27 := by omega) : Runs X mX8_readPart 114 [] [vi xs2, vi xs1, vr (oT ts0)] M P := by
  refine Runs.iconst dX8_readPart_114 (by decide) ?_
  refine Runs.goto (tgt := 119) dX8_readPart_115 (by decide) ?_
  exact k
theorem kX8_readPart_118 {X : Scr} {M : Mem} {P : Option AV → Mem → Prop} {ts0 : Nat} {xs1 xs2 : Int} (k : Runs X mX8_readPart 119 [] [vi (0 : Int), vi xs2, vi xs1, vr (oT ts0)] M P) (hb_ts0 : ts0 < 27 := by omega) : Runs X mX8_readPart 118 [] [vi xs2, vi xs1, vr (oT ts0)] M P := by
  refine Runs.iconst dX8_readPart_118 (by decide) ?_
  exact k
theorem kX8_readPart_119 {X : Scr} {M : Mem} {P Q : Option AV → Mem → Prop} {ts0 : Nat} {xs1 xs2 xs3 : Int} (hC : Call X mX6_set [vr (oT ts0), vi xs1, vi xs2, vi xs3] M Q) (k : ∀ (M1 : Mem), Q none M1 → Runs X mX8_readPart 122 [] [] M1 P) (hb_ts0 : ts0 < 27 := by omega) : Runs X mX8_readPart 119 [] [vi xs3, vi xs2, vi xs1, vr (oT ts0)] M P := by
  refine Runs.callVv (y := mX6_set) (n := 3) (as := [vi xs1, vi xs2, vi xs3]) (st := []) (q := (RX6, TX6, 2)) dX8_readPart_119 oc_X6_set im_X6_set se_X6_set ml_X8_151 rfl ⟨(Nat.le_of_ble_eq_true rfl), (Nat.le_of_ble_eq_true rfl)⟩ (Nat.le_of_ble_eq_true rfl) (Nat.le_of_ble_eq_true rfl) (kd_oT (by omega)) rfl rfl rfl hC (fun M1 hQ => ?_)
  exact k M1 hQ
theorem kX8_readPart_122 {X : Scr} {M : Mem} {P : Option AV → Mem → Prop} (k : Runs X mX8_readPart 172 [] [] M P) : Runs X mX8_readPart 122 [] [] M P := by
  refine Runs.goto (tgt := 172) dX8_readPart_122 (by decide) ?_
  exact k
theorem kX8_readPart_125 {X : Scr} {M : Mem} {P : Option AV → Mem → Prop} {x1 x2 : Int} (k1 : x2 ≠ (71 : Int) → Runs X mX8_readPart 172 [] [] M P) (k2 : x2 = (71 : Int) → Runs X mX8_readPart 131 [(0, vr 0), (1, vi x1)] [] M P) : Runs X mX8_readPart 125 [(0, vr 0), (1, vi x1), (2, vi x2)] [] M P := by
  refine Runs.iload_n (j := 2) dX8_readPart_125 rfl ?_
  refine Runs.bipush dX8_readPart_126 (by decide) (by decide) ?_
  refine Runs.icmp_ne (tgt := 172) dX8_readPart_128 (by decide) (fun h => ?_) (fun h => ?_)
  · refine Runs.picks (loc' := []) [] rfl ?_
    exact k1 h
  · refine Runs.picks (loc' := [(0, vr 0), (1, vi x1)]) [0, 1] rfl ?_
    exact k2 h
theorem kX8_readPart_131 {X : Scr} {M : Mem} {P Q : Option AV → Mem → Prop} {x1 : Int} (hC : Call X mX7_figureAt [vr 1, vi (x1 + (1 : Int))] M Q) (k : ∀ (z : Int) (M1 : Mem), Q (some (vi z)) M1 → Runs X mX8_readPart 147 [(0, vr 0), (1, vi x1)] [vi z, vi (10 : Int), vr 3] M1 P) (h1 : -2147483648 ≤ (x1 + (1 : Int)) ∧ (x1 + (1 : Int)) ≤ 2147483647 := by omega) : Runs X mX8_readPart 131 [(0, vr 0), (1, vi x1)] [] M P := by
  refine Runs.aload_n (j := 0) dX8_readPart_131 rfl ?_
  refine Runs.getr (o' := 3) (ci := 8) (j := 2) (C := RX8) (T := TX8) (N := 12) dX8_readPart_132 rfl cls_X8 (by decide) rfl fl_X8_26 rfl ⟨rfl, _, Or.inl rfl⟩ ?_
  refine Runs.bipush dX8_readPart_135 (by decide) (by decide) ?_
  refine Runs.aload_n (j := 0) dX8_readPart_137 rfl ?_
  refine Runs.getr (o' := 1) (ci := 8) (j := 0) (C := RX8) (T := TX8) (N := 12) dX8_readPart_138 rfl cls_X8 (by decide) rfl fl_X8_10 rfl ⟨rfl, _, Or.inl rfl⟩ ?_
  refine Runs.iload_n (j := 1) dX8_readPart_141 rfl ?_
  refine Runs.iconst dX8_readPart_142 (by decide) ?_
  refine Runs.iadd dX8_readPart_143 h1 ?_
  refine Runs.callVi (y := mX7_figureAt) (n := 1) (as := [vi (x1 + (1 : Int))]) (st := [vi (10 : Int), vr 3]) (q := (RX7, TX7, 2)) dX8_readPart_144 oc_X7_figureAt im_X7_figureAt se_X7_figureAt ml_X8_90 rfl ⟨(Nat.le_of_ble_eq_true rfl), (Nat.le_of_ble_eq_true rfl)⟩ (Nat.le_of_ble_eq_true rfl) (Nat.le_of_ble_eq_true rfl) rfl rfl rfl (Or.inl rfl) hC (fun z M1 hQ => ?_)
  exact k z M1 hQ
theorem kX8_readPart_147 {X : Scr} {M : Mem} {P Q : Option AV → Mem → Prop} {x1 xs1 xs2 : Int} (hC : Call X mX7_figureAt [vr 1, vi (x1 + (2 : Int))] M Q) (k : ∀ (z : Int) (M1 : Mem), Q (some (vi z)) M1 → Runs X mX8_readPart 158 [(0, vr 0), (1, vi x1)] [vi z, vi (xs1 * xs2), vr 3] M1 P) (h1 : -2147483648 ≤ (xs1 * xs2) ∧ (xs1 * xs2) ≤ 2147483647 := by omega) (h2 : -2147483648 ≤ (x1 + (2 : Int)) ∧ (x1 + (2 : Int)) ≤ 2147483647 := by omega) : Runs X mX8_readPart 147 [(0, vr 0), (1, vi x1)] [vi xs2, vi xs1, vr 3] M P := by
  refine Runs.imul dX8_readPart_147 h1 ?_
  refine Runs.aload_n (j := 0) dX8_readPart_148 rfl ?_
  refine Runs.getr (o' := 1) (ci := 8) (j := 0) (C := RX8) (T := TX8) (N := 12) dX8_readPart_149 rfl cls_X8 (by decide) rfl fl_X8_10 rfl ⟨rfl, _, Or.inl rfl⟩ ?_
  refine Runs.iload_n (j := 1) dX8_readPart_152 rfl ?_
  refine Runs.iconst dX8_readPart_153 (by decide) ?_
  refine Runs.iadd dX8_readPart_154 h2 ?_
  refine Runs.callVi (y := mX7_figureAt) (n := 1) (as := [vi (x1 + (2 : Int))]) (st := [vi (xs1 * xs2), vr 3]) (q := (RX7, TX7, 2)) dX8_readPart_155 oc_X7_figureAt im_X7_figureAt se_X7_figureAt ml_X8_90 rfl ⟨(Nat.le_of_ble_eq_true rfl), (Nat.le_of_ble_eq_true rfl)⟩ (Nat.le_of_ble_eq_true rfl) (Nat.le_of_ble_eq_true rfl) rfl rfl rfl (Or.inl rfl) hC (fun z M1 hQ => ?_)
  exact k z M1 hQ
theorem kX8_readPart_158 {X : Scr} {M : Mem} {P Q : Option AV → Mem → Prop} {x1 xs1 xs2 : Int} (hC : Call X mX7_figureAt [vr 1, vi (x1 + (3 : Int))] M Q) (k : ∀ (z : Int) (M1 : Mem), Q (some (vi z)) M1 → Runs X mX8_readPart 169 [] [vi z, vi (xs1 + xs2), vr 3] M1 P) (h1 : -2147483648 ≤ (xs1 + xs2) ∧ (xs1 + xs2) ≤ 2147483647 := by omega) (h2 : -2147483648 ≤ (x1 + (3 : Int)) ∧ (x1 + (3 : Int)) ≤ 2147483647 := by omega) : Runs X mX8_readPart 158 [(0, vr 0), (1, vi x1)] [vi xs2, vi xs1, vr 3] M P := by
  refine Runs.iadd dX8_readPart_158 h1 ?_
  refine Runs.aload_n (j := 0) dX8_readPart_159 rfl ?_
  refine Runs.getr (o' := 1) (ci := 8) (j := 0) (C := RX8) (T := TX8) (N := 12) dX8_readPart_160 rfl cls_X8 (by decide) rfl fl_X8_10 rfl ⟨rfl, _, Or.inl rfl⟩ ?_
  refine Runs.iload_n (j := 1) dX8_readPart_163 rfl ?_
  refine Runs.iconst dX8_readPart_164 (by decide) ?_
  refine Runs.iadd dX8_readPart_165 h2 ?_
  refine Runs.callVi (y := mX7_figureAt) (n := 1) (as := [vi (x1 + (3 : Int))]) (st := [vi (xs1 + xs2), vr 3]) (q := (RX7, TX7, 2)) dX8_readPart_166 oc_X7_figureAt im_X7_figureAt se_X7_figureAt ml_X8_90 rfl ⟨(Nat.le_of_ble_eq_true rfl), (Nat.le_of_ble_eq_true rfl)⟩ (Nat.le_of_ble_eq_true rfl) (Nat.le_of_ble_eq_true rfl) rfl rfl rfl (Or.inl rfl) hC (fun z M1 hQ => ?_)
  refine Runs.picks (loc' := []) [] rfl ?_
  exact k z M1 hQ
theorem kX8_readPart_169 {X : Scr} {M : Mem} {P Q : Option AV → Mem → Prop} {xs1 xs2 : Int} (hC : Call X mX1_add [vr 3, vi xs1, vi xs2] M Q) (k : ∀ (M1 : Mem), Q none M1 → Runs X mX8_readPart 172 [] [] M1 P) : Runs X mX8_readPart 169 [] [vi xs2, vi xs1, vr 3] M P := by
  refine Runs.callVv (y := mX1_add) (n := 2) (as := [vi xs1, vi xs2]) (st := []) (q := (RX1, TX1, 3)) dX8_readPart_169 oc_X1_add im_X1_add se_X1_add ml_X8_305 rfl ⟨(Nat.le_of_ble_eq_true rfl), (Nat.le_of_ble_eq_true rfl)⟩ (Nat.le_of_ble_eq_true rfl) (Nat.le_of_ble_eq_true rfl) rfl rfl rfl rfl hC (fun M1 hQ => ?_)
  exact k M1 hQ
theorem kX8_readPart_172 {X : Scr} {M : Mem} {P : Option AV → Mem → Prop} (k : P none M) : Runs X mX8_readPart 172 [] [] M P := by
  exact Runs.ret0 dX8_readPart_172 rfl k
theorem kX8_worthWorn_0 {X : Scr} {M : Mem} {P Q : Option AV → Mem → Prop} {x1 x2 : Int} (hC : Call X mX6_get [vr (oT 0), vi x1, vi (0 : Int)] M Q) (k : ∀ (z : Int) (M1 : Mem), Q (some (vi z)) M1 → Runs X mX8_worthWorn 12 [(0, vr 0), (1, vi x1), (2, vi x2)] [vi z, vi (10 : Int), vi (0 : Int)] M1 P) : Runs X mX8_worthWorn 0 [(0, vr 0), (1, vi x1), (2, vi x2)] [] M P := by
  refine Runs.iconst dX8_worthWorn_0 (by decide) ?_
  refine Runs.bipush dX8_worthWorn_1 (by decide) (by decide) ?_
  refine Runs.aload_n (j := 0) dX8_worthWorn_3 rfl ?_
  refine Runs.getr (o' := (oT 0)) (ci := 8) (j := 1) (C := RX8) (T := TX8) (N := 12) dX8_worthWorn_4 rfl cls_X8 (by decide) rfl fl_X8_19 rfl ⟨rfl, _, Or.inl rfl⟩ ?_
  refine Runs.iload_n (j := 1) dX8_worthWorn_7 rfl ?_
  refine Runs.iconst dX8_worthWorn_8 (by decide) ?_
  refine Runs.callVi (y := mX6_get) (n := 2) (as := [vi x1, vi (0 : Int)]) (st := [vi (10 : Int), vi (0 : Int)]) (q := (RX6, TX6, 2)) dX8_worthWorn_9 oc_X6_get im_X6_get se_X6_get ml_X8_124 rfl ⟨(Nat.le_of_ble_eq_true rfl), (Nat.le_of_ble_eq_true rfl)⟩ (Nat.le_of_ble_eq_true rfl) (Nat.le_of_ble_eq_true rfl) (kd_oT (by omega)) rfl rfl (Or.inl rfl) hC (fun z M1 hQ => ?_)
  exact k z M1 hQ
theorem kX8_worthWorn_12 {X : Scr} {M : Mem} {P Q : Option AV → Mem → Prop} {x1 x2 xs0 xs1 xs2 : Int} (hC : Call X mX6_get [vr (oT 0), vi x1, vi (1 : Int)] M Q) (k : ∀ (z : Int) (M1 : Mem), Q (some (vi z)) M1 → Runs X mX8_worthWorn 33 [(0, vr 0), (3, vi (max xs0 ((xs1 * xs2) - ((M 0 6) * x2))))] [vi z] M1 P) (h1 : -2147483648 ≤ (xs1 * xs2) ∧ (xs1 * xs2) ≤ 2147483647 := by omega) (h2 : -2147483648 ≤ ((M 0 6) * x2) ∧ ((M 0 6) * x2) ≤ 2147483647 := by omega) (h3 : -2147483648 ≤ ((xs1 * xs2) - ((M 0 6) * x2)) ∧ ((xs1 * xs2) - ((M 0 6) * x2)) ≤ 2147483647 := by omega) : Runs X mX8_worthWorn 12 [(0, vr 0), (1, vi x1), (2, vi x2)] [vi xs2, vi xs1, vi xs0] M P := by
  refine Runs.imul dX8_worthWorn_12 h1 ?_
  refine Runs.aload_n (j := 0) dX8_worthWorn_13 rfl ?_
  refine Runs.geti (ci := 8) (j := 6) (C := RX8) (T := TX8) (N := 12) dX8_worthWorn_14 rfl cls_X8 (by decide) rfl fl_X8_50 (Or.inl rfl) ?_
  refine Runs.iload_n (j := 2) dX8_worthWorn_17 rfl ?_
  refine Runs.imul dX8_worthWorn_18 h2 ?_
  refine Runs.isub dX8_worthWorn_19 h3 ?_
  refine Runs.mmax dX8_worthWorn_20 w2_47 nat_mmax ⟨by decide, Nat.le_of_ble_eq_true rfl⟩ ?_
  refine Runs.istore_n (loc' := [(0, vr 0), (1, vi x1), (2, vi x2), (3, vi (max xs0 ((xs1 * xs2) - ((M 0 6) * x2))))]) dX8_worthWorn_23 rfl (by decide) rfl ?_
  refine Runs.aload_n (j := 0) dX8_worthWorn_24 rfl ?_
  refine Runs.getr (o' := (oT 0)) (ci := 8) (j := 1) (C := RX8) (T := TX8) (N := 12) dX8_worthWorn_25 rfl cls_X8 (by decide) rfl fl_X8_19 rfl ⟨rfl, _, Or.inl rfl⟩ ?_
  refine Runs.iload_n (j := 1) dX8_worthWorn_28 rfl ?_
  refine Runs.iconst dX8_worthWorn_29 (by decide) ?_
  refine Runs.callVi (y := mX6_get) (n := 2) (as := [vi x1, vi (1 : Int)]) (st := []) (q := (RX6, TX6, 2)) dX8_worthWorn_30 oc_X6_get im_X6_get se_X6_get ml_X8_124 rfl ⟨(Nat.le_of_ble_eq_true rfl), (Nat.le_of_ble_eq_true rfl)⟩ (Nat.le_of_ble_eq_true rfl) (Nat.le_of_ble_eq_true rfl) (kd_oT (by omega)) rfl rfl (Or.inl rfl) hC (fun z M1 hQ => ?_)
  refine Runs.picks (loc' := [(0, vr 0), (3, vi (max xs0 ((xs1 * xs2) - ((M 0 6) * x2))))]) [0, 3] rfl ?_
  exact k z M1 hQ
theorem kX8_worthWorn_33 {X : Scr} {M : Mem} {P : Option AV → Mem → Prop} {x3 xs0 : Int} (k1 : xs0 ≠ (1 : Int) → Runs X mX8_worthWorn 46 [(3, vi x3)] [] M P) (k2 : xs0 = (1 : Int) → Runs X mX8_worthWorn 37 [(0, vr 0), (3, vi x3)] [] M P) : Runs X mX8_worthWorn 33 [(0, vr 0), (3, vi x3)] [vi xs0] M P := by
  refine Runs.iconst dX8_worthWorn_33 (by decide) ?_
  refine Runs.icmp_ne (tgt := 46) dX8_worthWorn_34 (by decide) (fun h => ?_) (fun h => ?_)
  · refine Runs.picks (loc' := [(3, vi x3)]) [1] rfl ?_
    exact k1 h
  · exact k2 h
theorem kX8_worthWorn_37 {X : Scr} {M : Mem} {P : Option AV → Mem → Prop} {x3 : Int} (k : Runs X mX8_worthWorn 47 [] [vi ((M 0 7) * x3)] M P) (h1 : -2147483648 ≤ ((M 0 7) * x3) ∧ ((M 0 7) * x3) ≤ 2147483647 := by omega) : Runs X mX8_worthWorn 37 [(0, vr 0), (3, vi x3)] [] M P := by
  refine Runs.aload_n (j := 0) dX8_worthWorn_37 rfl ?_
  refine Runs.geti (ci := 8) (j := 7) (C := RX8) (T := TX8) (N := 12) dX8_worthWorn_38 rfl cls_X8 (by decide) rfl fl_X8_54 (Or.inl rfl) ?_
  refine Runs.iload_n (j := 1) dX8_worthWorn_41 rfl ?_
  refine Runs.imul dX8_worthWorn_42 h1 ?_
  refine Runs.goto (tgt := 47) dX8_worthWorn_43 (by decide) ?_
  refine Runs.picks (loc' := []) [] rfl ?_
  exact k
theorem kX8_worthWorn_46 {X : Scr} {M : Mem} {P : Option AV → Mem → Prop} {x3 : Int} (k : Runs X mX8_worthWorn 47 [] [vi x3] M P) : Runs X mX8_worthWorn 46 [(3, vi x3)] [] M P := by
  refine Runs.iload_n (j := 0) dX8_worthWorn_46 rfl ?_
  refine Runs.picks (loc' := []) [] rfl ?_
  exact k
theorem kX8_worthWorn_47 {X : Scr} {M : Mem} {P : Option AV → Mem → Prop} {xs0 : Int} (k : P (some (vi xs0)) M) : Runs X mX8_worthWorn 47 [] [vi xs0] M P := by
  exact Runs.reti dX8_worthWorn_47 rfl k
theorem kX8_worthOf_0 {X : Scr} {M : Mem} {P Q : Option AV → Mem → Prop} {x1 : Int} (hC : Call X mX6_get [vr (oT 0), vi x1, vi (2 : Int)] M Q) (k : ∀ (z : Int) (M1 : Mem), Q (some (vi z)) M1 → Runs X mX8_worthOf 11 [] [vi z, vi x1, vr 0] M1 P) : Runs X mX8_worthOf 0 [(0, vr 0), (1, vi x1)] [] M P := by
  refine Runs.aload_n (j := 0) dX8_worthOf_0 rfl ?_
  refine Runs.iload_n (j := 1) dX8_worthOf_1 rfl ?_
  refine Runs.aload_n (j := 0) dX8_worthOf_2 rfl ?_
  refine Runs.getr (o' := (oT 0)) (ci := 8) (j := 1) (C := RX8) (T := TX8) (N := 12) dX8_worthOf_3 rfl cls_X8 (by decide) rfl fl_X8_19 rfl ⟨rfl, _, Or.inl rfl⟩ ?_
  refine Runs.iload_n (j := 1) dX8_worthOf_6 rfl ?_
  refine Runs.iconst dX8_worthOf_7 (by decide) ?_
  refine Runs.callVi (y := mX6_get) (n := 2) (as := [vi x1, vi (2 : Int)]) (st := [vi x1, vr 0]) (q := (RX6, TX6, 2)) dX8_worthOf_8 oc_X6_get im_X6_get se_X6_get ml_X8_124 rfl ⟨(Nat.le_of_ble_eq_true rfl), (Nat.le_of_ble_eq_true rfl)⟩ (Nat.le_of_ble_eq_true rfl) (Nat.le_of_ble_eq_true rfl) (kd_oT (by omega)) rfl rfl (Or.inl rfl) hC (fun z M1 hQ => ?_)
  refine Runs.picks (loc' := []) [] rfl ?_
  exact k z M1 hQ
theorem kX8_worthOf_11 {X : Scr} {M : Mem} {P Q : Option AV → Mem → Prop} {xs1 xs2 : Int} (hC : Call X mX8_worthWorn [vr 0, vi xs1, vi xs2] M Q) (k : ∀ (z : Int) (M1 : Mem), Q (some (vi z)) M1 → Runs X mX8_worthOf 14 [] [vi z] M1 P) : Runs X mX8_worthOf 11 [] [vi xs2, vi xs1, vr 0] M P := by
  refine Runs.callVi (y := mX8_worthWorn) (n := 2) (as := [vi xs1, vi xs2]) (st := []) (q := (RX8, TX8, 12)) dX8_worthOf_11 oc_X8_worthWorn im_X8_worthWorn se_X8_worthWorn ml_X8_224 rfl ⟨(Nat.le_of_ble_eq_true rfl), (Nat.le_of_ble_eq_true rfl)⟩ (Nat.le_of_ble_eq_true rfl) (Nat.le_of_ble_eq_true rfl) rfl rfl rfl (Or.inl rfl) hC (fun z M1 hQ => ?_)
  exact k z M1 hQ
theorem kX8_worthOf_14 {X : Scr} {M : Mem} {P : Option AV → Mem → Prop} {xs0 : Int} (k : P (some (vi xs0)) M) : Runs X mX8_worthOf 14 [] [vi xs0] M P := by
  exact Runs.reti dX8_worthOf_14 rfl k
theorem kX8_worthOfSet_0 {X : Scr} {M : Mem} {P : Option AV → Mem → Prop} {x1 : Int} (k : Runs X mX8_worthOfSet 4 [(0, vr 0), (1, vi x1), (2, vi (0 : Int)), (3, vi (0 : Int))] [] M P) : Runs X mX8_worthOfSet 0 [(0, vr 0), (1, vi x1)] [] M P := by
  refine Runs.iconst dX8_worthOfSet_0 (by decide) ?_
  refine Runs.istore_n (loc' := [(0, vr 0), (1, vi x1), (2, vi (0 : Int))]) dX8_worthOfSet_1 rfl (by decide) rfl ?_
  refine Runs.iconst dX8_worthOfSet_2 (by decide) ?_
  refine Runs.istore_n (loc' := [(0, vr 0), (1, vi x1), (2, vi (0 : Int)), (3, vi (0 : Int))]) dX8_worthOfSet_3 rfl (by decide) rfl ?_
  exact k
theorem kX8_worthOfSet_4 {X : Scr} {M : Mem} {P : Option AV → Mem → Prop} {x1 x2 x3 : Int} (k1 : (M (oT 0) 1) ≤ x3 → Runs X mX8_worthOfSet 38 [(2, vi x2)] [] M P) (k2 : x3 < (M (oT 0) 1) → Runs X mX8_worthOfSet 15 [(0, vr 0), (1, vi x1), (2, vi x2), (3, vi x3)] [] M P) : Runs X mX8_worthOfSet 4 [(0, vr 0), (1, vi x1), (2, vi x2), (3, vi x3)] [] M P := by
  refine Runs.iload_n (j := 3) dX8_worthOfSet_4 rfl ?_
  refine Runs.aload_n (j := 0) dX8_worthOfSet_5 rfl ?_
  refine Runs.getr (o' := (oT 0)) (ci := 8) (j := 1) (C := RX8) (T := TX8) (N := 12) dX8_worthOfSet_6 rfl cls_X8 (by decide) rfl fl_X8_19 rfl ⟨rfl, _, Or.inl rfl⟩ ?_
  refine Runs.geti (ci := 6) (j := 1) (C := RX6) (T := TX6) (N := 2) dX8_worthOfSet_9 (kd_oT (by omega)) cls_X6 (by decide) rfl fl_X8_94 (Or.inl rfl) ?_
  refine Runs.icmp_ge (tgt := 38) dX8_worthOfSet_12 (by decide) (fun h => ?_) (fun h => ?_)
  · refine Runs.picks (loc' := [(2, vi x2)]) [2] rfl ?_
    exact k1 h
  · exact k2 h
theorem kX8_worthOfSet_15 {X : Scr} {M : Mem} {P : Option AV → Mem → Prop} {x1 x2 x3 : Int} (k1 : (zand (zshr x1 x3) (1 : Int)) ≠ (1 : Int) → Runs X mX8_worthOfSet 32 [(0, vr 0), (1, vi x1), (2, vi x2), (3, vi x3)] [] M P) (k2 : (zand (zshr x1 x3) (1 : Int)) = (1 : Int) → Runs X mX8_worthOfSet 24 [(0, vr 0), (1, vi x1), (2, vi x2), (3, vi x3)] [] M P) : Runs X mX8_worthOfSet 15 [(0, vr 0), (1, vi x1), (2, vi x2), (3, vi x3)] [] M P := by
  refine Runs.iload_n (j := 1) dX8_worthOfSet_15 rfl ?_
  refine Runs.iload_n (j := 3) dX8_worthOfSet_16 rfl ?_
  refine Runs.ishr dX8_worthOfSet_17 ?_
  refine Runs.iconst dX8_worthOfSet_18 (by decide) ?_
  refine Runs.iand dX8_worthOfSet_19 ?_
  refine Runs.iconst dX8_worthOfSet_20 (by decide) ?_
  refine Runs.icmp_ne (tgt := 32) dX8_worthOfSet_21 (by decide) (fun h => ?_) (fun h => ?_)
  · exact k1 h
  · exact k2 h
theorem kX8_worthOfSet_24 {X : Scr} {M : Mem} {P Q : Option AV → Mem → Prop} {x1 x2 x3 : Int} (hC : Call X mX8_worthOf [vr 0, vi x3] M Q) (k : ∀ (z : Int) (M1 : Mem), Q (some (vi z)) M1 → Runs X mX8_worthOfSet 30 [(0, vr 0), (1, vi x1), (3, vi x3)] [vi z, vi x2] M1 P) : Runs X mX8_worthOfSet 24 [(0, vr 0), (1, vi x1), (2, vi x2), (3, vi x3)] [] M P := by
  refine Runs.iload_n (j := 2) dX8_worthOfSet_24 rfl ?_
  refine Runs.aload_n (j := 0) dX8_worthOfSet_25 rfl ?_
  refine Runs.iload_n (j := 3) dX8_worthOfSet_26 rfl ?_
  refine Runs.callVi (y := mX8_worthOf) (n := 1) (as := [vi x3]) (st := [vi x2]) (q := (RX8, TX8, 12)) dX8_worthOfSet_27 oc_X8_worthOf im_X8_worthOf se_X8_worthOf ml_X8_127 rfl ⟨(Nat.le_of_ble_eq_true rfl), (Nat.le_of_ble_eq_true rfl)⟩ (Nat.le_of_ble_eq_true rfl) (Nat.le_of_ble_eq_true rfl) rfl rfl rfl (Or.inl rfl) hC (fun z M1 hQ => ?_)
  refine Runs.picks (loc' := [(0, vr 0), (1, vi x1), (3, vi x3)]) [0, 1, 3] rfl ?_
  exact k z M1 hQ
theorem kX8_worthOfSet_30 {X : Scr} {M : Mem} {P : Option AV → Mem → Prop} {x1 x3 xs0 xs1 : Int} (k : Runs X mX8_worthOfSet 32 [(0, vr 0), (1, vi x1), (2, vi (xs0 + xs1)), (3, vi x3)] [] M P) (h1 : -2147483648 ≤ (xs0 + xs1) ∧ (xs0 + xs1) ≤ 2147483647 := by omega) : Runs X mX8_worthOfSet 30 [(0, vr 0), (1, vi x1), (3, vi x3)] [vi xs1, vi xs0] M P := by
  refine Runs.iadd dX8_worthOfSet_30 h1 ?_
  refine Runs.istore_n (loc' := [(0, vr 0), (1, vi x1), (2, vi (xs0 + xs1)), (3, vi x3)]) dX8_worthOfSet_31 rfl (by decide) rfl ?_
  exact k
theorem kX8_worthOfSet_32 {X : Scr} {M : Mem} {P : Option AV → Mem → Prop} {x1 x2 x3 : Int} (k : Runs X mX8_worthOfSet 4 [(0, vr 0), (1, vi x1), (2, vi x2), (3, vi (x3 + (1 : Int)))] [] M P) (h1 : -2147483648 ≤ (x3 + (1 : Int)) ∧ (x3 + (1 : Int)) ≤ 2147483647 := by omega) : Runs X mX8_worthOfSet 32 [(0, vr 0), (1, vi x1), (2, vi x2), (3, vi x3)] [] M P := by
  refine Runs.iinc (k := 3) (loc' := [(0, vr 0), (1, vi x1), (2, vi x2), (3, vi (x3 + (1 : Int)))]) dX8_worthOfSet_32 rfl h1 (by decide) rfl ?_
  refine Runs.goto (tgt := 4) dX8_worthOfSet_35 (by decide) ?_
  exact k
theorem kX8_worthOfSet_38 {X : Scr} {M : Mem} {P : Option AV → Mem → Prop} {x2 : Int} (k : P (some (vi x2)) M) : Runs X mX8_worthOfSet 38 [(2, vi x2)] [] M P := by
  refine Runs.iload_n (j := 0) dX8_worthOfSet_38 rfl ?_
  exact Runs.reti dX8_worthOfSet_39 rfl k
theorem kX8_setsOfTeeth_0 {X : Scr} {M : Mem} {P : Option AV → Mem → Prop} (k : P (some (vi (min (zshl (1 : Int) (M (oT 0) 1)) ((1024 : Nat) : Int)))) M) : Runs X mX8_setsOfTeeth 0 [(0, vr 0)] [] M P := by
  refine Runs.iconst dX8_setsOfTeeth_0 (by decide) ?_
  refine Runs.aload_n (j := 0) dX8_setsOfTeeth_1 rfl ?_
  refine Runs.getr (o' := (oT 0)) (ci := 8) (j := 1) (C := RX8) (T := TX8) (N := 12) dX8_setsOfTeeth_2 rfl cls_X8 (by decide) rfl fl_X8_19 rfl ⟨rfl, _, Or.inl rfl⟩ ?_
  refine Runs.geti (ci := 6) (j := 1) (C := RX6) (T := TX6) (N := 2) dX8_setsOfTeeth_5 (kd_oT (by omega)) cls_X6 (by decide) rfl fl_X8_94 (Or.inl rfl) ?_
  refine Runs.ishl dX8_setsOfTeeth_8 ?_
  refine Runs.aload_n (j := 0) dX8_setsOfTeeth_9 rfl ?_
  refine Runs.getr (o' := 35) (ci := 8) (j := 10) (C := RX8) (T := TX8) (N := 12) dX8_setsOfTeeth_10 rfl cls_X8 (by decide) rfl fl_X8_71 rfl ⟨rfl, "", Or.inr ⟨_, rfl⟩⟩ ?_
  refine Runs.alen dX8_setsOfTeeth_13 rfl (by decide) ?_
  refine Runs.mmin dX8_setsOfTeeth_14 w2_147 nat_mmin ⟨by decide, Nat.le_of_ble_eq_true rfl⟩ ?_
  exact Runs.reti dX8_setsOfTeeth_17 rfl k
theorem kX8_weighSets_0 {X : Scr} {M : Mem} {P : Option AV → Mem → Prop} {x1 : Int} (k : Runs X mX8_weighSets 2 [(0, vr 0), (1, vi x1), (2, vi (0 : Int))] [] M P) : Runs X mX8_weighSets 0 [(0, vr 0), (1, vi x1)] [] M P := by
  refine Runs.iconst dX8_weighSets_0 (by decide) ?_
  refine Runs.istore_n (loc' := [(0, vr 0), (1, vi x1), (2, vi (0 : Int))]) dX8_weighSets_1 rfl (by decide) rfl ?_
  exact k
theorem kX8_weighSets_2 {X : Scr} {M : Mem} {P : Option AV → Mem → Prop} {x1 x2 : Int} (k1 : (M (oT 0) 1) ≤ x2 → Runs X mX8_weighSets 91 [] [] M P) (k2 : x2 < (M (oT 0) 1) → Runs X mX8_weighSets 13 [(0, vr 0), (1, vi x1), (2, vi x2)] [] M P) : Runs X mX8_weighSets 2 [(0, vr 0), (1, vi x1), (2, vi x2)] [] M P := by
  refine Runs.iload_n (j := 2) dX8_weighSets_2 rfl ?_
  refine Runs.aload_n (j := 0) dX8_weighSets_3 rfl ?_
  refine Runs.getr (o' := (oT 0)) (ci := 8) (j := 1) (C := RX8) (T := TX8) (N := 12) dX8_weighSets_4 rfl cls_X8 (by decide) rfl fl_X8_19 rfl ⟨rfl, _, Or.inl rfl⟩ ?_
  refine Runs.geti (ci := 6) (j := 1) (C := RX6) (T := TX6) (N := 2) dX8_weighSets_7 (kd_oT (by omega)) cls_X6 (by decide) rfl fl_X8_94 (Or.inl rfl) ?_
  refine Runs.icmp_ge (tgt := 91) dX8_weighSets_10 (by decide) (fun h => ?_) (fun h => ?_)
  · refine Runs.picks (loc' := []) [] rfl ?_
    exact k1 h
  · exact k2 h
theorem kX8_weighSets_13 {X : Scr} {M : Mem} {P : Option AV → Mem → Prop} {x1 x2 : Int} (k1 : (zand x1 (zshl (1 : Int) x2)) ≠ 0 → Runs X mX8_weighSets 31 [(0, vr 0), (1, vi x1), (2, vi x2), (3, vi (zshl (1 : Int) x2))] [] M P) (k2 : (zand x1 (zshl (1 : Int) x2)) = 0 → Runs X mX8_weighSets 23 [(0, vr 0), (1, vi x1), (2, vi x2), (3, vi (zshl (1 : Int) x2))] [] M P) : Runs X mX8_weighSets 13 [(0, vr 0), (1, vi x1), (2, vi x2)] [] M P := by
  refine Runs.iconst dX8_weighSets_13 (by decide) ?_
  refine Runs.iload_n (j := 2) dX8_weighSets_14 rfl ?_
  refine Runs.ishl dX8_weighSets_15 ?_
  refine Runs.istore_n (loc' := [(0, vr 0), (1, vi x1), (2, vi x2), (3, vi (zshl (1 : Int) x2))]) dX8_weighSets_16 rfl (by decide) rfl ?_
  refine Runs.iload_n (j := 1) dX8_weighSets_17 rfl ?_
  refine Runs.iload_n (j := 3) dX8_weighSets_18 rfl ?_
  refine Runs.iand dX8_weighSets_19 ?_
  refine Runs.if_ne (tgt := 31) dX8_weighSets_20 (by decide) (fun h => ?_) (fun h => ?_)
  · exact k1 h
  · exact k2 h
theorem kX8_weighSets_23 {X : Scr} {M : Mem} {P Q : Option AV → Mem → Prop} {x1 x2 x3 : Int} (hC : Call X mX8_worthOf [vr 0, vi x2] M Q) (k : ∀ (z : Int) (M1 : Mem), Q (some (vi z)) M1 → Runs X mX8_weighSets 28 [(0, vr 0), (1, vi x1), (2, vi x2), (3, vi x3)] [vi z] M1 P) : Runs X mX8_weighSets 23 [(0, vr 0), (1, vi x1), (2, vi x2), (3, vi x3)] [] M P := by
  refine Runs.aload_n (j := 0) dX8_weighSets_23 rfl ?_
  refine Runs.iload_n (j := 2) dX8_weighSets_24 rfl ?_
  refine Runs.callVi (y := mX8_worthOf) (n := 1) (as := [vi x2]) (st := []) (q := (RX8, TX8, 12)) dX8_weighSets_25 oc_X8_worthOf im_X8_worthOf se_X8_worthOf ml_X8_127 rfl ⟨(Nat.le_of_ble_eq_true rfl), (Nat.le_of_ble_eq_true rfl)⟩ (Nat.le_of_ble_eq_true rfl) (Nat.le_of_ble_eq_true rfl) rfl rfl rfl (Or.inl rfl) hC (fun z M1 hQ => ?_)
  exact k z M1 hQ
theorem kX8_weighSets_28 {X : Scr} {M : Mem} {P : Option AV → Mem → Prop} {x1 x2 x3 xs0 : Int} (k : Runs X mX8_weighSets 37 [(0, vr 0), (1, vi x1), (2, vi x2), (3, vi x3)] [vi xs0] M P) : Runs X mX8_weighSets 28 [(0, vr 0), (1, vi x1), (2, vi x2), (3, vi x3)] [vi xs0] M P := by
  refine Runs.goto (tgt := 37) dX8_weighSets_28 (by decide) ?_
  exact k
theorem kX8_weighSets_31 {X : Scr} {M : Mem} {P Q : Option AV → Mem → Prop} {x1 x2 x3 : Int} (hC : Call X mX8_worthOf [vr 0, vi x2] M Q) (k : ∀ (z : Int) (M1 : Mem), Q (some (vi z)) M1 → Runs X mX8_weighSets 36 [(0, vr 0), (1, vi x1), (2, vi x2), (3, vi x3)] [vi z] M1 P) : Runs X mX8_weighSets 31 [(0, vr 0), (1, vi x1), (2, vi x2), (3, vi x3)] [] M P := by
  refine Runs.aload_n (j := 0) dX8_weighSets_31 rfl ?_
  refine Runs.iload_n (j := 2) dX8_weighSets_32 rfl ?_
  refine Runs.callVi (y := mX8_worthOf) (n := 1) (as := [vi x2]) (st := []) (q := (RX8, TX8, 12)) dX8_weighSets_33 oc_X8_worthOf im_X8_worthOf se_X8_worthOf ml_X8_127 rfl ⟨(Nat.le_of_ble_eq_true rfl), (Nat.le_of_ble_eq_true rfl)⟩ (Nat.le_of_ble_eq_true rfl) (Nat.le_of_ble_eq_true rfl) rfl rfl rfl (Or.inl rfl) hC (fun z M1 hQ => ?_)
  exact k z M1 hQ
theorem kX8_weighSets_36 {X : Scr} {M : Mem} {P : Option AV → Mem → Prop} {x1 x2 x3 xs0 : Int} (k : Runs X mX8_weighSets 37 [(0, vr 0), (1, vi x1), (2, vi x2), (3, vi x3)] [vi (-xs0)] M P) (h1 : -2147483648 ≤ (-xs0) ∧ (-xs0) ≤ 2147483647 := by omega) : Runs X mX8_weighSets 36 [(0, vr 0), (1, vi x1), (2, vi x2), (3, vi x3)] [vi xs0] M P := by
  refine Runs.ineg dX8_weighSets_36 h1 ?_
  exact k
theorem kX8_weighSets_37 {X : Scr} {M : Mem} {P : Option AV → Mem → Prop} {x1 x2 x3 xs0 : Int} (k : Runs X mX8_weighSets 42 [(0, vr 0), (1, vi x1), (2, vi x2), (3, vi x3), (4, vi xs0), (5, vi (0 : Int))] [] M P) : Runs X mX8_weighSets 37 [(0, vr 0), (1, vi x1), (2, vi x2), (3, vi x3)] [vi xs0] M P := by
  refine Runs.istore (loc' := [(0, vr 0), (1, vi x1), (2, vi x2), (3, vi x3), (4, vi xs0)]) dX8_weighSets_37 (by decide) rfl ?_
  refine Runs.iconst dX8_weighSets_39 (by decide) ?_
  refine Runs.istore (loc' := [(0, vr 0), (1, vi x1), (2, vi x2), (3, vi x3), (4, vi xs0), (5, vi (0 : Int))]) dX8_weighSets_40 (by decide) rfl ?_
  exact k
theorem kX8_weighSets_42 {X : Scr} {M : Mem} {P : Option AV → Mem → Prop} {x1 x2 x3 x4 x5 : Int} (k1 : x3 ≤ x5 → Runs X mX8_weighSets 85 [(0, vr 0), (1, vi x1), (2, vi x2)] [] M P) (k2 : x5 < x3 → Runs X mX8_weighSets 48 [(0, vr 0), (1, vi x1), (2, vi x2), (3, vi x3), (4, vi x4), (5, vi x5)] [] M P) : Runs X mX8_weighSets 42 [(0, vr 0), (1, vi x1), (2, vi x2), (3, vi x3), (4, vi x4), (5, vi x5)] [] M P := by
  refine Runs.iload (j := 5) dX8_weighSets_42 rfl ?_
  refine Runs.iload_n (j := 3) dX8_weighSets_44 rfl ?_
  refine Runs.icmp_ge (tgt := 85) dX8_weighSets_45 (by decide) (fun h => ?_) (fun h => ?_)
  · refine Runs.picks (loc' := [(0, vr 0), (1, vi x1), (2, vi x2)]) [0, 1, 2] rfl ?_
    exact k1 h
  · exact k2 h
theorem kX8_weighSets_48 {X : Scr} {M : Mem} {P : Option AV → Mem → Prop} {x1 x2 x3 x4 x5 : Int} (k1 : ((1024 : Nat) : Int) ≤ (x3 + x5) → Runs X mX8_weighSets 85 [(0, vr 0), (1, vi x1), (2, vi x2)] [] M P) (k2 : (x3 + x5) < ((1024 : Nat) : Int) → Runs X mX8_weighSets 60 [(0, vr 0), (1, vi x1), (2, vi x2), (3, vi x3), (4, vi x4), (5, vi x5)] [] M P) (h1 : -2147483648 ≤ (x3 + x5) ∧ (x3 + x5) ≤ 2147483647 := by omega) : Runs X mX8_weighSets 48 [(0, vr 0), (1, vi x1), (2, vi x2), (3, vi x3), (4, vi x4), (5, vi x5)] [] M P := by
  refine Runs.iload_n (j := 3) dX8_weighSets_48 rfl ?_
  refine Runs.iload (j := 5) dX8_weighSets_49 rfl ?_
  refine Runs.iadd dX8_weighSets_51 h1 ?_
  refine Runs.aload_n (j := 0) dX8_weighSets_52 rfl ?_
  refine Runs.getr (o' := 35) (ci := 8) (j := 10) (C := RX8) (T := TX8) (N := 12) dX8_weighSets_53 rfl cls_X8 (by decide) rfl fl_X8_71 rfl ⟨rfl, "", Or.inr ⟨_, rfl⟩⟩ ?_
  refine Runs.alen dX8_weighSets_56 rfl (by decide) ?_
  refine Runs.icmp_ge (tgt := 85) dX8_weighSets_57 (by decide) (fun h => ?_) (fun h => ?_)
  · refine Runs.picks (loc' := [(0, vr 0), (1, vi x1), (2, vi x2)]) [0, 1, 2] rfl ?_
    exact k1 h
  · exact k2 h
theorem kX8_weighSets_60 {X : Scr} {M : Mem} {P : Option AV → Mem → Prop} {x1 x2 x3 x4 x5 : Int} (k : Runs X mX8_weighSets 42 [(0, vr 0), (1, vi x1), (2, vi x2), (3, vi x3), (4, vi x4), (5, vi (x5 + (1 : Int)))] [] (up2 M 35 ((x3 + x5)).toNat ((M 35 (x5).toNat) + x4)) P) (h1 : -2147483648 ≤ (x3 + x5) ∧ (x3 + x5) ≤ 2147483647 := by omega) (h2 : 0 ≤ x5 := by omega) (h3 : x5 < ((1024 : Nat) : Int) := by omega) (h4 : -2147483648 ≤ ((M 35 (x5).toNat) + x4) ∧ ((M 35 (x5).toNat) + x4) ≤ 2147483647 := by omega) (h5 : 0 ≤ (x3 + x5) := by omega) (h6 : (x3 + x5) < ((1024 : Nat) : Int) := by omega) (h7 : -2147483648 ≤ (x5 + (1 : Int)) ∧ (x5 + (1 : Int)) ≤ 2147483647 := by omega) : Runs X mX8_weighSets 60 [(0, vr 0), (1, vi x1), (2, vi x2), (3, vi x3), (4, vi x4), (5, vi x5)] [] M P := by
  refine Runs.aload_n (j := 0) dX8_weighSets_60 rfl ?_
  refine Runs.getr (o' := 35) (ci := 8) (j := 10) (C := RX8) (T := TX8) (N := 12) dX8_weighSets_61 rfl cls_X8 (by decide) rfl fl_X8_71 rfl ⟨rfl, "", Or.inr ⟨_, rfl⟩⟩ ?_
  refine Runs.iload_n (j := 3) dX8_weighSets_64 rfl ?_
  refine Runs.iload (j := 5) dX8_weighSets_65 rfl ?_
  refine Runs.iadd dX8_weighSets_67 h1 ?_
  refine Runs.aload_n (j := 0) dX8_weighSets_68 rfl ?_
  refine Runs.getr (o' := 35) (ci := 8) (j := 10) (C := RX8) (T := TX8) (N := 12) dX8_weighSets_69 rfl cls_X8 (by decide) rfl fl_X8_71 rfl ⟨rfl, "", Or.inr ⟨_, rfl⟩⟩ ?_
  refine Runs.iload (j := 5) dX8_weighSets_72 rfl ?_
  refine Runs.iald dX8_weighSets_74 rfl h2 h3 ?_
  refine Runs.iload (j := 4) dX8_weighSets_75 rfl ?_
  refine Runs.iadd dX8_weighSets_77 h4 ?_
  refine Runs.iast dX8_weighSets_78 rfl h5 h6 ?_
  refine Runs.iinc (k := 5) (loc' := [(0, vr 0), (1, vi x1), (2, vi x2), (3, vi x3), (4, vi x4), (5, vi (x5 + (1 : Int)))]) dX8_weighSets_79 rfl h7 (by decide) rfl ?_
  refine Runs.goto (tgt := 42) dX8_weighSets_82 (by decide) ?_
  exact k
theorem kX8_weighSets_85 {X : Scr} {M : Mem} {P : Option AV → Mem → Prop} {x1 x2 : Int} (k : Runs X mX8_weighSets 2 [(0, vr 0), (1, vi x1), (2, vi (x2 + (1 : Int)))] [] M P) (h1 : -2147483648 ≤ (x2 + (1 : Int)) ∧ (x2 + (1 : Int)) ≤ 2147483647 := by omega) : Runs X mX8_weighSets 85 [(0, vr 0), (1, vi x1), (2, vi x2)] [] M P := by
  refine Runs.iinc (k := 2) (loc' := [(0, vr 0), (1, vi x1), (2, vi (x2 + (1 : Int)))]) dX8_weighSets_85 rfl h1 (by decide) rfl ?_
  refine Runs.goto (tgt := 2) dX8_weighSets_88 (by decide) ?_
  exact k
theorem kX8_weighSets_91 {X : Scr} {M : Mem} {P : Option AV → Mem → Prop} (k : P none M) : Runs X mX8_weighSets 91 [] [] M P := by
  exact Runs.ret0 dX8_weighSets_91 rfl k
theorem kX8_seekFewest_0 {X : Scr} {M : Mem} {P Q : Option AV → Mem → Prop} {x1 x2 x3 : Int} (hC : Call X mX6_ownedBy [vr (oT 0), vi x1] M Q) (k : ∀ (z : Int) (M1 : Mem), Q (some (vi z)) M1 → Runs X mX8_seekFewest 8 [(0, vr 0), (2, vi x2), (3, vi x3)] [vi z] M1 P) : Runs X mX8_seekFewest 0 [(0, vr 0), (1, vi x1), (2, vi x2), (3, vi x3)] [] M P := by
  refine Runs.aload_n (j := 0) dX8_seekFewest_0 rfl ?_
  refine Runs.getr (o' := (oT 0)) (ci := 8) (j := 1) (C := RX8) (T := TX8) (N := 12) dX8_seekFewest_1 rfl cls_X8 (by decide) rfl fl_X8_19 rfl ⟨rfl, _, Or.inl rfl⟩ ?_
  refine Runs.iload_n (j := 1) dX8_seekFewest_4 rfl ?_
  refine Runs.callVi (y := mX6_ownedBy) (n := 1) (as := [vi x1]) (st := []) (q := (RX6, TX6, 2)) dX8_seekFewest_5 oc_X6_ownedBy im_X6_ownedBy se_X6_ownedBy ml_X8_142 rfl ⟨(Nat.le_of_ble_eq_true rfl), (Nat.le_of_ble_eq_true rfl)⟩ (Nat.le_of_ble_eq_true rfl) (Nat.le_of_ble_eq_true rfl) (kd_oT (by omega)) rfl rfl (Or.inl rfl) hC (fun z M1 hQ => ?_)
  refine Runs.picks (loc' := [(0, vr 0), (2, vi x2), (3, vi x3)]) [0, 2, 3] rfl ?_
  exact k z M1 hQ
theorem kX8_seekFewest_8 {X : Scr} {M : Mem} {P Q : Option AV → Mem → Prop} {x2 x3 xs0 : Int} (hC : Call X mX6_ownedBy [vr (oT 0), vi x2] M Q) (k : ∀ (z : Int) (M1 : Mem), Q (some (vi z)) M1 → Runs X mX8_seekFewest 18 [(0, vr 0), (3, vi x3), (4, vi xs0)] [vi z] M1 P) : Runs X mX8_seekFewest 8 [(0, vr 0), (2, vi x2), (3, vi x3)] [vi xs0] M P := by
  refine Runs.istore (loc' := [(0, vr 0), (2, vi x2), (3, vi x3), (4, vi xs0)]) dX8_seekFewest_8 (by decide) rfl ?_
  refine Runs.aload_n (j := 0) dX8_seekFewest_10 rfl ?_
  refine Runs.getr (o' := (oT 0)) (ci := 8) (j := 1) (C := RX8) (T := TX8) (N := 12) dX8_seekFewest_11 rfl cls_X8 (by decide) rfl fl_X8_19 rfl ⟨rfl, _, Or.inl rfl⟩ ?_
  refine Runs.iload_n (j := 1) dX8_seekFewest_14 rfl ?_
  refine Runs.callVi (y := mX6_ownedBy) (n := 1) (as := [vi x2]) (st := []) (q := (RX6, TX6, 2)) dX8_seekFewest_15 oc_X6_ownedBy im_X6_ownedBy se_X6_ownedBy ml_X8_142 rfl ⟨(Nat.le_of_ble_eq_true rfl), (Nat.le_of_ble_eq_true rfl)⟩ (Nat.le_of_ble_eq_true rfl) (Nat.le_of_ble_eq_true rfl) (kd_oT (by omega)) rfl rfl (Or.inl rfl) hC (fun z M1 hQ => ?_)
  refine Runs.picks (loc' := [(0, vr 0), (3, vi x3), (4, vi xs0)]) [0, 2, 3] rfl ?_
  exact k z M1 hQ
theorem kX8_seekFewest_18 {X : Scr} {M : Mem} {P Q : Option AV → Mem → Prop} {x3 x4 xs0 : Int} (hC : Call X mX8_weighSets [vr 0, vi xs0] M Q) (k : ∀ (M1 : Mem), Q none M1 → Runs X mX8_seekFewest 35 [(0, vr 0), (3, vi x3), (4, vi x4), (5, vi xs0), (6, vi (zxor (zor x4 xs0) (-1 : Int)))] [] M1 P) : Runs X mX8_seekFewest 18 [(0, vr 0), (3, vi x3), (4, vi x4)] [vi xs0] M P := by
  refine Runs.istore (loc' := [(0, vr 0), (3, vi x3), (4, vi x4), (5, vi xs0)]) dX8_seekFewest_18 (by decide) rfl ?_
  refine Runs.iload (j := 2) dX8_seekFewest_20 rfl ?_
  refine Runs.iload (j := 3) dX8_seekFewest_22 rfl ?_
  refine Runs.ior dX8_seekFewest_24 ?_
  refine Runs.iconst dX8_seekFewest_25 (by decide) ?_
  refine Runs.ixor dX8_seekFewest_26 ?_
  refine Runs.istore (loc' := [(0, vr 0), (3, vi x3), (4, vi x4), (5, vi xs0), (6, vi (zxor (zor x4 xs0) (-1 : Int)))]) dX8_seekFewest_27 (by decide) rfl ?_
  refine Runs.aload_n (j := 0) dX8_seekFewest_29 rfl ?_
  refine Runs.iload (j := 3) dX8_seekFewest_30 rfl ?_
  refine Runs.callVv (y := mX8_weighSets) (n := 1) (as := [vi xs0]) (st := []) (q := (RX8, TX8, 12)) dX8_seekFewest_32 oc_X8_weighSets im_X8_weighSets se_X8_weighSets ml_X8_192 rfl ⟨(Nat.le_of_ble_eq_true rfl), (Nat.le_of_ble_eq_true rfl)⟩ (Nat.le_of_ble_eq_true rfl) (Nat.le_of_ble_eq_true rfl) rfl rfl rfl rfl hC (fun M1 hQ => ?_)
  exact k M1 hQ
theorem kX8_seekFewest_35 {X : Scr} {M : Mem} {P Q : Option AV → Mem → Prop} {x3 x4 x5 x6 : Int} (hC : Call X mX2_clear [vr 33] M Q) (k : ∀ (M1 : Mem), Q none M1 → Runs X mX8_seekFewest 42 [(0, vr 0), (3, vi x3), (4, vi x4), (5, vi x5), (6, vi x6)] [] M1 P) : Runs X mX8_seekFewest 35 [(0, vr 0), (3, vi x3), (4, vi x4), (5, vi x5), (6, vi x6)] [] M P := by
  refine Runs.aload_n (j := 0) dX8_seekFewest_35 rfl ?_
  refine Runs.getr (o' := 33) (ci := 8) (j := 8) (C := RX8) (T := TX8) (N := 12) dX8_seekFewest_36 rfl cls_X8 (by decide) rfl fl_X8_60 rfl ⟨rfl, _, Or.inl rfl⟩ ?_
  refine Runs.callVv (y := mX2_clear) (n := 0) (as := []) (st := []) (q := (RX2, TX2, 4)) dX8_seekFewest_39 oc_X2_clear im_X2_clear se_X2_clear ml_X8_204 rfl ⟨(Nat.le_of_ble_eq_true rfl), (Nat.le_of_ble_eq_true rfl)⟩ (Nat.le_of_ble_eq_true rfl) (Nat.le_of_ble_eq_true rfl) rfl rfl rfl rfl hC (fun M1 hQ => ?_)
  exact k M1 hQ
theorem kX8_seekFewest_42 {X : Scr} {M : Mem} {P : Option AV → Mem → Prop} {x3 x4 x5 x6 : Int} (k : Runs X mX8_seekFewest 45 [(0, vr 0), (3, vi x3), (4, vi x4), (5, vi x5), (6, vi x6), (7, vi (0 : Int))] [] M P) : Runs X mX8_seekFewest 42 [(0, vr 0), (3, vi x3), (4, vi x4), (5, vi x5), (6, vi x6)] [] M P := by
  refine Runs.iconst dX8_seekFewest_42 (by decide) ?_
  refine Runs.istore (loc' := [(0, vr 0), (3, vi x3), (4, vi x4), (5, vi x5), (6, vi x6), (7, vi (0 : Int))]) dX8_seekFewest_43 (by decide) rfl ?_
  exact k
theorem kX8_seekFewest_45 {X : Scr} {M : Mem} {P Q : Option AV → Mem → Prop} {x3 x4 x5 x6 x7 : Int} (hC : Call X mX8_setsOfTeeth [vr 0] M Q) (k : ∀ (z : Int) (M1 : Mem), Q (some (vi z)) M1 → Runs X mX8_seekFewest 51 [(0, vr 0), (3, vi x3), (4, vi x4), (5, vi x5), (6, vi x6), (7, vi x7)] [vi z, vi x7] M1 P) : Runs X mX8_seekFewest 45 [(0, vr 0), (3, vi x3), (4, vi x4), (5, vi x5), (6, vi x6), (7, vi x7)] [] M P := by
  refine Runs.iload (j := 5) dX8_seekFewest_45 rfl ?_
  refine Runs.aload_n (j := 0) dX8_seekFewest_47 rfl ?_
  refine Runs.callVi (y := mX8_setsOfTeeth) (n := 0) (as := []) (st := [vi x7]) (q := (RX8, TX8, 12)) dX8_seekFewest_48 oc_X8_setsOfTeeth im_X8_setsOfTeeth se_X8_setsOfTeeth ml_X8_201 rfl ⟨(Nat.le_of_ble_eq_true rfl), (Nat.le_of_ble_eq_true rfl)⟩ (Nat.le_of_ble_eq_true rfl) (Nat.le_of_ble_eq_true rfl) rfl rfl rfl (Or.inl rfl) hC (fun z M1 hQ => ?_)
  exact k z M1 hQ
theorem kX8_seekFewest_51 {X : Scr} {M : Mem} {P : Option AV → Mem → Prop} {x3 x4 x5 x6 x7 xs0 xs1 : Int} (k1 : xs1 ≤ xs0 → Runs X mX8_seekFewest 101 [] [] M P) (k2 : xs0 < xs1 → Runs X mX8_seekFewest 54 [(0, vr 0), (3, vi x3), (4, vi x4), (5, vi x5), (6, vi x6), (7, vi x7)] [] M P) : Runs X mX8_seekFewest 51 [(0, vr 0), (3, vi x3), (4, vi x4), (5, vi x5), (6, vi x6), (7, vi x7)] [vi xs1, vi xs0] M P := by
  refine Runs.icmp_ge (tgt := 101) dX8_seekFewest_51 (by decide) (fun h => ?_) (fun h => ?_)
  · refine Runs.picks (loc' := []) [] rfl ?_
    exact k1 h
  · exact k2 h
theorem kX8_seekFewest_54 {X : Scr} {M : Mem} {P : Option AV → Mem → Prop} {x3 x4 x5 x6 x7 : Int} (k1 : (zand x7 x6) ≠ 0 → Runs X mX8_seekFewest 95 [(0, vr 0), (3, vi x3), (4, vi x4), (5, vi x5), (6, vi x6), (7, vi x7)] [] M P) (k2 : (zand x7 x6) = 0 → Runs X mX8_seekFewest 62 [(0, vr 0), (3, vi x3), (4, vi x4), (5, vi x5), (6, vi x6), (7, vi x7)] [] M P) : Runs X mX8_seekFewest 54 [(0, vr 0), (3, vi x3), (4, vi x4), (5, vi x5), (6, vi x6), (7, vi x7)] [] M P := by
  refine Runs.iload (j := 5) dX8_seekFewest_54 rfl ?_
  refine Runs.iload (j := 4) dX8_seekFewest_56 rfl ?_
  refine Runs.iand dX8_seekFewest_58 ?_
  refine Runs.if_ne (tgt := 95) dX8_seekFewest_59 (by decide) (fun h => ?_) (fun h => ?_)
  · exact k1 h
  · exact k2 h
theorem kX8_seekFewest_62 {X : Scr} {M : Mem} {P : Option AV → Mem → Prop} {x3 x4 x5 x6 x7 : Int} (k1 : (M 35 (x7).toNat) ≠ x3 → Runs X mX8_seekFewest 95 [(0, vr 0), (3, vi x3), (4, vi x4), (5, vi x5), (6, vi x6), (7, vi x7)] [] M P) (k2 : (M 35 (x7).toNat) = x3 → Runs X mX8_seekFewest 73 [(0, vr 0), (3, vi x3), (4, vi x4), (5, vi x5), (6, vi x6), (7, vi x7)] [] M P) (h1 : 0 ≤ x7 := by omega) (h2 : x7 < ((1024 : Nat) : Int) := by omega) : Runs X mX8_seekFewest 62 [(0, vr 0), (3, vi x3), (4, vi x4), (5, vi x5), (6, vi x6), (7, vi x7)] [] M P := by
  refine Runs.aload_n (j := 0) dX8_seekFewest_62 rfl ?_
  refine Runs.getr (o' := 35) (ci := 8) (j := 10) (C := RX8) (T := TX8) (N := 12) dX8_seekFewest_63 rfl cls_X8 (by decide) rfl fl_X8_71 rfl ⟨rfl, "", Or.inr ⟨_, rfl⟩⟩ ?_
  refine Runs.iload (j := 5) dX8_seekFewest_66 rfl ?_
  refine Runs.iald dX8_seekFewest_68 rfl h1 h2 ?_
  refine Runs.iload_n (j := 1) dX8_seekFewest_69 rfl ?_
  refine Runs.icmp_ne (tgt := 95) dX8_seekFewest_70 (by decide) (fun h => ?_) (fun h => ?_)
  · exact k1 h
  · exact k2 h
theorem kX8_seekFewest_73 {X : Scr} {M : Mem} {P Q : Option AV → Mem → Prop} {x3 x4 x5 x6 x7 : Int} (hC : Call X mJ6_bitCount_0f7a4 [vi x7] M Q) (k : ∀ (z : Int) (M1 : Mem), Q (some (vi z)) M1 → Runs X mX8_seekFewest 82 [(0, vr 0), (3, vi x3), (4, vi x4), (5, vi x5), (6, vi x6), (7, vi x7)] [vi z, vr 33] M1 P) : Runs X mX8_seekFewest 73 [(0, vr 0), (3, vi x3), (4, vi x4), (5, vi x5), (6, vi x6), (7, vi x7)] [] M P := by
  refine Runs.aload_n (j := 0) dX8_seekFewest_73 rfl ?_
  refine Runs.getr (o' := 33) (ci := 8) (j := 8) (C := RX8) (T := TX8) (N := 12) dX8_seekFewest_74 rfl cls_X8 (by decide) rfl fl_X8_60 rfl ⟨rfl, _, Or.inl rfl⟩ ?_
  refine Runs.iload (j := 5) dX8_seekFewest_77 rfl ?_
  refine Runs.callSi (y := mJ6_bitCount_0f7a4) (n := 1) (as := [vi x7]) (st := [vr 33]) dX8_seekFewest_79 oc_J6_bitCount_0f7a4 sm_J6_bitCount_0f7a4 ml_X8_310 rfl ⟨(Nat.le_of_ble_eq_true rfl), (Nat.le_of_ble_eq_true rfl)⟩ (Nat.le_of_ble_eq_true rfl) (Nat.le_of_ble_eq_true rfl) (Or.inl rfl) hC (fun z M1 hQ => ?_)
  exact k z M1 hQ
theorem kX8_seekFewest_82 {X : Scr} {M : Mem} {P Q : Option AV → Mem → Prop} {x3 x4 x5 x6 x7 xs1 : Int} (hC : Call X mX2_offer [vr 33, vi xs1, vi (zand x7 x4), vi (zand x7 x5)] M Q) (k : ∀ (M1 : Mem), Q none M1 → Runs X mX8_seekFewest 95 [(0, vr 0), (3, vi x3), (4, vi x4), (5, vi x5), (6, vi x6), (7, vi x7)] [] M1 P) : Runs X mX8_seekFewest 82 [(0, vr 0), (3, vi x3), (4, vi x4), (5, vi x5), (6, vi x6), (7, vi x7)] [vi xs1, vr 33] M P := by
  refine Runs.iload (j := 5) dX8_seekFewest_82 rfl ?_
  refine Runs.iload (j := 2) dX8_seekFewest_84 rfl ?_
  refine Runs.iand dX8_seekFewest_86 ?_
  refine Runs.iload (j := 5) dX8_seekFewest_87 rfl ?_
  refine Runs.iload (j := 3) dX8_seekFewest_89 rfl ?_
  refine Runs.iand dX8_seekFewest_91 ?_
  refine Runs.callVv (y := mX2_offer) (n := 3) (as := [vi xs1, vi (zand x7 x4), vi (zand x7 x5)]) (st := []) (q := (RX2, TX2, 4)) dX8_seekFewest_92 oc_X2_offer im_X2_offer se_X2_offer ml_X8_213 rfl ⟨(Nat.le_of_ble_eq_true rfl), (Nat.le_of_ble_eq_true rfl)⟩ (Nat.le_of_ble_eq_true rfl) (Nat.le_of_ble_eq_true rfl) rfl rfl rfl rfl hC (fun M1 hQ => ?_)
  exact k M1 hQ
theorem kX8_seekFewest_95 {X : Scr} {M : Mem} {P : Option AV → Mem → Prop} {x3 x4 x5 x6 x7 : Int} (k : Runs X mX8_seekFewest 45 [(0, vr 0), (3, vi x3), (4, vi x4), (5, vi x5), (6, vi x6), (7, vi (x7 + (1 : Int)))] [] M P) (h1 : -2147483648 ≤ (x7 + (1 : Int)) ∧ (x7 + (1 : Int)) ≤ 2147483647 := by omega) : Runs X mX8_seekFewest 95 [(0, vr 0), (3, vi x3), (4, vi x4), (5, vi x5), (6, vi x6), (7, vi x7)] [] M P := by
  refine Runs.iinc (k := 5) (loc' := [(0, vr 0), (3, vi x3), (4, vi x4), (5, vi x5), (6, vi x6), (7, vi (x7 + (1 : Int)))]) dX8_seekFewest_95 rfl h1 (by decide) rfl ?_
  refine Runs.goto (tgt := 45) dX8_seekFewest_98 (by decide) ?_
  exact k
theorem kX8_seekFewest_101 {X : Scr} {M : Mem} {P : Option AV → Mem → Prop} (k : P none M) : Runs X mX8_seekFewest 101 [] [] M P := by
  exact Runs.ret0 dX8_seekFewest_101 rfl k
theorem kX8_seekTooMuch_0 {X : Scr} {M : Mem} {P Q : Option AV → Mem → Prop} {x1 x2 : Int} (hC : Call X mX8_weighSets [vr 0, vi (0 : Int)] M Q) (k : ∀ (M1 : Mem), Q none M1 → Runs X mX8_seekTooMuch 5 [(0, vr 0), (1, vi x1), (2, vi x2)] [] M1 P) : Runs X mX8_seekTooMuch 0 [(0, vr 0), (1, vi x1), (2, vi x2)] [] M P := by
  refine Runs.aload_n (j := 0) dX8_seekTooMuch_0 rfl ?_
  refine Runs.iconst dX8_seekTooMuch_1 (by decide) ?_
  refine Runs.callVv (y := mX8_weighSets) (n := 1) (as := [vi (0 : Int)]) (st := []) (q := (RX8, TX8, 12)) dX8_seekTooMuch_2 oc_X8_weighSets im_X8_weighSets se_X8_weighSets ml_X8_192 rfl ⟨(Nat.le_of_ble_eq_true rfl), (Nat.le_of_ble_eq_true rfl)⟩ (Nat.le_of_ble_eq_true rfl) (Nat.le_of_ble_eq_true rfl) rfl rfl rfl rfl hC (fun M1 hQ => ?_)
  exact k M1 hQ
theorem kX8_seekTooMuch_5 {X : Scr} {M : Mem} {P Q : Option AV → Mem → Prop} {x1 x2 : Int} (hC : Call X mX2_clear [vr 33] M Q) (k : ∀ (M1 : Mem), Q none M1 → Runs X mX8_seekTooMuch 12 [(0, vr 0), (1, vi x1), (2, vi x2)] [] M1 P) : Runs X mX8_seekTooMuch 5 [(0, vr 0), (1, vi x1), (2, vi x2)] [] M P := by
  refine Runs.aload_n (j := 0) dX8_seekTooMuch_5 rfl ?_
  refine Runs.getr (o' := 33) (ci := 8) (j := 8) (C := RX8) (T := TX8) (N := 12) dX8_seekTooMuch_6 rfl cls_X8 (by decide) rfl fl_X8_60 rfl ⟨rfl, _, Or.inl rfl⟩ ?_
  refine Runs.callVv (y := mX2_clear) (n := 0) (as := []) (st := []) (q := (RX2, TX2, 4)) dX8_seekTooMuch_9 oc_X2_clear im_X2_clear se_X2_clear ml_X8_204 rfl ⟨(Nat.le_of_ble_eq_true rfl), (Nat.le_of_ble_eq_true rfl)⟩ (Nat.le_of_ble_eq_true rfl) (Nat.le_of_ble_eq_true rfl) rfl rfl rfl rfl hC (fun M1 hQ => ?_)
  exact k M1 hQ
theorem kX8_seekTooMuch_12 {X : Scr} {M : Mem} {P : Option AV → Mem → Prop} {x1 x2 : Int} (k : Runs X mX8_seekTooMuch 14 [(0, vr 0), (1, vi x1), (2, vi x2), (3, vi (0 : Int))] [] M P) : Runs X mX8_seekTooMuch 12 [(0, vr 0), (1, vi x1), (2, vi x2)] [] M P := by
  refine Runs.iconst dX8_seekTooMuch_12 (by decide) ?_
  refine Runs.istore_n (loc' := [(0, vr 0), (1, vi x1), (2, vi x2), (3, vi (0 : Int))]) dX8_seekTooMuch_13 rfl (by decide) rfl ?_
  exact k
theorem kX8_seekTooMuch_14 {X : Scr} {M : Mem} {P Q : Option AV → Mem → Prop} {x1 x2 x3 : Int} (hC : Call X mX8_setsOfTeeth [vr 0] M Q) (k : ∀ (z : Int) (M1 : Mem), Q (some (vi z)) M1 → Runs X mX8_seekTooMuch 19 [(0, vr 0), (1, vi x1), (2, vi x2), (3, vi x3)] [vi z, vi x3] M1 P) : Runs X mX8_seekTooMuch 14 [(0, vr 0), (1, vi x1), (2, vi x2), (3, vi x3)] [] M P := by
  refine Runs.iload_n (j := 3) dX8_seekTooMuch_14 rfl ?_
  refine Runs.aload_n (j := 0) dX8_seekTooMuch_15 rfl ?_
  refine Runs.callVi (y := mX8_setsOfTeeth) (n := 0) (as := []) (st := [vi x3]) (q := (RX8, TX8, 12)) dX8_seekTooMuch_16 oc_X8_setsOfTeeth im_X8_setsOfTeeth se_X8_setsOfTeeth ml_X8_201 rfl ⟨(Nat.le_of_ble_eq_true rfl), (Nat.le_of_ble_eq_true rfl)⟩ (Nat.le_of_ble_eq_true rfl) (Nat.le_of_ble_eq_true rfl) rfl rfl rfl (Or.inl rfl) hC (fun z M1 hQ => ?_)
  exact k z M1 hQ
theorem kX8_seekTooMuch_19 {X : Scr} {M : Mem} {P : Option AV → Mem → Prop} {x1 x2 x3 xs0 xs1 : Int} (k1 : xs1 ≤ xs0 → Runs X mX8_seekTooMuch 64 [] [] M P) (k2 : xs0 < xs1 → Runs X mX8_seekTooMuch 22 [(0, vr 0), (1, vi x1), (2, vi x2), (3, vi x3)] [] M P) : Runs X mX8_seekTooMuch 19 [(0, vr 0), (1, vi x1), (2, vi x2), (3, vi x3)] [vi xs1, vi xs0] M P := by
  refine Runs.icmp_ge (tgt := 64) dX8_seekTooMuch_19 (by decide) (fun h => ?_) (fun h => ?_)
  · refine Runs.picks (loc' := []) [] rfl ?_
    exact k1 h
  · exact k2 h
theorem kX8_seekTooMuch_22 {X : Scr} {M : Mem} {P : Option AV → Mem → Prop} {x1 x2 x3 : Int} (k1 : (zand x3 (zxor x1 (-1 : Int))) ≠ 0 → Runs X mX8_seekTooMuch 58 [(0, vr 0), (1, vi x1), (2, vi x2), (3, vi x3)] [] M P) (k2 : (zand x3 (zxor x1 (-1 : Int))) = 0 → Runs X mX8_seekTooMuch 30 [(0, vr 0), (1, vi x1), (2, vi x2), (3, vi x3)] [] M P) : Runs X mX8_seekTooMuch 22 [(0, vr 0), (1, vi x1), (2, vi x2), (3, vi x3)] [] M P := by
  refine Runs.iload_n (j := 3) dX8_seekTooMuch_22 rfl ?_
  refine Runs.iload_n (j := 1) dX8_seekTooMuch_23 rfl ?_
  refine Runs.iconst dX8_seekTooMuch_24 (by decide) ?_
  refine Runs.ixor dX8_seekTooMuch_25 ?_
  refine Runs.iand dX8_seekTooMuch_26 ?_
  refine Runs.if_ne (tgt := 58) dX8_seekTooMuch_27 (by decide) (fun h => ?_) (fun h => ?_)
  · exact k1 h
  · exact k2 h
theorem kX8_seekTooMuch_30 {X : Scr} {M : Mem} {P : Option AV → Mem → Prop} {x1 x2 x3 : Int} (k1 : (M 35 (x3).toNat) < x2 → Runs X mX8_seekTooMuch 58 [(0, vr 0), (1, vi x1), (2, vi x2), (3, vi x3)] [] M P) (k2 : x2 ≤ (M 35 (x3).toNat) → Runs X mX8_seekTooMuch 40 [(0, vr 0), (1, vi x1), (2, vi x2), (3, vi x3)] [] M P) (h1 : 0 ≤ x3 := by omega) (h2 : x3 < ((1024 : Nat) : Int) := by omega) : Runs X mX8_seekTooMuch 30 [(0, vr 0), (1, vi x1), (2, vi x2), (3, vi x3)] [] M P := by
  refine Runs.aload_n (j := 0) dX8_seekTooMuch_30 rfl ?_
  refine Runs.getr (o' := 35) (ci := 8) (j := 10) (C := RX8) (T := TX8) (N := 12) dX8_seekTooMuch_31 rfl cls_X8 (by decide) rfl fl_X8_71 rfl ⟨rfl, "", Or.inr ⟨_, rfl⟩⟩ ?_
  refine Runs.iload_n (j := 3) dX8_seekTooMuch_34 rfl ?_
  refine Runs.iald dX8_seekTooMuch_35 rfl h1 h2 ?_
  refine Runs.iload_n (j := 2) dX8_seekTooMuch_36 rfl ?_
  refine Runs.icmp_lt (tgt := 58) dX8_seekTooMuch_37 (by decide) (fun h => ?_) (fun h => ?_)
  · exact k1 h
  · exact k2 h
theorem kX8_seekTooMuch_40 {X : Scr} {M : Mem} {P Q : Option AV → Mem → Prop} {x1 x2 x3 : Int} (hC : Call X mJ6_bitCount_0f7a4 [vi x3] M Q) (k : ∀ (z : Int) (M1 : Mem), Q (some (vi z)) M1 → Runs X mX8_seekTooMuch 54 [(0, vr 0), (1, vi x1), (2, vi x2), (3, vi x3)] [vi z, vi (M 35 (x3).toNat), vr 33] M1 P) (h1 : 0 ≤ x3 := by omega) (h2 : x3 < ((1024 : Nat) : Int) := by omega) : Runs X mX8_seekTooMuch 40 [(0, vr 0), (1, vi x1), (2, vi x2), (3, vi x3)] [] M P := by
  refine Runs.aload_n (j := 0) dX8_seekTooMuch_40 rfl ?_
  refine Runs.getr (o' := 33) (ci := 8) (j := 8) (C := RX8) (T := TX8) (N := 12) dX8_seekTooMuch_41 rfl cls_X8 (by decide) rfl fl_X8_60 rfl ⟨rfl, _, Or.inl rfl⟩ ?_
  refine Runs.aload_n (j := 0) dX8_seekTooMuch_44 rfl ?_
  refine Runs.getr (o' := 35) (ci := 8) (j := 10) (C := RX8) (T := TX8) (N := 12) dX8_seekTooMuch_45 rfl cls_X8 (by decide) rfl fl_X8_71 rfl ⟨rfl, "", Or.inr ⟨_, rfl⟩⟩ ?_
  refine Runs.iload_n (j := 3) dX8_seekTooMuch_48 rfl ?_
  refine Runs.iald dX8_seekTooMuch_49 rfl h1 h2 ?_
  refine Runs.iload_n (j := 3) dX8_seekTooMuch_50 rfl ?_
  refine Runs.callSi (y := mJ6_bitCount_0f7a4) (n := 1) (as := [vi x3]) (st := [vi (M 35 (x3).toNat), vr 33]) dX8_seekTooMuch_51 oc_J6_bitCount_0f7a4 sm_J6_bitCount_0f7a4 ml_X8_310 rfl ⟨(Nat.le_of_ble_eq_true rfl), (Nat.le_of_ble_eq_true rfl)⟩ (Nat.le_of_ble_eq_true rfl) (Nat.le_of_ble_eq_true rfl) (Or.inl rfl) hC (fun z M1 hQ => ?_)
  exact k z M1 hQ
theorem kX8_seekTooMuch_54 {X : Scr} {M : Mem} {P Q : Option AV → Mem → Prop} {x1 x2 x3 xs1 xs2 : Int} (hC : Call X mX2_offer [vr 33, vi xs1, vi xs2, vi x3] M Q) (k : ∀ (M1 : Mem), Q none M1 → Runs X mX8_seekTooMuch 58 [(0, vr 0), (1, vi x1), (2, vi x2), (3, vi x3)] [] M1 P) : Runs X mX8_seekTooMuch 54 [(0, vr 0), (1, vi x1), (2, vi x2), (3, vi x3)] [vi xs2, vi xs1, vr 33] M P := by
  refine Runs.iload_n (j := 3) dX8_seekTooMuch_54 rfl ?_
  refine Runs.callVv (y := mX2_offer) (n := 3) (as := [vi xs1, vi xs2, vi x3]) (st := []) (q := (RX2, TX2, 4)) dX8_seekTooMuch_55 oc_X2_offer im_X2_offer se_X2_offer ml_X8_213 rfl ⟨(Nat.le_of_ble_eq_true rfl), (Nat.le_of_ble_eq_true rfl)⟩ (Nat.le_of_ble_eq_true rfl) (Nat.le_of_ble_eq_true rfl) rfl rfl rfl rfl hC (fun M1 hQ => ?_)
  exact k M1 hQ
theorem kX8_seekTooMuch_58 {X : Scr} {M : Mem} {P : Option AV → Mem → Prop} {x1 x2 x3 : Int} (k : Runs X mX8_seekTooMuch 14 [(0, vr 0), (1, vi x1), (2, vi x2), (3, vi (x3 + (1 : Int)))] [] M P) (h1 : -2147483648 ≤ (x3 + (1 : Int)) ∧ (x3 + (1 : Int)) ≤ 2147483647 := by omega) : Runs X mX8_seekTooMuch 58 [(0, vr 0), (1, vi x1), (2, vi x2), (3, vi x3)] [] M P := by
  refine Runs.iinc (k := 3) (loc' := [(0, vr 0), (1, vi x1), (2, vi x2), (3, vi (x3 + (1 : Int)))]) dX8_seekTooMuch_58 rfl h1 (by decide) rfl ?_
  refine Runs.goto (tgt := 14) dX8_seekTooMuch_61 (by decide) ?_
  exact k
theorem kX8_seekTooMuch_64 {X : Scr} {M : Mem} {P : Option AV → Mem → Prop} (k : P none M) : Runs X mX8_seekTooMuch 64 [] [] M P := by
  exact Runs.ret0 dX8_seekTooMuch_64 rfl k
theorem kX8_handOver_0 {X : Scr} {M : Mem} {P : Option AV → Mem → Prop} {x1 x2 : Int} (k : Runs X mX8_handOver 2 [(0, vr 0), (1, vi x1), (2, vi x2), (3, vi (0 : Int))] [] M P) : Runs X mX8_handOver 0 [(0, vr 0), (1, vi x1), (2, vi x2)] [] M P := by
  refine Runs.iconst dX8_handOver_0 (by decide) ?_
  refine Runs.istore_n (loc' := [(0, vr 0), (1, vi x1), (2, vi x2), (3, vi (0 : Int))]) dX8_handOver_1 rfl (by decide) rfl ?_
  exact k
theorem kX8_handOver_2 {X : Scr} {M : Mem} {P : Option AV → Mem → Prop} {x1 x2 x3 : Int} (k1 : (M (oT 0) 1) ≤ x3 → Runs X mX8_handOver 45 [] [] M P) (k2 : x3 < (M (oT 0) 1) → Runs X mX8_handOver 13 [(0, vr 0), (1, vi x1), (2, vi x2), (3, vi x3)] [] M P) : Runs X mX8_handOver 2 [(0, vr 0), (1, vi x1), (2, vi x2), (3, vi x3)] [] M P := by
  refine Runs.iload_n (j := 3) dX8_handOver_2 rfl ?_
  refine Runs.aload_n (j := 0) dX8_handOver_3 rfl ?_
  refine Runs.getr (o' := (oT 0)) (ci := 8) (j := 1) (C := RX8) (T := TX8) (N := 12) dX8_handOver_4 rfl cls_X8 (by decide) rfl fl_X8_19 rfl ⟨rfl, _, Or.inl rfl⟩ ?_
  refine Runs.geti (ci := 6) (j := 1) (C := RX6) (T := TX6) (N := 2) dX8_handOver_7 (kd_oT (by omega)) cls_X6 (by decide) rfl fl_X8_94 (Or.inl rfl) ?_
  refine Runs.icmp_ge (tgt := 45) dX8_handOver_10 (by decide) (fun h => ?_) (fun h => ?_)
  · refine Runs.picks (loc' := []) [] rfl ?_
    exact k1 h
  · exact k2 h
theorem kX8_handOver_13 {X : Scr} {M : Mem} {P : Option AV → Mem → Prop} {x1 x2 x3 : Int} (k1 : (zand (zshr x1 x3) (1 : Int)) ≠ (1 : Int) → Runs X mX8_handOver 39 [(0, vr 0), (1, vi x1), (2, vi x2), (3, vi x3)] [] M P) (k2 : (zand (zshr x1 x3) (1 : Int)) = (1 : Int) → Runs X mX8_handOver 22 [(0, vr 0), (1, vi x1), (2, vi x2), (3, vi x3)] [] M P) : Runs X mX8_handOver 13 [(0, vr 0), (1, vi x1), (2, vi x2), (3, vi x3)] [] M P := by
  refine Runs.iload_n (j := 1) dX8_handOver_13 rfl ?_
  refine Runs.iload_n (j := 3) dX8_handOver_14 rfl ?_
  refine Runs.ishr dX8_handOver_15 ?_
  refine Runs.iconst dX8_handOver_16 (by decide) ?_
  refine Runs.iand dX8_handOver_17 ?_
  refine Runs.iconst dX8_handOver_18 (by decide) ?_
  refine Runs.icmp_ne (tgt := 39) dX8_handOver_19 (by decide) (fun h => ?_) (fun h => ?_)
  · exact k1 h
  · exact k2 h
theorem kX8_handOver_22 {X : Scr} {M : Mem} {P Q : Option AV → Mem → Prop} {x1 x2 x3 : Int} (hC : Call X mX6_wearDown [vr (oT 0), vi x3] M Q) (k : ∀ (M1 : Mem), Q none M1 → Runs X mX8_handOver 30 [(0, vr 0), (1, vi x1), (2, vi x2), (3, vi x3)] [] M1 P) : Runs X mX8_handOver 22 [(0, vr 0), (1, vi x1), (2, vi x2), (3, vi x3)] [] M P := by
  refine Runs.aload_n (j := 0) dX8_handOver_22 rfl ?_
  refine Runs.getr (o' := (oT 0)) (ci := 8) (j := 1) (C := RX8) (T := TX8) (N := 12) dX8_handOver_23 rfl cls_X8 (by decide) rfl fl_X8_19 rfl ⟨rfl, _, Or.inl rfl⟩ ?_
  refine Runs.iload_n (j := 3) dX8_handOver_26 rfl ?_
  refine Runs.callVv (y := mX6_wearDown) (n := 1) (as := [vi x3]) (st := []) (q := (RX6, TX6, 2)) dX8_handOver_27 oc_X6_wearDown im_X6_wearDown se_X6_wearDown ml_X8_148 rfl ⟨(Nat.le_of_ble_eq_true rfl), (Nat.le_of_ble_eq_true rfl)⟩ (Nat.le_of_ble_eq_true rfl) (Nat.le_of_ble_eq_true rfl) (kd_oT (by omega)) rfl rfl rfl hC (fun M1 hQ => ?_)
  exact k M1 hQ
theorem kX8_handOver_30 {X : Scr} {M : Mem} {P Q : Option AV → Mem → Prop} {x1 x2 x3 : Int} (hC : Call X mX6_passTo [vr (oT 0), vi x3, vi x2] M Q) (k : ∀ (M1 : Mem), Q none M1 → Runs X mX8_handOver 39 [(0, vr 0), (1, vi x1), (2, vi x2), (3, vi x3)] [] M1 P) : Runs X mX8_handOver 30 [(0, vr 0), (1, vi x1), (2, vi x2), (3, vi x3)] [] M P := by
  refine Runs.aload_n (j := 0) dX8_handOver_30 rfl ?_
  refine Runs.getr (o' := (oT 0)) (ci := 8) (j := 1) (C := RX8) (T := TX8) (N := 12) dX8_handOver_31 rfl cls_X8 (by decide) rfl fl_X8_19 rfl ⟨rfl, _, Or.inl rfl⟩ ?_
  refine Runs.iload_n (j := 3) dX8_handOver_34 rfl ?_
  refine Runs.iload_n (j := 2) dX8_handOver_35 rfl ?_
  refine Runs.callVv (y := mX6_passTo) (n := 2) (as := [vi x3, vi x2]) (st := []) (q := (RX6, TX6, 2)) dX8_handOver_36 oc_X6_passTo im_X6_passTo se_X6_passTo ml_X8_315 rfl ⟨(Nat.le_of_ble_eq_true rfl), (Nat.le_of_ble_eq_true rfl)⟩ (Nat.le_of_ble_eq_true rfl) (Nat.le_of_ble_eq_true rfl) (kd_oT (by omega)) rfl rfl rfl hC (fun M1 hQ => ?_)
  exact k M1 hQ
theorem kX8_handOver_39 {X : Scr} {M : Mem} {P : Option AV → Mem → Prop} {x1 x2 x3 : Int} (k : Runs X mX8_handOver 2 [(0, vr 0), (1, vi x1), (2, vi x2), (3, vi (x3 + (1 : Int)))] [] M P) (h1 : -2147483648 ≤ (x3 + (1 : Int)) ∧ (x3 + (1 : Int)) ≤ 2147483647 := by omega) : Runs X mX8_handOver 39 [(0, vr 0), (1, vi x1), (2, vi x2), (3, vi x3)] [] M P := by
  refine Runs.iinc (k := 3) (loc' := [(0, vr 0), (1, vi x1), (2, vi x2), (3, vi (x3 + (1 : Int)))]) dX8_handOver_39 rfl h1 (by decide) rfl ?_
  refine Runs.goto (tgt := 2) dX8_handOver_42 (by decide) ?_
  exact k
theorem kX8_handOver_45 {X : Scr} {M : Mem} {P : Option AV → Mem → Prop} (k : P none M) : Runs X mX8_handOver 45 [] [] M P := by
  exact Runs.ret0 dX8_handOver_45 rfl k
theorem kX8_drawFrom_0 {X : Scr} {M : Mem} {P : Option AV → Mem → Prop} {x0 : Int} (k : P (some (vl (wrapL ((wrapL (x0 * (6364136223846793005 : Int))) + (1442695040888963407 : Int))))) M) : Runs X mX8_drawFrom 0 [(0, vl x0)] [] M P := by
  refine Runs.lload_n (j := 0) dX8_drawFrom_0 rfl ?_
  refine Runs.ldc2 (z := 6364136223846793005) dX8_drawFrom_1 w2_232 (by decide) (by decide) ?_
  refine Runs.lmulW dX8_drawFrom_4 ?_
  refine Runs.ldc2 (z := 1442695040888963407) dX8_drawFrom_5 w2_233 (by decide) (by decide) ?_
  refine Runs.laddW dX8_drawFrom_8 ?_
  exact Runs.retl dX8_drawFrom_9 rfl k
theorem kX8_addDrawn_0 {X : Scr} {M : Mem} {P : Option AV → Mem → Prop} {x1 x2 : Int} (k1 : (((qushr x2 (33 : Int)) / (9 : Int)) % (2 : Int)) ≠ (0 : Int) → Runs X mX8_addDrawn 38 [(1, vi x1)] [vi ((l2i ((qushr x2 (33 : Int)) % (9 : Int))) + (1 : Int)), vr (oT 0)] M P) (k2 : (((qushr x2 (33 : Int)) / (9 : Int)) % (2 : Int)) = (0 : Int) → Runs X mX8_addDrawn 34 [(1, vi x1)] [vi ((l2i ((qushr x2 (33 : Int)) % (9 : Int))) + (1 : Int)), vr (oT 0)] M P) (h1 : 0 ≤ (qushr x2 (33 : Int)) := by omega) (h2 : 0 < (9 : Int) := by omega) (h3 : -2147483648 ≤ ((l2i ((qushr x2 (33 : Int)) % (9 : Int))) + (1 : Int)) ∧ ((l2i ((qushr x2 (33 : Int)) % (9 : Int))) + (1 : Int)) ≤ 2147483647 := by omega) (h4 : 0 ≤ ((qushr x2 (33 : Int)) / (9 : Int)) := by omega) (h5 : 0 < (2 : Int) := by omega) : Runs X mX8_addDrawn 0 [(0, vr 0), (1, vi x1), (2, vl x2)] [] M P := by
  refine Runs.lload_n (j := 2) dX8_addDrawn_0 rfl ?_
  refine Runs.bipush dX8_addDrawn_1 (by decide) (by decide) ?_
  refine Runs.lushr dX8_addDrawn_3 ?_
  refine Runs.lstore (loc' := [(0, vr 0), (1, vi x1), (2, vl x2), (4, vl (qushr x2 (33 : Int)))]) dX8_addDrawn_4 (by decide) rfl ?_
  refine Runs.aload_n (j := 0) dX8_addDrawn_6 rfl ?_
  refine Runs.getr (o' := (oT 0)) (ci := 8) (j := 1) (C := RX8) (T := TX8) (N := 12) dX8_addDrawn_7 rfl cls_X8 (by decide) rfl fl_X8_19 rfl ⟨rfl, _, Or.inl rfl⟩ ?_
  refine Runs.lload (j := 3) dX8_addDrawn_10 rfl ?_
  refine Runs.ldc2 (z := 9) dX8_addDrawn_12 w2_238 (by decide) (by decide) ?_
  refine Runs.lrem dX8_addDrawn_15 h1 h2 ?_
  refine Runs.l2i dX8_addDrawn_16 ?_
  refine Runs.iconst dX8_addDrawn_17 (by decide) ?_
  refine Runs.iadd dX8_addDrawn_18 h3 ?_
  refine Runs.lload (j := 3) dX8_addDrawn_19 rfl ?_
  refine Runs.ldc2 (z := 9) dX8_addDrawn_21 w2_238 (by decide) (by decide) ?_
  refine Runs.ldiv dX8_addDrawn_24 h1 h2 ?_
  refine Runs.ldc2 (z := 2) dX8_addDrawn_25 w2_239 (by decide) (by decide) ?_
  refine Runs.lrem dX8_addDrawn_28 h4 h5 ?_
  refine Runs.lconst (z := 0) dX8_addDrawn_29 rfl (by decide) ?_
  refine Runs.lcmp_ne (tgt := 38) dX8_addDrawn_30 dX8_addDrawn_31 (by decide) (fun h => ?_) (fun h => ?_)
  · refine Runs.picks (loc' := [(1, vi x1)]) [1] rfl ?_
    exact k1 h
  · refine Runs.picks (loc' := [(1, vi x1)]) [1] rfl ?_
    exact k2 h
theorem kX8_addDrawn_34 {X : Scr} {M : Mem} {P : Option AV → Mem → Prop} {ts0 : Nat} {x1 xs1 : Int} (k : Runs X mX8_addDrawn 39 [(1, vi x1)] [vi (1 : Int), vi xs1, vr (oT ts0)] M P) (hb_ts0 : ts0 < 27 := by omega) : Runs X mX8_addDrawn 34 [(1, vi x1)] [vi xs1, vr (oT ts0)] M P := by
  refine Runs.iconst dX8_addDrawn_34 (by decide) ?_
  refine Runs.goto (tgt := 39) dX8_addDrawn_35 (by decide) ?_
  exact k
theorem kX8_addDrawn_38 {X : Scr} {M : Mem} {P : Option AV → Mem → Prop} {ts0 : Nat} {x1 xs1 : Int} (k : Runs X mX8_addDrawn 39 [(1, vi x1)] [vi (0 : Int), vi xs1, vr (oT ts0)] M P) (hb_ts0 : ts0 < 27 := by omega) : Runs X mX8_addDrawn 38 [(1, vi x1)] [vi xs1, vr (oT ts0)] M P := by
  refine Runs.iconst dX8_addDrawn_38 (by decide) ?_
  exact k
theorem kX8_addDrawn_39 {X : Scr} {M : Mem} {P Q : Option AV → Mem → Prop} {ts0 : Nat} {x1 xs1 xs2 : Int} (hC : Call X mX6_add [vr (oT ts0), vi xs1, vi xs2, vi x1] M Q) (k : ∀ (z : Int) (M1 : Mem), Q (some (vi z)) M1 → Runs X mX8_addDrawn 43 [] [vi z] M1 P) (hb_ts0 : ts0 < 27 := by omega) : Runs X mX8_addDrawn 39 [(1, vi x1)] [vi xs2, vi xs1, vr (oT ts0)] M P := by
  refine Runs.iload_n (j := 0) dX8_addDrawn_39 rfl ?_
  refine Runs.callVi (y := mX6_add) (n := 3) (as := [vi xs1, vi xs2, vi x1]) (st := []) (q := (RX6, TX6, 2)) dX8_addDrawn_40 oc_X6_add im_X6_add se_X6_add ml_X8_301 rfl ⟨(Nat.le_of_ble_eq_true rfl), (Nat.le_of_ble_eq_true rfl)⟩ (Nat.le_of_ble_eq_true rfl) (Nat.le_of_ble_eq_true rfl) (kd_oT (by omega)) rfl rfl (Or.inl rfl) hC (fun z M1 hQ => ?_)
  refine Runs.picks (loc' := []) [] rfl ?_
  exact k z M1 hQ
theorem kX8_addDrawn_43 {X : Scr} {M : Mem} {P : Option AV → Mem → Prop} {xs0 : Int} (k : P none M) : Runs X mX8_addDrawn 43 [] [vi xs0] M P := by
  refine Runs.pop dX8_addDrawn_43 (by intro z h; cases h) ?_
  exact Runs.ret0 dX8_addDrawn_44 rfl k
theorem kX8_power_0 {X : Scr} {M : Mem} {P : Option AV → Mem → Prop} {x0 x2 : Int} (k : Runs X mX8_power 5 [(0, vl x0), (2, vi x2), (3, vl (1 : Int)), (5, vi (0 : Int))] [] M P) : Runs X mX8_power 0 [(0, vl x0), (2, vi x2)] [] M P := by
  refine Runs.lconst (z := 1) dX8_power_0 rfl (by decide) ?_
  refine Runs.lstore_n (loc' := [(0, vl x0), (2, vi x2), (3, vl (1 : Int))]) dX8_power_1 rfl (by decide) rfl ?_
  refine Runs.iconst dX8_power_2 (by decide) ?_
  refine Runs.istore (loc' := [(0, vl x0), (2, vi x2), (3, vl (1 : Int)), (5, vi (0 : Int))]) dX8_power_3 (by decide) rfl ?_
  exact k
theorem kX8_power_5 {X : Scr} {M : Mem} {P : Option AV → Mem → Prop} {x0 x2 x3 x5 : Int} (k1 : x2 ≤ x5 → Runs X mX8_power 21 [(3, vl x3)] [] M P) (k2 : x5 < x2 → Runs X mX8_power 11 [(0, vl x0), (2, vi x2), (3, vl x3), (5, vi x5)] [] M P) : Runs X mX8_power 5 [(0, vl x0), (2, vi x2), (3, vl x3), (5, vi x5)] [] M P := by
  refine Runs.iload (j := 3) dX8_power_5 rfl ?_
  refine Runs.iload_n (j := 1) dX8_power_7 rfl ?_
  refine Runs.icmp_ge (tgt := 21) dX8_power_8 (by decide) (fun h => ?_) (fun h => ?_)
  · refine Runs.picks (loc' := [(3, vl x3)]) [2] rfl ?_
    exact k1 h
  · exact k2 h
theorem kX8_power_11 {X : Scr} {M : Mem} {P : Option AV → Mem → Prop} {x0 x2 x3 x5 : Int} (k : Runs X mX8_power 5 [(0, vl x0), (2, vi x2), (3, vl (x3 * x0)), (5, vi (x5 + (1 : Int)))] [] M P) (h1 : -9223372036854775808 ≤ (x3 * x0) ∧ (x3 * x0) ≤ 9223372036854775807 := by omega) (h2 : -2147483648 ≤ (x5 + (1 : Int)) ∧ (x5 + (1 : Int)) ≤ 2147483647 := by omega) : Runs X mX8_power 11 [(0, vl x0), (2, vi x2), (3, vl x3), (5, vi x5)] [] M P := by
  refine Runs.lload_n (j := 2) dX8_power_11 rfl ?_
  refine Runs.lload_n (j := 0) dX8_power_12 rfl ?_
  refine Runs.lmul dX8_power_13 h1 ?_
  refine Runs.lstore_n (loc' := [(0, vl x0), (2, vi x2), (3, vl (x3 * x0)), (5, vi x5)]) dX8_power_14 rfl (by decide) rfl ?_
  refine Runs.iinc (k := 3) (loc' := [(0, vl x0), (2, vi x2), (3, vl (x3 * x0)), (5, vi (x5 + (1 : Int)))]) dX8_power_15 rfl h2 (by decide) rfl ?_
  refine Runs.goto (tgt := 5) dX8_power_18 (by decide) ?_
  exact k
theorem kX8_power_21 {X : Scr} {M : Mem} {P : Option AV → Mem → Prop} {x3 : Int} (k : P (some (vl x3)) M) : Runs X mX8_power 21 [(3, vl x3)] [] M P := by
  refine Runs.lload_n (j := 0) dX8_power_21 rfl ?_
  exact Runs.retl dX8_power_22 rfl k
theorem kX8_ofFraction_0 {X : Scr} {M : Mem} {P Q : Option AV → Mem → Prop} {x0 x2 x4 : Int} (hC : Call X mX8_commonDivisor [vl x0, vl x2] M Q) (k : ∀ (z : Int) (M1 : Mem), Q (some (vl z)) M1 → Runs X mX8_ofFraction 5 [(0, vl x0), (2, vl x2), (4, vi x4)] [vl z] M1 P) : Runs X mX8_ofFraction 0 [(0, vl x0), (2, vl x2), (4, vi x4)] [] M P := by
  refine Runs.lload_n (j := 0) dX8_ofFraction_0 rfl ?_
  refine Runs.lload_n (j := 1) dX8_ofFraction_1 rfl ?_
  refine Runs.callSl (y := mX8_commonDivisor) (n := 2) (as := [vl x0, vl x2]) (st := []) dX8_ofFraction_2 oc_X8_commonDivisor sm_X8_commonDivisor ml_X8_326 rfl ⟨(Nat.le_of_ble_eq_true rfl), (Nat.le_of_ble_eq_true rfl)⟩ (Nat.le_of_ble_eq_true rfl) (Nat.le_of_ble_eq_true rfl) rfl hC (fun z M1 hQ => ?_)
  exact k z M1 hQ
theorem kX8_ofFraction_5 {X : Scr} {M : Mem} {P : Option AV → Mem → Prop} {x0 x2 x4 xs0 : Int} (k1 : (0 : Int) < xs0 → Runs X mX8_ofFraction 16 [(0, vl x0), (2, vl x2), (4, vi x4), (5, vl xs0)] [] M P) (k2 : xs0 ≤ (0 : Int) → Runs X mX8_ofFraction 14 [] [] M P) : Runs X mX8_ofFraction 5 [(0, vl x0), (2, vl x2), (4, vi x4)] [vl xs0] M P := by
  refine Runs.lstore (loc' := [(0, vl x0), (2, vl x2), (4, vi x4), (5, vl xs0)]) dX8_ofFraction_5 (by decide) rfl ?_
  refine Runs.lload (j := 3) dX8_ofFraction_7 rfl ?_
  refine Runs.lconst (z := 0) dX8_ofFraction_9 rfl (by decide) ?_
  refine Runs.lcmp_gt (tgt := 16) dX8_ofFraction_10 dX8_ofFraction_11 (by decide) (fun h => ?_) (fun h => ?_)
  · exact k1 h
  · refine Runs.picks (loc' := []) [] rfl ?_
    exact k2 h
theorem kX8_ofFraction_14 {X : Scr} {M : Mem} {P : Option AV → Mem → Prop} (k : P (some (vl (0 : Int))) M) : Runs X mX8_ofFraction 14 [] [] M P := by
  refine Runs.lconst (z := 0) dX8_ofFraction_14 rfl (by decide) ?_
  exact Runs.retl dX8_ofFraction_15 rfl k
theorem kX8_ofFraction_16 {X : Scr} {M : Mem} {P : Option AV → Mem → Prop} {x0 x2 x4 x5 : Int} (k1 : x4 = 0 → Runs X mX8_ofFraction 25 [(2, vl x2), (5, vl x5)] [] M P) (k2 : x4 ≠ 0 → Runs X mX8_ofFraction 21 [(0, vl x0), (5, vl x5)] [] M P) : Runs X mX8_ofFraction 16 [(0, vl x0), (2, vl x2), (4, vi x4), (5, vl x5)] [] M P := by
  refine Runs.iload (j := 2) dX8_ofFraction_16 rfl ?_
  refine Runs.if_eq (tgt := 25) dX8_ofFraction_18 (by decide) (fun h => ?_) (fun h => ?_)
  · refine Runs.picks (loc' := [(2, vl x2), (5, vl x5)]) [1, 3] rfl ?_
    exact k1 h
  · refine Runs.picks (loc' := [(0, vl x0), (5, vl x5)]) [0, 3] rfl ?_
    exact k2 h
theorem kX8_ofFraction_21 {X : Scr} {M : Mem} {P : Option AV → Mem → Prop} {x0 x5 : Int} (k : Runs X mX8_ofFraction 26 [(5, vl x5)] [vl x0] M P) : Runs X mX8_ofFraction 21 [(0, vl x0), (5, vl x5)] [] M P := by
  refine Runs.lload_n (j := 0) dX8_ofFraction_21 rfl ?_
  refine Runs.goto (tgt := 26) dX8_ofFraction_22 (by decide) ?_
  refine Runs.picks (loc' := [(5, vl x5)]) [1] rfl ?_
  exact k
theorem kX8_ofFraction_25 {X : Scr} {M : Mem} {P : Option AV → Mem → Prop} {x2 x5 : Int} (k : Runs X mX8_ofFraction 26 [(5, vl x5)] [vl x2] M P) : Runs X mX8_ofFraction 25 [(2, vl x2), (5, vl x5)] [] M P := by
  refine Runs.lload_n (j := 0) dX8_ofFraction_25 rfl ?_
  refine Runs.picks (loc' := [(5, vl x5)]) [1] rfl ?_
  exact k
theorem kX8_ofFraction_26 {X : Scr} {M : Mem} {P : Option AV → Mem → Prop} {x5 xs0 : Int} (k : P (some (vl (xs0 / x5))) M) (h1 : 0 ≤ xs0 := by omega) (h2 : 0 < x5 := by omega) : Runs X mX8_ofFraction 26 [(5, vl x5)] [vl xs0] M P := by
  refine Runs.lload (j := 0) dX8_ofFraction_26 rfl ?_
  refine Runs.ldiv dX8_ofFraction_28 h1 h2 ?_
  exact Runs.retl dX8_ofFraction_29 rfl k
theorem kX8_commonDivisor_0 {X : Scr} {M : Mem} {P : Option AV → Mem → Prop} {x0 x2 : Int} (k : Runs X mX8_commonDivisor 9 [(4, vl x0), (6, vl x2), (8, vi (0 : Int))] [] M P) : Runs X mX8_commonDivisor 0 [(0, vl x0), (2, vl x2)] [] M P := by
  refine Runs.lload_n (j := 0) dX8_commonDivisor_0 rfl ?_
  refine Runs.lstore (loc' := [(0, vl x0), (2, vl x2), (4, vl x0)]) dX8_commonDivisor_1 (by decide) rfl ?_
  refine Runs.lload_n (j := 1) dX8_commonDivisor_3 rfl ?_
  refine Runs.lstore (loc' := [(0, vl x0), (2, vl x2), (4, vl x0), (6, vl x2)]) dX8_commonDivisor_4 (by decide) rfl ?_
  refine Runs.iconst dX8_commonDivisor_6 (by decide) ?_
  refine Runs.istore (loc' := [(0, vl x0), (2, vl x2), (4, vl x0), (6, vl x2), (8, vi (0 : Int))]) dX8_commonDivisor_7 (by decide) rfl ?_
  refine Runs.picks (loc' := [(4, vl x0), (6, vl x2), (8, vi (0 : Int))]) [2, 3, 4] rfl ?_
  exact k
theorem kX8_commonDivisor_9 {X : Scr} {M : Mem} {P : Option AV → Mem → Prop} {x4 x6 x8 : Int} (k1 : (100 : Int) ≤ x8 → Runs X mX8_commonDivisor 44 [(4, vl x4)] [] M P) (k2 : x8 < (100 : Int) → Runs X mX8_commonDivisor 16 [(4, vl x4), (6, vl x6), (8, vi x8)] [] M P) : Runs X mX8_commonDivisor 9 [(4, vl x4), (6, vl x6), (8, vi x8)] [] M P := by
  refine Runs.iload (j := 2) dX8_commonDivisor_9 rfl ?_
  refine Runs.bipush dX8_commonDivisor_11 (by decide) (by decide) ?_
  refine Runs.icmp_ge (tgt := 44) dX8_commonDivisor_13 (by decide) (fun h => ?_) (fun h => ?_)
  · refine Runs.picks (loc' := [(4, vl x4)]) [0] rfl ?_
    exact k1 h
  · exact k2 h
theorem kX8_commonDivisor_16 {X : Scr} {M : Mem} {P : Option AV → Mem → Prop} {x4 x6 x8 : Int} (k1 : x6 = (0 : Int) → Runs X mX8_commonDivisor 44 [(4, vl x4)] [] M P) (k2 : x6 ≠ (0 : Int) → Runs X mX8_commonDivisor 23 [(4, vl x4), (6, vl x6), (8, vi x8)] [] M P) : Runs X mX8_commonDivisor 16 [(4, vl x4), (6, vl x6), (8, vi x8)] [] M P := by
  refine Runs.lload (j := 1) dX8_commonDivisor_16 rfl ?_
  refine Runs.lconst (z := 0) dX8_commonDivisor_18 rfl (by decide) ?_
  refine Runs.lcmp_eq (tgt := 44) dX8_commonDivisor_19 dX8_commonDivisor_20 (by decide) (fun h => ?_) (fun h => ?_)
  · refine Runs.picks (loc' := [(4, vl x4)]) [0] rfl ?_
    exact k1 h
  · exact k2 h
theorem kX8_commonDivisor_23 {X : Scr} {M : Mem} {P : Option AV → Mem → Prop} {x4 x6 x8 : Int} (k : Runs X mX8_commonDivisor 9 [(4, vl x6), (6, vl (x4 % x6)), (8, vi (x8 + (1 : Int)))] [] M P) (h1 : 0 ≤ x4 := by omega) (h2 : 0 < x6 := by omega) (h3 : -2147483648 ≤ (x8 + (1 : Int)) ∧ (x8 + (1 : Int)) ≤ 2147483647 := by omega) : Runs X mX8_commonDivisor 23 [(4, vl x4), (6, vl x6), (8, vi x8)] [] M P := by
  refine Runs.lload (j := 0) dX8_commonDivisor_23 rfl ?_
  refine Runs.lload (j := 1) dX8_commonDivisor_25 rfl ?_
  refine Runs.lrem dX8_commonDivisor_27 h1 h2 ?_
  refine Runs.lstore (loc' := [(4, vl x4), (6, vl x6), (8, vi x8), (9, vl (x4 % x6))]) dX8_commonDivisor_28 (by decide) rfl ?_
  refine Runs.lload (j := 1) dX8_commonDivisor_30 rfl ?_
  refine Runs.lstore (loc' := [(4, vl x6), (6, vl x6), (8, vi x8), (9, vl (x4 % x6))]) dX8_commonDivisor_32 (by decide) rfl ?_
  refine Runs.lload (j := 3) dX8_commonDivisor_34 rfl ?_
  refine Runs.lstore (loc' := [(4, vl x6), (6, vl (x4 % x6)), (8, vi x8), (9, vl (x4 % x6))]) dX8_commonDivisor_36 (by decide) rfl ?_
  refine Runs.iinc (k := 2) (loc' := [(4, vl x6), (6, vl (x4 % x6)), (8, vi (x8 + (1 : Int))), (9, vl (x4 % x6))]) dX8_commonDivisor_38 rfl h3 (by decide) rfl ?_
  refine Runs.goto (tgt := 9) dX8_commonDivisor_41 (by decide) ?_
  refine Runs.picks (loc' := [(4, vl x6), (6, vl (x4 % x6)), (8, vi (x8 + (1 : Int)))]) [0, 1, 2] rfl ?_
  exact k
theorem kX8_commonDivisor_44 {X : Scr} {M : Mem} {P : Option AV → Mem → Prop} {x4 : Int} (k : P (some (vl x4)) M) : Runs X mX8_commonDivisor 44 [(4, vl x4)] [] M P := by
  refine Runs.lload (j := 0) dX8_commonDivisor_44 rfl ?_
  exact Runs.retl dX8_commonDivisor_46 rfl k
theorem kX8_seekRing_0 {X : Scr} {M : Mem} {P Q : Option AV → Mem → Prop} (hC : Call X mX4_clear [vr 34] M Q) (k : ∀ (M1 : Mem), Q none M1 → Runs X mX8_seekRing 7 [(0, vr 0)] [] M1 P) : Runs X mX8_seekRing 0 [(0, vr 0)] [] M P := by
  refine Runs.aload_n (j := 0) dX8_seekRing_0 rfl ?_
  refine Runs.getr (o' := 34) (ci := 8) (j := 9) (C := RX8) (T := TX8) (N := 12) dX8_seekRing_1 rfl cls_X8 (by decide) rfl fl_X8_67 rfl ⟨rfl, _, Or.inl rfl⟩ ?_
  refine Runs.callVv (y := mX4_clear) (n := 0) (as := []) (st := []) (q := (RX4, TX4, 4)) dX8_seekRing_4 oc_X4_clear im_X4_clear se_X4_clear ml_X8_330 rfl ⟨(Nat.le_of_ble_eq_true rfl), (Nat.le_of_ble_eq_true rfl)⟩ (Nat.le_of_ble_eq_true rfl) (Nat.le_of_ble_eq_true rfl) rfl rfl rfl rfl hC (fun M1 hQ => ?_)
  exact k M1 hQ
theorem kX8_seekRing_7 {X : Scr} {M : Mem} {P : Option AV → Mem → Prop} (k : Runs X mX8_seekRing 9 [(0, vr 0), (1, vi (2 : Int))] [] M P) : Runs X mX8_seekRing 7 [(0, vr 0)] [] M P := by
  refine Runs.iconst dX8_seekRing_7 (by decide) ?_
  refine Runs.istore_n (loc' := [(0, vr 0), (1, vi (2 : Int))]) dX8_seekRing_8 rfl (by decide) rfl ?_
  exact k
theorem kX8_seekRing_9 {X : Scr} {M : Mem} {P : Option AV → Mem → Prop} {x1 : Int} (k1 : (4 : Int) < x1 → Runs X mX8_seekRing 60 [] [] M P) (k2 : x1 ≤ (4 : Int) → Runs X mX8_seekRing 14 [(0, vr 0), (1, vi x1)] [] M P) : Runs X mX8_seekRing 9 [(0, vr 0), (1, vi x1)] [] M P := by
  refine Runs.iload_n (j := 1) dX8_seekRing_9 rfl ?_
  refine Runs.iconst dX8_seekRing_10 (by decide) ?_
  refine Runs.icmp_gt (tgt := 60) dX8_seekRing_11 (by decide) (fun h => ?_) (fun h => ?_)
  · refine Runs.picks (loc' := []) [] rfl ?_
    exact k1 h
  · exact k2 h
theorem kX8_seekRing_14 {X : Scr} {M : Mem} {P : Option AV → Mem → Prop} {x1 : Int} (k : Runs X mX8_seekRing 22 [(0, vr 0), (1, vi x1), (2, vi (zshl (1 : Int) ((2 : Int) * x1))), (3, vi (0 : Int))] [] M P) (h1 : -2147483648 ≤ ((2 : Int) * x1) ∧ ((2 : Int) * x1) ≤ 2147483647 := by omega) : Runs X mX8_seekRing 14 [(0, vr 0), (1, vi x1)] [] M P := by
  refine Runs.iconst dX8_seekRing_14 (by decide) ?_
  refine Runs.iconst dX8_seekRing_15 (by decide) ?_
  refine Runs.iload_n (j := 1) dX8_seekRing_16 rfl ?_
  refine Runs.imul dX8_seekRing_17 h1 ?_
  refine Runs.ishl dX8_seekRing_18 ?_
  refine Runs.istore_n (loc' := [(0, vr 0), (1, vi x1), (2, vi (zshl (1 : Int) ((2 : Int) * x1)))]) dX8_seekRing_19 rfl (by decide) rfl ?_
  refine Runs.iconst dX8_seekRing_20 (by decide) ?_
  refine Runs.istore_n (loc' := [(0, vr 0), (1, vi x1), (2, vi (zshl (1 : Int) ((2 : Int) * x1))), (3, vi (0 : Int))]) dX8_seekRing_21 rfl (by decide) rfl ?_
  exact k
theorem kX8_seekRing_22 {X : Scr} {M : Mem} {P : Option AV → Mem → Prop} {x1 x2 x3 : Int} (k1 : x2 ≤ x3 → Runs X mX8_seekRing 54 [(0, vr 0), (1, vi x1)] [] M P) (k2 : x3 < x2 → Runs X mX8_seekRing 27 [(0, vr 0), (1, vi x1), (2, vi x2), (3, vi x3)] [] M P) : Runs X mX8_seekRing 22 [(0, vr 0), (1, vi x1), (2, vi x2), (3, vi x3)] [] M P := by
  refine Runs.iload_n (j := 3) dX8_seekRing_22 rfl ?_
  refine Runs.iload_n (j := 2) dX8_seekRing_23 rfl ?_
  refine Runs.icmp_ge (tgt := 54) dX8_seekRing_24 (by decide) (fun h => ?_) (fun h => ?_)
  · refine Runs.picks (loc' := [(0, vr 0), (1, vi x1)]) [0, 1] rfl ?_
    exact k1 h
  · exact k2 h
theorem kX8_seekRing_27 {X : Scr} {M : Mem} {P Q : Option AV → Mem → Prop} {x1 x2 x3 : Int} (hC : Call X mX4_isRing [vi x3, vi x1] M Q) (k : ∀ (z : Int) (M1 : Mem), Q (some (vi z)) M1 → Runs X mX8_seekRing 32 [(0, vr 0), (1, vi x1), (2, vi x2), (3, vi x3)] [vi z] M1 P) : Runs X mX8_seekRing 27 [(0, vr 0), (1, vi x1), (2, vi x2), (3, vi x3)] [] M P := by
  refine Runs.iload_n (j := 3) dX8_seekRing_27 rfl ?_
  refine Runs.iload_n (j := 1) dX8_seekRing_28 rfl ?_
  refine Runs.callSi (y := mX4_isRing) (n := 2) (as := [vi x3, vi x1]) (st := []) dX8_seekRing_29 oc_X4_isRing sm_X4_isRing ml_X8_331 rfl ⟨(Nat.le_of_ble_eq_true rfl), (Nat.le_of_ble_eq_true rfl)⟩ (Nat.le_of_ble_eq_true rfl) (Nat.le_of_ble_eq_true rfl) (Or.inr rfl) hC (fun z M1 hQ => ?_)
  exact k z M1 hQ
theorem kX8_seekRing_32 {X : Scr} {M : Mem} {P : Option AV → Mem → Prop} {x1 x2 x3 xs0 : Int} (k1 : xs0 = 0 → Runs X mX8_seekRing 48 [(0, vr 0), (1, vi x1), (2, vi x2), (3, vi x3)] [] M P) (k2 : xs0 ≠ 0 → Runs X mX8_seekRing 35 [(0, vr 0), (1, vi x1), (2, vi x2), (3, vi x3)] [] M P) : Runs X mX8_seekRing 32 [(0, vr 0), (1, vi x1), (2, vi x2), (3, vi x3)] [vi xs0] M P := by
  refine Runs.if_eq (tgt := 48) dX8_seekRing_32 (by decide) (fun h => ?_) (fun h => ?_)
  · exact k1 h
  · exact k2 h
theorem kX8_seekRing_35 {X : Scr} {M : Mem} {P Q : Option AV → Mem → Prop} {x1 x2 x3 : Int} (hC : Call X mX4_offer [vr 34, vr (oR 0), vi x3, vi x1] M Q) (k : ∀ (M1 : Mem), Q none M1 → Runs X mX8_seekRing 48 [(0, vr 0), (1, vi x1), (2, vi x2), (3, vi x3)] [] M1 P) : Runs X mX8_seekRing 35 [(0, vr 0), (1, vi x1), (2, vi x2), (3, vi x3)] [] M P := by
  refine Runs.aload_n (j := 0) dX8_seekRing_35 rfl ?_
  refine Runs.getr (o' := 34) (ci := 8) (j := 9) (C := RX8) (T := TX8) (N := 12) dX8_seekRing_36 rfl cls_X8 (by decide) rfl fl_X8_67 rfl ⟨rfl, _, Or.inl rfl⟩ ?_
  refine Runs.aload_n (j := 0) dX8_seekRing_39 rfl ?_
  refine Runs.getr (o' := (oR 0)) (ci := 8) (j := 4) (C := RX8) (T := TX8) (N := 12) dX8_seekRing_40 rfl cls_X8 (by decide) rfl fl_X8_40 rfl ⟨rfl, _, Or.inl rfl⟩ ?_
  refine Runs.iload_n (j := 3) dX8_seekRing_43 rfl ?_
  refine Runs.iload_n (j := 1) dX8_seekRing_44 rfl ?_
  refine Runs.callVv (y := mX4_offer) (n := 3) (as := [vr (oR 0), vi x3, vi x1]) (st := []) (q := (RX4, TX4, 4)) dX8_seekRing_45 oc_X4_offer im_X4_offer se_X4_offer ml_X8_335 rfl ⟨(Nat.le_of_ble_eq_true rfl), (Nat.le_of_ble_eq_true rfl)⟩ (Nat.le_of_ble_eq_true rfl) (Nat.le_of_ble_eq_true rfl) rfl rfl rfl rfl hC (fun M1 hQ => ?_)
  exact k M1 hQ
theorem kX8_seekRing_48 {X : Scr} {M : Mem} {P : Option AV → Mem → Prop} {x1 x2 x3 : Int} (k : Runs X mX8_seekRing 22 [(0, vr 0), (1, vi x1), (2, vi x2), (3, vi (x3 + (1 : Int)))] [] M P) (h1 : -2147483648 ≤ (x3 + (1 : Int)) ∧ (x3 + (1 : Int)) ≤ 2147483647 := by omega) : Runs X mX8_seekRing 48 [(0, vr 0), (1, vi x1), (2, vi x2), (3, vi x3)] [] M P := by
  refine Runs.iinc (k := 3) (loc' := [(0, vr 0), (1, vi x1), (2, vi x2), (3, vi (x3 + (1 : Int)))]) dX8_seekRing_48 rfl h1 (by decide) rfl ?_
  refine Runs.goto (tgt := 22) dX8_seekRing_51 (by decide) ?_
  exact k
theorem kX8_seekRing_54 {X : Scr} {M : Mem} {P : Option AV → Mem → Prop} {x1 : Int} (k : Runs X mX8_seekRing 9 [(0, vr 0), (1, vi (x1 + (1 : Int)))] [] M P) (h1 : -2147483648 ≤ (x1 + (1 : Int)) ∧ (x1 + (1 : Int)) ≤ 2147483647 := by omega) : Runs X mX8_seekRing 54 [(0, vr 0), (1, vi x1)] [] M P := by
  refine Runs.iinc (k := 1) (loc' := [(0, vr 0), (1, vi (x1 + (1 : Int)))]) dX8_seekRing_54 rfl h1 (by decide) rfl ?_
  refine Runs.goto (tgt := 9) dX8_seekRing_57 (by decide) ?_
  exact k
theorem kX8_seekRing_60 {X : Scr} {M : Mem} {P : Option AV → Mem → Prop} (k : P none M) : Runs X mX8_seekRing 60 [] [] M P := by
  exact Runs.ret0 dX8_seekRing_60 rfl k
