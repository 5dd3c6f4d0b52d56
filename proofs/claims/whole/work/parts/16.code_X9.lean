/-! ===== printed by program: decode rows, block rows of X9 ===== -/
theorem dX9_in_0 : decode cX9_in 0 = .ok (.lload_n 0, 1) := by decide +kernel
theorem dX9_in_1 : decode cX9_in 1 = .ok (.lload_n 2, 1) := by decide +kernel
theorem dX9_in_2 : decode cX9_in 2 = .ok (.lcmp, 1) := by decide +kernel
theorem dX9_in_3 : decode cX9_in 3 = .ok (.ifCond .lt 14, 3) := by decide +kernel
theorem dX9_in_6 : decode cX9_in 6 = .ok (.lload_n 0, 1) := by decide +kernel
theorem dX9_in_7 : decode cX9_in 7 = .ok (.lload 4, 2) := by decide +kernel
theorem dX9_in_9 : decode cX9_in 9 = .ok (.lcmp, 1) := by decide +kernel
theorem dX9_in_10 : decode cX9_in 10 = .ok (.ifCond .gt 7, 3) := by decide +kernel
theorem dX9_in_13 : decode cX9_in 13 = .ok (.iconst 1, 1) := by decide +kernel
theorem dX9_in_14 : decode cX9_in 14 = .ok (.goto 4, 3) := by decide +kernel
theorem dX9_in_17 : decode cX9_in 17 = .ok (.iconst 0, 1) := by decide +kernel
theorem dX9_in_18 : decode cX9_in 18 = .ok (.ireturn, 1) := by decide +kernel
theorem dX9_has_0 : decode cX9_has 0 = .ok (.iload_n 0, 1) := by decide +kernel
theorem dX9_has_1 : decode cX9_has 1 = .ok (.iload_n 1, 1) := by decide +kernel
theorem dX9_has_2 : decode cX9_has 2 = .ok (.ishr, 1) := by decide +kernel
theorem dX9_has_3 : decode cX9_has 3 = .ok (.iconst 1, 1) := by decide +kernel
theorem dX9_has_4 : decode cX9_has 4 = .ok (.iand, 1) := by decide +kernel
theorem dX9_has_5 : decode cX9_has 5 = .ok (.iconst 1, 1) := by decide +kernel
theorem dX9_has_6 : decode cX9_has 6 = .ok (.if_icmp .ne 7, 3) := by decide +kernel
theorem dX9_has_9 : decode cX9_has 9 = .ok (.iconst 1, 1) := by decide +kernel
theorem dX9_has_10 : decode cX9_has 10 = .ok (.goto 4, 3) := by decide +kernel
theorem dX9_has_13 : decode cX9_has 13 = .ok (.iconst 0, 1) := by decide +kernel
theorem dX9_has_14 : decode cX9_has 14 = .ok (.ireturn, 1) := by decide +kernel
theorem dX9_many_0 : decode cX9_many 0 = .ok (.iconst 0, 1) := by decide +kernel
theorem dX9_many_1 : decode cX9_many 1 = .ok (.istore_n 1, 1) := by decide +kernel
theorem dX9_many_2 : decode cX9_many 2 = .ok (.iconst 0, 1) := by decide +kernel
theorem dX9_many_3 : decode cX9_many 3 = .ok (.istore_n 2, 1) := by decide +kernel
theorem dX9_many_4 : decode cX9_many 4 = .ok (.iload_n 2, 1) := by decide +kernel
theorem dX9_many_5 : decode cX9_many 5 = .ok (.bipush 10, 2) := by decide +kernel
theorem dX9_many_7 : decode cX9_many 7 = .ok (.if_icmp .ge 17, 3) := by decide +kernel
theorem dX9_many_10 : decode cX9_many 10 = .ok (.iload_n 1, 1) := by decide +kernel
theorem dX9_many_11 : decode cX9_many 11 = .ok (.iload_n 0, 1) := by decide +kernel
theorem dX9_many_12 : decode cX9_many 12 = .ok (.iload_n 2, 1) := by decide +kernel
theorem dX9_many_13 : decode cX9_many 13 = .ok (.ishr, 1) := by decide +kernel
theorem dX9_many_14 : decode cX9_many 14 = .ok (.iconst 1, 1) := by decide +kernel
theorem dX9_many_15 : decode cX9_many 15 = .ok (.iand, 1) := by decide +kernel
theorem dX9_many_16 : decode cX9_many 16 = .ok (.iadd, 1) := by decide +kernel
theorem dX9_many_17 : decode cX9_many 17 = .ok (.istore_n 1, 1) := by decide +kernel
theorem dX9_many_18 : decode cX9_many 18 = .ok (.iinc 2 1, 3) := by decide +kernel
theorem dX9_many_21 : decode cX9_many 21 = .ok (.goto (-17), 3) := by decide +kernel
theorem dX9_many_24 : decode cX9_many 24 = .ok (.iload_n 1, 1) := by decide +kernel
theorem dX9_many_25 : decode cX9_many 25 = .ok (.ireturn, 1) := by decide +kernel
theorem dX9_noTooth_0 : decode cX9_noTooth 0 = .ok (.iload_n 1, 1) := by decide +kernel
theorem dX9_noTooth_1 : decode cX9_noTooth 1 = .ok (.i2l, 1) := by decide +kernel
theorem dX9_noTooth_2 : decode cX9_noTooth 2 = .ok (.lconst 0, 1) := by decide +kernel
theorem dX9_noTooth_3 : decode cX9_noTooth 3 = .ok (.aload_n 0, 1) := by decide +kernel
theorem dX9_noTooth_4 : decode cX9_noTooth 4 = .ok (.getfield 111, 3) := by decide +kernel
theorem dX9_noTooth_7 : decode cX9_noTooth 7 = .ok (.iconst 1, 1) := by decide +kernel
theorem dX9_noTooth_8 : decode cX9_noTooth 8 = .ok (.isub, 1) := by decide +kernel
theorem dX9_noTooth_9 : decode cX9_noTooth 9 = .ok (.i2l, 1) := by decide +kernel
theorem dX9_noTooth_10 : decode cX9_noTooth 10 = .ok (.invokestatic 114, 3) := by decide +kernel
theorem dX9_noTooth_13 : decode cX9_noTooth 13 = .ok (.ifCond .ne 7, 3) := by decide +kernel
theorem dX9_noTooth_16 : decode cX9_noTooth 16 = .ok (.iconst 1, 1) := by decide +kernel
theorem dX9_noTooth_17 : decode cX9_noTooth 17 = .ok (.goto 4, 3) := by decide +kernel
theorem dX9_noTooth_20 : decode cX9_noTooth 20 = .ok (.iconst 0, 1) := by decide +kernel
theorem dX9_noTooth_21 : decode cX9_noTooth 21 = .ok (.ireturn, 1) := by decide +kernel
theorem dX9_noOne_0 : decode cX9_noOne 0 = .ok (.iload_n 0, 1) := by decide +kernel
theorem dX9_noOne_1 : decode cX9_noOne 1 = .ok (.i2l, 1) := by decide +kernel
theorem dX9_noOne_2 : decode cX9_noOne 2 = .ok (.lconst 0, 1) := by decide +kernel
theorem dX9_noOne_3 : decode cX9_noOne 3 = .ok (.ldc2_w 118, 3) := by decide +kernel
theorem dX9_noOne_6 : decode cX9_noOne 6 = .ok (.invokestatic 114, 3) := by decide +kernel
theorem dX9_noOne_9 : decode cX9_noOne 9 = .ok (.ifCond .ne 7, 3) := by decide +kernel
theorem dX9_noOne_12 : decode cX9_noOne 12 = .ok (.iconst 1, 1) := by decide +kernel
theorem dX9_noOne_13 : decode cX9_noOne 13 = .ok (.goto 4, 3) := by decide +kernel
theorem dX9_noOne_16 : decode cX9_noOne 16 = .ok (.iconst 0, 1) := by decide +kernel
theorem dX9_noOne_17 : decode cX9_noOne 17 = .ok (.ireturn, 1) := by decide +kernel
theorem dX9_write_0 : decode cX9_write 0 = .ok (.aload_n 0, 1) := by decide +kernel
theorem dX9_write_1 : decode cX9_write 1 = .ok (.iconst 0, 1) := by decide +kernel
theorem dX9_write_2 : decode cX9_write 2 = .ok (.putfield 108, 3) := by decide +kernel
theorem dX9_write_5 : decode cX9_write 5 = .ok (.iload_n 1, 1) := by decide +kernel
theorem dX9_write_6 : decode cX9_write 6 = .ok (.i2l, 1) := by decide +kernel
theorem dX9_write_7 : decode cX9_write 7 = .ok (.lconst 1, 1) := by decide +kernel
theorem dX9_write_8 : decode cX9_write 8 = .ok (.ldc2_w 120, 3) := by decide +kernel
theorem dX9_write_11 : decode cX9_write 11 = .ok (.invokestatic 114, 3) := by decide +kernel
theorem dX9_write_14 : decode cX9_write 14 = .ok (.ifCond .ne 6, 3) := by decide +kernel
theorem dX9_write_17 : decode cX9_write 17 = .ok (.bipush (-2), 2) := by decide +kernel
theorem dX9_write_19 : decode cX9_write 19 = .ok (.ireturn, 1) := by decide +kernel
theorem dX9_write_20 : decode cX9_write 20 = .ok (.aload_n 0, 1) := by decide +kernel
theorem dX9_write_21 : decode cX9_write 21 = .ok (.getfield 122, 3) := by decide +kernel
theorem dX9_write_24 : decode cX9_write 24 = .ok (.iload_n 1, 1) := by decide +kernel
theorem dX9_write_25 : decode cX9_write 25 = .ok (.iadd, 1) := by decide +kernel
theorem dX9_write_26 : decode cX9_write 26 = .ok (.bipush 72, 2) := by decide +kernel
theorem dX9_write_28 : decode cX9_write 28 = .ok (.if_icmp .le 6, 3) := by decide +kernel
theorem dX9_write_31 : decode cX9_write 31 = .ok (.bipush (-4), 2) := by decide +kernel
theorem dX9_write_33 : decode cX9_write 33 = .ok (.ireturn, 1) := by decide +kernel
theorem dX9_write_34 : decode cX9_write 34 = .ok (.iload_n 1, 1) := by decide +kernel
theorem dX9_write_35 : decode cX9_write 35 = .ok (.iconst 1, 1) := by decide +kernel
theorem dX9_write_36 : decode cX9_write 36 = .ok (.isub, 1) := by decide +kernel
theorem dX9_write_37 : decode cX9_write 37 = .ok (.istore 4, 2) := by decide +kernel
theorem dX9_write_39 : decode cX9_write 39 = .ok (.iload 4, 2) := by decide +kernel
theorem dX9_write_41 : decode cX9_write 41 = .ok (.ifCond .lt 40, 3) := by decide +kernel
theorem dX9_write_44 : decode cX9_write 44 = .ok (.aload_n 0, 1) := by decide +kernel
theorem dX9_write_45 : decode cX9_write 45 = .ok (.getfield 7, 3) := by decide +kernel
theorem dX9_write_48 : decode cX9_write 48 = .ok (.aload_n 0, 1) := by decide +kernel
theorem dX9_write_49 : decode cX9_write 49 = .ok (.getfield 122, 3) := by decide +kernel
theorem dX9_write_52 : decode cX9_write 52 = .ok (.lload_n 2, 1) := by decide +kernel
theorem dX9_write_53 : decode cX9_write 53 = .ok (.bipush 8, 2) := by decide +kernel
theorem dX9_write_55 : decode cX9_write 55 = .ok (.iload 4, 2) := by decide +kernel
theorem dX9_write_57 : decode cX9_write 57 = .ok (.imul, 1) := by decide +kernel
theorem dX9_write_58 : decode cX9_write 58 = .ok (.lshr, 1) := by decide +kernel
theorem dX9_write_59 : decode cX9_write 59 = .ok (.l2i, 1) := by decide +kernel
theorem dX9_write_60 : decode cX9_write 60 = .ok (.sipush 255, 3) := by decide +kernel
theorem dX9_write_63 : decode cX9_write 63 = .ok (.iand, 1) := by decide +kernel
theorem dX9_write_64 : decode cX9_write 64 = .ok (.iastore, 1) := by decide +kernel
theorem dX9_write_65 : decode cX9_write 65 = .ok (.aload_n 0, 1) := by decide +kernel
theorem dX9_write_66 : decode cX9_write 66 = .ok (.dup, 1) := by decide +kernel
theorem dX9_write_67 : decode cX9_write 67 = .ok (.getfield 122, 3) := by decide +kernel
theorem dX9_write_70 : decode cX9_write 70 = .ok (.iconst 1, 1) := by decide +kernel
theorem dX9_write_71 : decode cX9_write 71 = .ok (.iadd, 1) := by decide +kernel
theorem dX9_write_72 : decode cX9_write 72 = .ok (.putfield 122, 3) := by decide +kernel
theorem dX9_write_75 : decode cX9_write 75 = .ok (.iinc 4 (-1), 3) := by decide +kernel
theorem dX9_write_78 : decode cX9_write 78 = .ok (.goto (-39), 3) := by decide +kernel
theorem dX9_write_81 : decode cX9_write 81 = .ok (.aload_n 0, 1) := by decide +kernel
theorem dX9_write_82 : decode cX9_write 82 = .ok (.getfield 122, 3) := by decide +kernel
theorem dX9_write_85 : decode cX9_write 85 = .ok (.ireturn, 1) := by decide +kernel
theorem dX9_wipe_0 : decode cX9_wipe 0 = .ok (.aload_n 0, 1) := by decide +kernel
theorem dX9_wipe_1 : decode cX9_wipe 1 = .ok (.iconst 0, 1) := by decide +kernel
theorem dX9_wipe_2 : decode cX9_wipe 2 = .ok (.putfield 108, 3) := by decide +kernel
theorem dX9_wipe_5 : decode cX9_wipe 5 = .ok (.aload_n 0, 1) := by decide +kernel
theorem dX9_wipe_6 : decode cX9_wipe 6 = .ok (.getfield 122, 3) := by decide +kernel
theorem dX9_wipe_9 : decode cX9_wipe 9 = .ok (.istore_n 1, 1) := by decide +kernel
theorem dX9_wipe_10 : decode cX9_wipe 10 = .ok (.aload_n 0, 1) := by decide +kernel
theorem dX9_wipe_11 : decode cX9_wipe 11 = .ok (.iconst 0, 1) := by decide +kernel
theorem dX9_wipe_12 : decode cX9_wipe 12 = .ok (.putfield 122, 3) := by decide +kernel
theorem dX9_wipe_15 : decode cX9_wipe 15 = .ok (.iload_n 1, 1) := by decide +kernel
theorem dX9_wipe_16 : decode cX9_wipe 16 = .ok (.ireturn, 1) := by decide +kernel
theorem dX9_figure_0 : decode cX9_figure 0 = .ok (.aload_n 0, 1) := by decide +kernel
theorem dX9_figure_1 : decode cX9_figure 1 = .ok (.getfield 125, 3) := by decide +kernel
theorem dX9_figure_4 : decode cX9_figure 4 = .ok (.aload_n 0, 1) := by decide +kernel
theorem dX9_figure_5 : decode cX9_figure 5 = .ok (.getfield 122, 3) := by decide +kernel
theorem dX9_figure_8 : decode cX9_figure 8 = .ok (.if_icmp .eq 26, 3) := by decide +kernel
theorem dX9_figure_11 : decode cX9_figure 11 = .ok (.aload_n 0, 1) := by decide +kernel
theorem dX9_figure_12 : decode cX9_figure 12 = .ok (.getfield 7, 3) := by decide +kernel
theorem dX9_figure_15 : decode cX9_figure 15 = .ok (.aload_n 0, 1) := by decide +kernel
theorem dX9_figure_16 : decode cX9_figure 16 = .ok (.getfield 125, 3) := by decide +kernel
theorem dX9_figure_19 : decode cX9_figure 19 = .ok (.iaload, 1) := by decide +kernel
theorem dX9_figure_20 : decode cX9_figure 20 = .ok (.bipush 48, 2) := by decide +kernel
theorem dX9_figure_22 : decode cX9_figure 22 = .ok (.isub, 1) := by decide +kernel
theorem dX9_figure_23 : decode cX9_figure 23 = .ok (.i2l, 1) := by decide +kernel
theorem dX9_figure_24 : decode cX9_figure 24 = .ok (.iload_n 1, 1) := by decide +kernel
theorem dX9_figure_25 : decode cX9_figure 25 = .ok (.i2l, 1) := by decide +kernel
theorem dX9_figure_26 : decode cX9_figure 26 = .ok (.iload_n 2, 1) := by decide +kernel
theorem dX9_figure_27 : decode cX9_figure 27 = .ok (.i2l, 1) := by decide +kernel
theorem dX9_figure_28 : decode cX9_figure 28 = .ok (.invokestatic 114, 3) := by decide +kernel
theorem dX9_figure_31 : decode cX9_figure 31 = .ok (.ifCond .ne 6, 3) := by decide +kernel
theorem dX9_figure_34 : decode cX9_figure 34 = .ok (.bipush (-9), 2) := by decide +kernel
theorem dX9_figure_36 : decode cX9_figure 36 = .ok (.ireturn, 1) := by decide +kernel
theorem dX9_figure_37 : decode cX9_figure 37 = .ok (.aload_n 0, 1) := by decide +kernel
theorem dX9_figure_38 : decode cX9_figure 38 = .ok (.dup, 1) := by decide +kernel
theorem dX9_figure_39 : decode cX9_figure 39 = .ok (.getfield 125, 3) := by decide +kernel
theorem dX9_figure_42 : decode cX9_figure 42 = .ok (.iconst 1, 1) := by decide +kernel
theorem dX9_figure_43 : decode cX9_figure 43 = .ok (.iadd, 1) := by decide +kernel
theorem dX9_figure_44 : decode cX9_figure 44 = .ok (.putfield 125, 3) := by decide +kernel
theorem dX9_figure_47 : decode cX9_figure 47 = .ok (.aload_n 0, 1) := by decide +kernel
theorem dX9_figure_48 : decode cX9_figure 48 = .ok (.getfield 7, 3) := by decide +kernel
theorem dX9_figure_51 : decode cX9_figure 51 = .ok (.aload_n 0, 1) := by decide +kernel
theorem dX9_figure_52 : decode cX9_figure 52 = .ok (.getfield 125, 3) := by decide +kernel
theorem dX9_figure_55 : decode cX9_figure 55 = .ok (.iconst 1, 1) := by decide +kernel
theorem dX9_figure_56 : decode cX9_figure 56 = .ok (.isub, 1) := by decide +kernel
theorem dX9_figure_57 : decode cX9_figure 57 = .ok (.iaload, 1) := by decide +kernel
theorem dX9_figure_58 : decode cX9_figure 58 = .ok (.bipush 48, 2) := by decide +kernel
theorem dX9_figure_60 : decode cX9_figure 60 = .ok (.isub, 1) := by decide +kernel
theorem dX9_figure_61 : decode cX9_figure 61 = .ok (.ireturn, 1) := by decide +kernel
theorem dX9_side_0 : decode cX9_side 0 = .ok (.aload_n 0, 1) := by decide +kernel
theorem dX9_side_1 : decode cX9_side 1 = .ok (.getfield 125, 3) := by decide +kernel
theorem dX9_side_4 : decode cX9_side 4 = .ok (.aload_n 0, 1) := by decide +kernel
theorem dX9_side_5 : decode cX9_side 5 = .ok (.getfield 122, 3) := by decide +kernel
theorem dX9_side_8 : decode cX9_side 8 = .ok (.if_icmp .eq 31, 3) := by decide +kernel
theorem dX9_side_11 : decode cX9_side 11 = .ok (.aload_n 0, 1) := by decide +kernel
theorem dX9_side_12 : decode cX9_side 12 = .ok (.getfield 7, 3) := by decide +kernel
theorem dX9_side_15 : decode cX9_side 15 = .ok (.aload_n 0, 1) := by decide +kernel
theorem dX9_side_16 : decode cX9_side 16 = .ok (.getfield 125, 3) := by decide +kernel
theorem dX9_side_19 : decode cX9_side 19 = .ok (.iaload, 1) := by decide +kernel
theorem dX9_side_20 : decode cX9_side 20 = .ok (.bipush 76, 2) := by decide +kernel
theorem dX9_side_22 : decode cX9_side 22 = .ok (.if_icmp .eq 20, 3) := by decide +kernel
theorem dX9_side_25 : decode cX9_side 25 = .ok (.aload_n 0, 1) := by decide +kernel
theorem dX9_side_26 : decode cX9_side 26 = .ok (.getfield 7, 3) := by decide +kernel
theorem dX9_side_29 : decode cX9_side 29 = .ok (.aload_n 0, 1) := by decide +kernel
theorem dX9_side_30 : decode cX9_side 30 = .ok (.getfield 125, 3) := by decide +kernel
theorem dX9_side_33 : decode cX9_side 33 = .ok (.iaload, 1) := by decide +kernel
theorem dX9_side_34 : decode cX9_side 34 = .ok (.bipush 82, 2) := by decide +kernel
theorem dX9_side_36 : decode cX9_side 36 = .ok (.if_icmp .eq 6, 3) := by decide +kernel
theorem dX9_side_39 : decode cX9_side 39 = .ok (.bipush (-9), 2) := by decide +kernel
theorem dX9_side_41 : decode cX9_side 41 = .ok (.ireturn, 1) := by decide +kernel
theorem dX9_side_42 : decode cX9_side 42 = .ok (.aload_n 0, 1) := by decide +kernel
theorem dX9_side_43 : decode cX9_side 43 = .ok (.dup, 1) := by decide +kernel
theorem dX9_side_44 : decode cX9_side 44 = .ok (.getfield 125, 3) := by decide +kernel
theorem dX9_side_47 : decode cX9_side 47 = .ok (.iconst 1, 1) := by decide +kernel
theorem dX9_side_48 : decode cX9_side 48 = .ok (.iadd, 1) := by decide +kernel
theorem dX9_side_49 : decode cX9_side 49 = .ok (.putfield 125, 3) := by decide +kernel
theorem dX9_side_52 : decode cX9_side 52 = .ok (.aload_n 0, 1) := by decide +kernel
theorem dX9_side_53 : decode cX9_side 53 = .ok (.getfield 7, 3) := by decide +kernel
theorem dX9_side_56 : decode cX9_side 56 = .ok (.aload_n 0, 1) := by decide +kernel
theorem dX9_side_57 : decode cX9_side 57 = .ok (.getfield 125, 3) := by decide +kernel
theorem dX9_side_60 : decode cX9_side 60 = .ok (.iconst 1, 1) := by decide +kernel
theorem dX9_side_61 : decode cX9_side 61 = .ok (.isub, 1) := by decide +kernel
theorem dX9_side_62 : decode cX9_side 62 = .ok (.iaload, 1) := by decide +kernel
theorem dX9_side_63 : decode cX9_side 63 = .ok (.bipush 76, 2) := by decide +kernel
theorem dX9_side_65 : decode cX9_side 65 = .ok (.if_icmp .ne 7, 3) := by decide +kernel
theorem dX9_side_68 : decode cX9_side 68 = .ok (.iconst 1, 1) := by decide +kernel
theorem dX9_side_69 : decode cX9_side 69 = .ok (.goto 4, 3) := by decide +kernel
theorem dX9_side_72 : decode cX9_side 72 = .ok (.iconst 0, 1) := by decide +kernel
theorem dX9_side_73 : decode cX9_side 73 = .ok (.ireturn, 1) := by decide +kernel
theorem dX9_readTooth_0 : decode cX9_readTooth 0 = .ok (.aload_n 0, 1) := by decide +kernel
theorem dX9_readTooth_1 : decode cX9_readTooth 1 = .ok (.iconst 1, 1) := by decide +kernel
theorem dX9_readTooth_2 : decode cX9_readTooth 2 = .ok (.bipush 9, 2) := by decide +kernel
theorem dX9_readTooth_4 : decode cX9_readTooth 4 = .ok (.invokevirtual 128, 3) := by decide +kernel
theorem dX9_readTooth_7 : decode cX9_readTooth 7 = .ok (.istore_n 2, 1) := by decide +kernel
theorem dX9_readTooth_8 : decode cX9_readTooth 8 = .ok (.iload_n 2, 1) := by decide +kernel
theorem dX9_readTooth_9 : decode cX9_readTooth 9 = .ok (.bipush (-9), 2) := by decide +kernel
theorem dX9_readTooth_11 : decode cX9_readTooth 11 = .ok (.if_icmp .ne 8, 3) := by decide +kernel
theorem dX9_readTooth_14 : decode cX9_readTooth 14 = .ok (.bipush (-9), 2) := by decide +kernel
theorem dX9_readTooth_16 : decode cX9_readTooth 16 = .ok (.goto 7, 3) := by decide +kernel
theorem dX9_readTooth_19 : decode cX9_readTooth 19 = .ok (.aload_n 0, 1) := by decide +kernel
theorem dX9_readTooth_20 : decode cX9_readTooth 20 = .ok (.invokevirtual 132, 3) := by decide +kernel
theorem dX9_readTooth_23 : decode cX9_readTooth 23 = .ok (.istore_n 3, 1) := by decide +kernel
theorem dX9_readTooth_24 : decode cX9_readTooth 24 = .ok (.iload_n 3, 1) := by decide +kernel
theorem dX9_readTooth_25 : decode cX9_readTooth 25 = .ok (.bipush (-9), 2) := by decide +kernel
theorem dX9_readTooth_27 : decode cX9_readTooth 27 = .ok (.if_icmp .ne 8, 3) := by decide +kernel
theorem dX9_readTooth_30 : decode cX9_readTooth 30 = .ok (.bipush (-9), 2) := by decide +kernel
theorem dX9_readTooth_32 : decode cX9_readTooth 32 = .ok (.goto 10, 3) := by decide +kernel
theorem dX9_readTooth_35 : decode cX9_readTooth 35 = .ok (.aload_n 0, 1) := by decide +kernel
theorem dX9_readTooth_36 : decode cX9_readTooth 36 = .ok (.iconst 0, 1) := by decide +kernel
theorem dX9_readTooth_37 : decode cX9_readTooth 37 = .ok (.bipush 9, 2) := by decide +kernel
theorem dX9_readTooth_39 : decode cX9_readTooth 39 = .ok (.invokevirtual 128, 3) := by decide +kernel
theorem dX9_readTooth_42 : decode cX9_readTooth 42 = .ok (.istore 4, 2) := by decide +kernel
theorem dX9_readTooth_44 : decode cX9_readTooth 44 = .ok (.iload 4, 2) := by decide +kernel
theorem dX9_readTooth_46 : decode cX9_readTooth 46 = .ok (.bipush (-9), 2) := by decide +kernel
theorem dX9_readTooth_48 : decode cX9_readTooth 48 = .ok (.if_icmp .ne 8, 3) := by decide +kernel
theorem dX9_readTooth_51 : decode cX9_readTooth 51 = .ok (.bipush (-9), 2) := by decide +kernel
theorem dX9_readTooth_53 : decode cX9_readTooth 53 = .ok (.goto 9, 3) := by decide +kernel
theorem dX9_readTooth_56 : decode cX9_readTooth 56 = .ok (.aload_n 0, 1) := by decide +kernel
theorem dX9_readTooth_57 : decode cX9_readTooth 57 = .ok (.iconst 0, 1) := by decide +kernel
theorem dX9_readTooth_58 : decode cX9_readTooth 58 = .ok (.iconst 3, 1) := by decide +kernel
theorem dX9_readTooth_59 : decode cX9_readTooth 59 = .ok (.invokevirtual 128, 3) := by decide +kernel
theorem dX9_readTooth_62 : decode cX9_readTooth 62 = .ok (.istore 5, 2) := by decide +kernel
theorem dX9_readTooth_64 : decode cX9_readTooth 64 = .ok (.iload 5, 2) := by decide +kernel
theorem dX9_readTooth_66 : decode cX9_readTooth 66 = .ok (.bipush (-9), 2) := by decide +kernel
theorem dX9_readTooth_68 : decode cX9_readTooth 68 = .ok (.if_icmp .ne 5, 3) := by decide +kernel
theorem dX9_readTooth_71 : decode cX9_readTooth 71 = .ok (.iconst 0, 1) := by decide +kernel
theorem dX9_readTooth_72 : decode cX9_readTooth 72 = .ok (.ireturn, 1) := by decide +kernel
theorem dX9_readTooth_73 : decode cX9_readTooth 73 = .ok (.aload_n 0, 1) := by decide +kernel
theorem dX9_readTooth_74 : decode cX9_readTooth 74 = .ok (.getfield 51, 3) := by decide +kernel
theorem dX9_readTooth_77 : decode cX9_readTooth 77 = .ok (.aload_n 0, 1) := by decide +kernel
theorem dX9_readTooth_78 : decode cX9_readTooth 78 = .ok (.getfield 136, 3) := by decide +kernel
theorem dX9_readTooth_81 : decode cX9_readTooth 81 = .ok (.iload_n 2, 1) := by decide +kernel
theorem dX9_readTooth_82 : decode cX9_readTooth 82 = .ok (.iastore, 1) := by decide +kernel
theorem dX9_readTooth_83 : decode cX9_readTooth 83 = .ok (.aload_n 0, 1) := by decide +kernel
theorem dX9_readTooth_84 : decode cX9_readTooth 84 = .ok (.getfield 54, 3) := by decide +kernel
theorem dX9_readTooth_87 : decode cX9_readTooth 87 = .ok (.aload_n 0, 1) := by decide +kernel
theorem dX9_readTooth_88 : decode cX9_readTooth 88 = .ok (.getfield 136, 3) := by decide +kernel
theorem dX9_readTooth_91 : decode cX9_readTooth 91 = .ok (.iload_n 3, 1) := by decide +kernel
theorem dX9_readTooth_92 : decode cX9_readTooth 92 = .ok (.iconst 1, 1) := by decide +kernel
theorem dX9_readTooth_93 : decode cX9_readTooth 93 = .ok (.if_icmp .ne 7, 3) := by decide +kernel
theorem dX9_readTooth_96 : decode cX9_readTooth 96 = .ok (.iconst 1, 1) := by decide +kernel
theorem dX9_readTooth_97 : decode cX9_readTooth 97 = .ok (.goto 4, 3) := by decide +kernel
theorem dX9_readTooth_100 : decode cX9_readTooth 100 = .ok (.iconst 0, 1) := by decide +kernel
theorem dX9_readTooth_101 : decode cX9_readTooth 101 = .ok (.bastore, 1) := by decide +kernel
theorem dX9_readTooth_102 : decode cX9_readTooth 102 = .ok (.aload_n 0, 1) := by decide +kernel
theorem dX9_readTooth_103 : decode cX9_readTooth 103 = .ok (.getfield 57, 3) := by decide +kernel
theorem dX9_readTooth_106 : decode cX9_readTooth 106 = .ok (.aload_n 0, 1) := by decide +kernel
theorem dX9_readTooth_107 : decode cX9_readTooth 107 = .ok (.getfield 136, 3) := by decide +kernel
theorem dX9_readTooth_110 : decode cX9_readTooth 110 = .ok (.iload 4, 2) := by decide +kernel
theorem dX9_readTooth_112 : decode cX9_readTooth 112 = .ok (.iastore, 1) := by decide +kernel
theorem dX9_readTooth_113 : decode cX9_readTooth 113 = .ok (.aload_n 0, 1) := by decide +kernel
theorem dX9_readTooth_114 : decode cX9_readTooth 114 = .ok (.getfield 60, 3) := by decide +kernel
theorem dX9_readTooth_117 : decode cX9_readTooth 117 = .ok (.aload_n 0, 1) := by decide +kernel
theorem dX9_readTooth_118 : decode cX9_readTooth 118 = .ok (.getfield 136, 3) := by decide +kernel
theorem dX9_readTooth_121 : decode cX9_readTooth 121 = .ok (.iload 5, 2) := by decide +kernel
theorem dX9_readTooth_123 : decode cX9_readTooth 123 = .ok (.iastore, 1) := by decide +kernel
theorem dX9_readTooth_124 : decode cX9_readTooth 124 = .ok (.aload_n 0, 1) := by decide +kernel
theorem dX9_readTooth_125 : decode cX9_readTooth 125 = .ok (.getfield 63, 3) := by decide +kernel
theorem dX9_readTooth_128 : decode cX9_readTooth 128 = .ok (.aload_n 0, 1) := by decide +kernel
theorem dX9_readTooth_129 : decode cX9_readTooth 129 = .ok (.getfield 136, 3) := by decide +kernel
theorem dX9_readTooth_132 : decode cX9_readTooth 132 = .ok (.iload_n 1, 1) := by decide +kernel
theorem dX9_readTooth_133 : decode cX9_readTooth 133 = .ok (.bastore, 1) := by decide +kernel
theorem dX9_readTooth_134 : decode cX9_readTooth 134 = .ok (.aload_n 0, 1) := by decide +kernel
theorem dX9_readTooth_135 : decode cX9_readTooth 135 = .ok (.dup, 1) := by decide +kernel
theorem dX9_readTooth_136 : decode cX9_readTooth 136 = .ok (.getfield 136, 3) := by decide +kernel
theorem dX9_readTooth_139 : decode cX9_readTooth 139 = .ok (.iconst 1, 1) := by decide +kernel
theorem dX9_readTooth_140 : decode cX9_readTooth 140 = .ok (.iadd, 1) := by decide +kernel
theorem dX9_readTooth_141 : decode cX9_readTooth 141 = .ok (.putfield 136, 3) := by decide +kernel
theorem dX9_readTooth_144 : decode cX9_readTooth 144 = .ok (.iconst 1, 1) := by decide +kernel
theorem dX9_readTooth_145 : decode cX9_readTooth 145 = .ok (.ireturn, 1) := by decide +kernel
theorem dX9_readGood_0 : decode cX9_readGood 0 = .ok (.aload_n 0, 1) := by decide +kernel
theorem dX9_readGood_1 : decode cX9_readGood 1 = .ok (.iconst 0, 1) := by decide +kernel
theorem dX9_readGood_2 : decode cX9_readGood 2 = .ok (.bipush 9, 2) := by decide +kernel
theorem dX9_readGood_4 : decode cX9_readGood 4 = .ok (.invokevirtual 128, 3) := by decide +kernel
theorem dX9_readGood_7 : decode cX9_readGood 7 = .ok (.istore_n 1, 1) := by decide +kernel
theorem dX9_readGood_8 : decode cX9_readGood 8 = .ok (.iload_n 1, 1) := by decide +kernel
theorem dX9_readGood_9 : decode cX9_readGood 9 = .ok (.bipush (-9), 2) := by decide +kernel
theorem dX9_readGood_11 : decode cX9_readGood 11 = .ok (.if_icmp .ne 8, 3) := by decide +kernel
theorem dX9_readGood_14 : decode cX9_readGood 14 = .ok (.bipush (-9), 2) := by decide +kernel
theorem dX9_readGood_16 : decode cX9_readGood 16 = .ok (.goto 18, 3) := by decide +kernel
theorem dX9_readGood_19 : decode cX9_readGood 19 = .ok (.aload_n 0, 1) := by decide +kernel
theorem dX9_readGood_20 : decode cX9_readGood 20 = .ok (.iload_n 1, 1) := by decide +kernel
theorem dX9_readGood_21 : decode cX9_readGood 21 = .ok (.ifCond .ne 7, 3) := by decide +kernel
theorem dX9_readGood_24 : decode cX9_readGood 24 = .ok (.iconst 1, 1) := by decide +kernel
theorem dX9_readGood_25 : decode cX9_readGood 25 = .ok (.goto 4, 3) := by decide +kernel
theorem dX9_readGood_28 : decode cX9_readGood 28 = .ok (.iconst 0, 1) := by decide +kernel
theorem dX9_readGood_29 : decode cX9_readGood 29 = .ok (.bipush 9, 2) := by decide +kernel
theorem dX9_readGood_31 : decode cX9_readGood 31 = .ok (.invokevirtual 128, 3) := by decide +kernel
theorem dX9_readGood_34 : decode cX9_readGood 34 = .ok (.istore_n 2, 1) := by decide +kernel
theorem dX9_readGood_35 : decode cX9_readGood 35 = .ok (.iload_n 2, 1) := by decide +kernel
theorem dX9_readGood_36 : decode cX9_readGood 36 = .ok (.bipush (-9), 2) := by decide +kernel
theorem dX9_readGood_38 : decode cX9_readGood 38 = .ok (.if_icmp .ne 8, 3) := by decide +kernel
theorem dX9_readGood_41 : decode cX9_readGood 41 = .ok (.bipush (-9), 2) := by decide +kernel
theorem dX9_readGood_43 : decode cX9_readGood 43 = .ok (.goto 10, 3) := by decide +kernel
theorem dX9_readGood_46 : decode cX9_readGood 46 = .ok (.aload_n 0, 1) := by decide +kernel
theorem dX9_readGood_47 : decode cX9_readGood 47 = .ok (.iconst 0, 1) := by decide +kernel
theorem dX9_readGood_48 : decode cX9_readGood 48 = .ok (.bipush 9, 2) := by decide +kernel
theorem dX9_readGood_50 : decode cX9_readGood 50 = .ok (.invokevirtual 128, 3) := by decide +kernel
theorem dX9_readGood_53 : decode cX9_readGood 53 = .ok (.istore_n 3, 1) := by decide +kernel
theorem dX9_readGood_54 : decode cX9_readGood 54 = .ok (.iload_n 3, 1) := by decide +kernel
theorem dX9_readGood_55 : decode cX9_readGood 55 = .ok (.bipush (-9), 2) := by decide +kernel
theorem dX9_readGood_57 : decode cX9_readGood 57 = .ok (.if_icmp .ne 5, 3) := by decide +kernel
theorem dX9_readGood_60 : decode cX9_readGood 60 = .ok (.iconst 0, 1) := by decide +kernel
theorem dX9_readGood_61 : decode cX9_readGood 61 = .ok (.ireturn, 1) := by decide +kernel
theorem dX9_readGood_62 : decode cX9_readGood 62 = .ok (.aload_n 0, 1) := by decide +kernel
theorem dX9_readGood_63 : decode cX9_readGood 63 = .ok (.getfield 66, 3) := by decide +kernel
theorem dX9_readGood_66 : decode cX9_readGood 66 = .ok (.aload_n 0, 1) := by decide +kernel
theorem dX9_readGood_67 : decode cX9_readGood 67 = .ok (.getfield 139, 3) := by decide +kernel
theorem dX9_readGood_70 : decode cX9_readGood 70 = .ok (.bipush 10, 2) := by decide +kernel
theorem dX9_readGood_72 : decode cX9_readGood 72 = .ok (.iload_n 1, 1) := by decide +kernel
theorem dX9_readGood_73 : decode cX9_readGood 73 = .ok (.imul, 1) := by decide +kernel
theorem dX9_readGood_74 : decode cX9_readGood 74 = .ok (.iload_n 2, 1) := by decide +kernel
theorem dX9_readGood_75 : decode cX9_readGood 75 = .ok (.iadd, 1) := by decide +kernel
theorem dX9_readGood_76 : decode cX9_readGood 76 = .ok (.iastore, 1) := by decide +kernel
theorem dX9_readGood_77 : decode cX9_readGood 77 = .ok (.aload_n 0, 1) := by decide +kernel
theorem dX9_readGood_78 : decode cX9_readGood 78 = .ok (.getfield 69, 3) := by decide +kernel
theorem dX9_readGood_81 : decode cX9_readGood 81 = .ok (.aload_n 0, 1) := by decide +kernel
theorem dX9_readGood_82 : decode cX9_readGood 82 = .ok (.getfield 139, 3) := by decide +kernel
theorem dX9_readGood_85 : decode cX9_readGood 85 = .ok (.iload_n 3, 1) := by decide +kernel
theorem dX9_readGood_86 : decode cX9_readGood 86 = .ok (.iastore, 1) := by decide +kernel
theorem dX9_readGood_87 : decode cX9_readGood 87 = .ok (.aload_n 0, 1) := by decide +kernel
theorem dX9_readGood_88 : decode cX9_readGood 88 = .ok (.dup, 1) := by decide +kernel
theorem dX9_readGood_89 : decode cX9_readGood 89 = .ok (.getfield 139, 3) := by decide +kernel
theorem dX9_readGood_92 : decode cX9_readGood 92 = .ok (.iconst 1, 1) := by decide +kernel
theorem dX9_readGood_93 : decode cX9_readGood 93 = .ok (.iadd, 1) := by decide +kernel
theorem dX9_readGood_94 : decode cX9_readGood 94 = .ok (.putfield 139, 3) := by decide +kernel
theorem dX9_readGood_97 : decode cX9_readGood 97 = .ok (.iconst 1, 1) := by decide +kernel
theorem dX9_readGood_98 : decode cX9_readGood 98 = .ok (.ireturn, 1) := by decide +kernel
theorem dX9_readPart_0 : decode cX9_readPart 0 = .ok (.aload_n 0, 1) := by decide +kernel
theorem dX9_readPart_1 : decode cX9_readPart 1 = .ok (.getfield 7, 3) := by decide +kernel
theorem dX9_readPart_4 : decode cX9_readPart 4 = .ok (.aload_n 0, 1) := by decide +kernel
theorem dX9_readPart_5 : decode cX9_readPart 5 = .ok (.getfield 125, 3) := by decide +kernel
theorem dX9_readPart_8 : decode cX9_readPart 8 = .ok (.iaload, 1) := by decide +kernel
theorem dX9_readPart_9 : decode cX9_readPart 9 = .ok (.istore_n 1, 1) := by decide +kernel
theorem dX9_readPart_10 : decode cX9_readPart 10 = .ok (.iload_n 1, 1) := by decide +kernel
theorem dX9_readPart_11 : decode cX9_readPart 11 = .ok (.bipush 84, 2) := by decide +kernel
theorem dX9_readPart_13 : decode cX9_readPart 13 = .ok (.if_icmp .eq 9, 3) := by decide +kernel
theorem dX9_readPart_16 : decode cX9_readPart 16 = .ok (.iload_n 1, 1) := by decide +kernel
theorem dX9_readPart_17 : decode cX9_readPart 17 = .ok (.bipush 66, 2) := by decide +kernel
theorem dX9_readPart_19 : decode cX9_readPart 19 = .ok (.if_icmp .ne 16, 3) := by decide +kernel
theorem dX9_readPart_22 : decode cX9_readPart 22 = .ok (.aload_n 0, 1) := by decide +kernel
theorem dX9_readPart_23 : decode cX9_readPart 23 = .ok (.getfield 136, 3) := by decide +kernel
theorem dX9_readPart_26 : decode cX9_readPart 26 = .ok (.bipush 10, 2) := by decide +kernel
theorem dX9_readPart_28 : decode cX9_readPart 28 = .ok (.if_icmp .ge 7, 3) := by decide +kernel
theorem dX9_readPart_31 : decode cX9_readPart 31 = .ok (.iconst 1, 1) := by decide +kernel
theorem dX9_readPart_32 : decode cX9_readPart 32 = .ok (.goto 4, 3) := by decide +kernel
theorem dX9_readPart_35 : decode cX9_readPart 35 = .ok (.iconst 0, 1) := by decide +kernel
theorem dX9_readPart_36 : decode cX9_readPart 36 = .ok (.istore_n 2, 1) := by decide +kernel
theorem dX9_readPart_37 : decode cX9_readPart 37 = .ok (.iload_n 1, 1) := by decide +kernel
theorem dX9_readPart_38 : decode cX9_readPart 38 = .ok (.bipush 71, 2) := by decide +kernel
theorem dX9_readPart_40 : decode cX9_readPart 40 = .ok (.if_icmp .ne 15, 3) := by decide +kernel
theorem dX9_readPart_43 : decode cX9_readPart 43 = .ok (.aload_n 0, 1) := by decide +kernel
theorem dX9_readPart_44 : decode cX9_readPart 44 = .ok (.getfield 139, 3) := by decide +kernel
theorem dX9_readPart_47 : decode cX9_readPart 47 = .ok (.iconst 4, 1) := by decide +kernel
theorem dX9_readPart_48 : decode cX9_readPart 48 = .ok (.if_icmp .ge 7, 3) := by decide +kernel
theorem dX9_readPart_51 : decode cX9_readPart 51 = .ok (.iconst 1, 1) := by decide +kernel
theorem dX9_readPart_52 : decode cX9_readPart 52 = .ok (.goto 4, 3) := by decide +kernel
theorem dX9_readPart_55 : decode cX9_readPart 55 = .ok (.iconst 0, 1) := by decide +kernel
theorem dX9_readPart_56 : decode cX9_readPart 56 = .ok (.istore_n 3, 1) := by decide +kernel
theorem dX9_readPart_57 : decode cX9_readPart 57 = .ok (.iload_n 2, 1) := by decide +kernel
theorem dX9_readPart_58 : decode cX9_readPart 58 = .ok (.ifCond .ne 9, 3) := by decide +kernel
theorem dX9_readPart_61 : decode cX9_readPart 61 = .ok (.iload_n 3, 1) := by decide +kernel
theorem dX9_readPart_62 : decode cX9_readPart 62 = .ok (.ifCond .ne 5, 3) := by decide +kernel
theorem dX9_readPart_65 : decode cX9_readPart 65 = .ok (.iconst 0, 1) := by decide +kernel
theorem dX9_readPart_66 : decode cX9_readPart 66 = .ok (.ireturn, 1) := by decide +kernel
theorem dX9_readPart_67 : decode cX9_readPart 67 = .ok (.aload_n 0, 1) := by decide +kernel
theorem dX9_readPart_68 : decode cX9_readPart 68 = .ok (.dup, 1) := by decide +kernel
theorem dX9_readPart_69 : decode cX9_readPart 69 = .ok (.getfield 125, 3) := by decide +kernel
theorem dX9_readPart_72 : decode cX9_readPart 72 = .ok (.iconst 1, 1) := by decide +kernel
theorem dX9_readPart_73 : decode cX9_readPart 73 = .ok (.iadd, 1) := by decide +kernel
theorem dX9_readPart_74 : decode cX9_readPart 74 = .ok (.putfield 125, 3) := by decide +kernel
theorem dX9_readPart_77 : decode cX9_readPart 77 = .ok (.iload_n 2, 1) := by decide +kernel
theorem dX9_readPart_78 : decode cX9_readPart 78 = .ok (.ifCond .eq 21, 3) := by decide +kernel
theorem dX9_readPart_81 : decode cX9_readPart 81 = .ok (.aload_n 0, 1) := by decide +kernel
theorem dX9_readPart_82 : decode cX9_readPart 82 = .ok (.iload_n 1, 1) := by decide +kernel
theorem dX9_readPart_83 : decode cX9_readPart 83 = .ok (.bipush 66, 2) := by decide +kernel
theorem dX9_readPart_85 : decode cX9_readPart 85 = .ok (.if_icmp .ne 7, 3) := by decide +kernel
theorem dX9_readPart_88 : decode cX9_readPart 88 = .ok (.iconst 1, 1) := by decide +kernel
theorem dX9_readPart_89 : decode cX9_readPart 89 = .ok (.goto 4, 3) := by decide +kernel
theorem dX9_readPart_92 : decode cX9_readPart 92 = .ok (.iconst 0, 1) := by decide +kernel
theorem dX9_readPart_93 : decode cX9_readPart 93 = .ok (.invokevirtual 142, 3) := by decide +kernel
theorem dX9_readPart_96 : decode cX9_readPart 96 = .ok (.goto 7, 3) := by decide +kernel
theorem dX9_readPart_99 : decode cX9_readPart 99 = .ok (.aload_n 0, 1) := by decide +kernel
theorem dX9_readPart_100 : decode cX9_readPart 100 = .ok (.invokevirtual 146, 3) := by decide +kernel
theorem dX9_readPart_103 : decode cX9_readPart 103 = .ok (.ireturn, 1) := by decide +kernel
theorem dX9_readMarket_0 : decode cX9_readMarket 0 = .ok (.aload_n 0, 1) := by decide +kernel
theorem dX9_readMarket_1 : decode cX9_readMarket 1 = .ok (.iconst 0, 1) := by decide +kernel
theorem dX9_readMarket_2 : decode cX9_readMarket 2 = .ok (.putfield 125, 3) := by decide +kernel
theorem dX9_readMarket_5 : decode cX9_readMarket 5 = .ok (.aload_n 0, 1) := by decide +kernel
theorem dX9_readMarket_6 : decode cX9_readMarket 6 = .ok (.iconst 0, 1) := by decide +kernel
theorem dX9_readMarket_7 : decode cX9_readMarket 7 = .ok (.putfield 136, 3) := by decide +kernel
theorem dX9_readMarket_10 : decode cX9_readMarket 10 = .ok (.aload_n 0, 1) := by decide +kernel
theorem dX9_readMarket_11 : decode cX9_readMarket 11 = .ok (.iconst 0, 1) := by decide +kernel
theorem dX9_readMarket_12 : decode cX9_readMarket 12 = .ok (.putfield 139, 3) := by decide +kernel
theorem dX9_readMarket_15 : decode cX9_readMarket 15 = .ok (.aload_n 0, 1) := by decide +kernel
theorem dX9_readMarket_16 : decode cX9_readMarket 16 = .ok (.getfield 122, 3) := by decide +kernel
theorem dX9_readMarket_19 : decode cX9_readMarket 19 = .ok (.ifCond .eq 14, 3) := by decide +kernel
theorem dX9_readMarket_22 : decode cX9_readMarket 22 = .ok (.aload_n 0, 1) := by decide +kernel
theorem dX9_readMarket_23 : decode cX9_readMarket 23 = .ok (.getfield 7, 3) := by decide +kernel
theorem dX9_readMarket_26 : decode cX9_readMarket 26 = .ok (.iconst 0, 1) := by decide +kernel
theorem dX9_readMarket_27 : decode cX9_readMarket 27 = .ok (.iaload, 1) := by decide +kernel
theorem dX9_readMarket_28 : decode cX9_readMarket 28 = .ok (.bipush 76, 2) := by decide +kernel
theorem dX9_readMarket_30 : decode cX9_readMarket 30 = .ok (.if_icmp .eq 5, 3) := by decide +kernel
theorem dX9_readMarket_33 : decode cX9_readMarket 33 = .ok (.iconst 0, 1) := by decide +kernel
theorem dX9_readMarket_34 : decode cX9_readMarket 34 = .ok (.ireturn, 1) := by decide +kernel
theorem dX9_readMarket_35 : decode cX9_readMarket 35 = .ok (.aload_n 0, 1) := by decide +kernel
theorem dX9_readMarket_36 : decode cX9_readMarket 36 = .ok (.iconst 1, 1) := by decide +kernel
theorem dX9_readMarket_37 : decode cX9_readMarket 37 = .ok (.putfield 125, 3) := by decide +kernel
theorem dX9_readMarket_40 : decode cX9_readMarket 40 = .ok (.aload_n 0, 1) := by decide +kernel
theorem dX9_readMarket_41 : decode cX9_readMarket 41 = .ok (.aload_n 0, 1) := by decide +kernel
theorem dX9_readMarket_42 : decode cX9_readMarket 42 = .ok (.iconst 0, 1) := by decide +kernel
theorem dX9_readMarket_43 : decode cX9_readMarket 43 = .ok (.bipush 9, 2) := by decide +kernel
theorem dX9_readMarket_45 : decode cX9_readMarket 45 = .ok (.invokevirtual 128, 3) := by decide +kernel
theorem dX9_readMarket_48 : decode cX9_readMarket 48 = .ok (.putfield 150, 3) := by decide +kernel
theorem dX9_readMarket_51 : decode cX9_readMarket 51 = .ok (.aload_n 0, 1) := by decide +kernel
theorem dX9_readMarket_52 : decode cX9_readMarket 52 = .ok (.aload_n 0, 1) := by decide +kernel
theorem dX9_readMarket_53 : decode cX9_readMarket 53 = .ok (.getfield 150, 3) := by decide +kernel
theorem dX9_readMarket_56 : decode cX9_readMarket 56 = .ok (.bipush (-9), 2) := by decide +kernel
theorem dX9_readMarket_58 : decode cX9_readMarket 58 = .ok (.if_icmp .ne 8, 3) := by decide +kernel
theorem dX9_readMarket_61 : decode cX9_readMarket 61 = .ok (.bipush (-9), 2) := by decide +kernel
theorem dX9_readMarket_63 : decode cX9_readMarket 63 = .ok (.goto 10, 3) := by decide +kernel
theorem dX9_readMarket_66 : decode cX9_readMarket 66 = .ok (.aload_n 0, 1) := by decide +kernel
theorem dX9_readMarket_67 : decode cX9_readMarket 67 = .ok (.iconst 1, 1) := by decide +kernel
theorem dX9_readMarket_68 : decode cX9_readMarket 68 = .ok (.bipush 9, 2) := by decide +kernel
theorem dX9_readMarket_70 : decode cX9_readMarket 70 = .ok (.invokevirtual 128, 3) := by decide +kernel
theorem dX9_readMarket_73 : decode cX9_readMarket 73 = .ok (.putfield 153, 3) := by decide +kernel
theorem dX9_readMarket_76 : decode cX9_readMarket 76 = .ok (.aload_n 0, 1) := by decide +kernel
theorem dX9_readMarket_77 : decode cX9_readMarket 77 = .ok (.getfield 153, 3) := by decide +kernel
theorem dX9_readMarket_80 : decode cX9_readMarket 80 = .ok (.bipush (-9), 2) := by decide +kernel
theorem dX9_readMarket_82 : decode cX9_readMarket 82 = .ok (.if_icmp .ne 8, 3) := by decide +kernel
theorem dX9_readMarket_85 : decode cX9_readMarket 85 = .ok (.aload_n 0, 1) := by decide +kernel
theorem dX9_readMarket_86 : decode cX9_readMarket 86 = .ok (.getfield 125, 3) := by decide +kernel
theorem dX9_readMarket_89 : decode cX9_readMarket 89 = .ok (.ireturn, 1) := by decide +kernel
theorem dX9_readMarket_90 : decode cX9_readMarket 90 = .ok (.aload_n 0, 1) := by decide +kernel
theorem dX9_readMarket_91 : decode cX9_readMarket 91 = .ok (.getfield 125, 3) := by decide +kernel
theorem dX9_readMarket_94 : decode cX9_readMarket 94 = .ok (.aload_n 0, 1) := by decide +kernel
theorem dX9_readMarket_95 : decode cX9_readMarket 95 = .ok (.getfield 122, 3) := by decide +kernel
theorem dX9_readMarket_98 : decode cX9_readMarket 98 = .ok (.if_icmp .ge 15, 3) := by decide +kernel
theorem dX9_readMarket_101 : decode cX9_readMarket 101 = .ok (.aload_n 0, 1) := by decide +kernel
theorem dX9_readMarket_102 : decode cX9_readMarket 102 = .ok (.invokevirtual 156, 3) := by decide +kernel
theorem dX9_readMarket_105 : decode cX9_readMarket 105 = .ok (.ifCond .ne (-15), 3) := by decide +kernel
theorem dX9_readMarket_108 : decode cX9_readMarket 108 = .ok (.aload_n 0, 1) := by decide +kernel
theorem dX9_readMarket_109 : decode cX9_readMarket 109 = .ok (.getfield 125, 3) := by decide +kernel
theorem dX9_readMarket_112 : decode cX9_readMarket 112 = .ok (.ireturn, 1) := by decide +kernel
theorem dX9_readMarket_113 : decode cX9_readMarket 113 = .ok (.bipush (-9), 2) := by decide +kernel
theorem dX9_readMarket_115 : decode cX9_readMarket 115 = .ok (.ireturn, 1) := by decide +kernel
theorem dX9_fault_0 : decode cX9_fault 0 = .ok (.aload_n 0, 1) := by decide +kernel
theorem dX9_fault_1 : decode cX9_fault 1 = .ok (.iconst 0, 1) := by decide +kernel
theorem dX9_fault_2 : decode cX9_fault 2 = .ok (.putfield 108, 3) := by decide +kernel
theorem dX9_fault_5 : decode cX9_fault 5 = .ok (.aload_n 0, 1) := by decide +kernel
theorem dX9_fault_6 : decode cX9_fault 6 = .ok (.invokevirtual 159, 3) := by decide +kernel
theorem dX9_fault_9 : decode cX9_fault 9 = .ok (.ireturn, 1) := by decide +kernel
theorem dX9_come_0 : decode cX9_come 0 = .ok (.aload_n 0, 1) := by decide +kernel
theorem dX9_come_1 : decode cX9_come 1 = .ok (.getfield 36, 3) := by decide +kernel
theorem dX9_come_4 : decode cX9_come 4 = .ok (.iload_n 1, 1) := by decide +kernel
theorem dX9_come_5 : decode cX9_come 5 = .ok (.aload_n 0, 1) := by decide +kernel
theorem dX9_come_6 : decode cX9_come 6 = .ok (.getfield 27, 3) := by decide +kernel
theorem dX9_come_9 : decode cX9_come 9 = .ok (.iload_n 1, 1) := by decide +kernel
theorem dX9_come_10 : decode cX9_come 10 = .ok (.iaload, 1) := by decide +kernel
theorem dX9_come_11 : decode cX9_come 11 = .ok (.iastore, 1) := by decide +kernel
theorem dX9_come_12 : decode cX9_come 12 = .ok (.aload_n 0, 1) := by decide +kernel
theorem dX9_come_13 : decode cX9_come 13 = .ok (.getfield 39, 3) := by decide +kernel
theorem dX9_come_16 : decode cX9_come 16 = .ok (.iload_n 1, 1) := by decide +kernel
theorem dX9_come_17 : decode cX9_come 17 = .ok (.iconst 1, 1) := by decide +kernel
theorem dX9_come_18 : decode cX9_come 18 = .ok (.iastore, 1) := by decide +kernel
theorem dX9_come_19 : decode cX9_come 19 = .ok (.aload_n 0, 1) := by decide +kernel
theorem dX9_come_20 : decode cX9_come 20 = .ok (.getfield 42, 3) := by decide +kernel
theorem dX9_come_23 : decode cX9_come 23 = .ok (.bipush 8, 2) := by decide +kernel
theorem dX9_come_25 : decode cX9_come 25 = .ok (.iload_n 1, 1) := by decide +kernel
theorem dX9_come_26 : decode cX9_come 26 = .ok (.imul, 1) := by decide +kernel
theorem dX9_come_27 : decode cX9_come 27 = .ok (.aload_n 0, 1) := by decide +kernel
theorem dX9_come_28 : decode cX9_come 28 = .ok (.getfield 30, 3) := by decide +kernel
theorem dX9_come_31 : decode cX9_come 31 = .ok (.iload_n 1, 1) := by decide +kernel
theorem dX9_come_32 : decode cX9_come 32 = .ok (.iaload, 1) := by decide +kernel
theorem dX9_come_33 : decode cX9_come 33 = .ok (.iastore, 1) := by decide +kernel
theorem dX9_come_34 : decode cX9_come 34 = .ok (.return_, 1) := by decide +kernel
theorem dX9_market_0 : decode cX9_market 0 = .ok (.aload_n 0, 1) := by decide +kernel
theorem dX9_market_1 : decode cX9_market 1 = .ok (.iconst 0, 1) := by decide +kernel
theorem dX9_market_2 : decode cX9_market 2 = .ok (.putfield 108, 3) := by decide +kernel
theorem dX9_market_5 : decode cX9_market 5 = .ok (.aload_n 0, 1) := by decide +kernel
theorem dX9_market_6 : decode cX9_market 6 = .ok (.invokevirtual 159, 3) := by decide +kernel
theorem dX9_market_9 : decode cX9_market 9 = .ok (.bipush (-9), 2) := by decide +kernel
theorem dX9_market_11 : decode cX9_market 11 = .ok (.if_icmp .eq 6, 3) := by decide +kernel
theorem dX9_market_14 : decode cX9_market 14 = .ok (.bipush (-3), 2) := by decide +kernel
theorem dX9_market_16 : decode cX9_market 16 = .ok (.ireturn, 1) := by decide +kernel
theorem dX9_market_17 : decode cX9_market 17 = .ok (.aload_n 0, 1) := by decide +kernel
theorem dX9_market_18 : decode cX9_market 18 = .ok (.aload_n 0, 1) := by decide +kernel
theorem dX9_market_19 : decode cX9_market 19 = .ok (.getfield 150, 3) := by decide +kernel
theorem dX9_market_22 : decode cX9_market 22 = .ok (.putfield 13, 3) := by decide +kernel
theorem dX9_market_25 : decode cX9_market 25 = .ok (.aload_n 0, 1) := by decide +kernel
theorem dX9_market_26 : decode cX9_market 26 = .ok (.aload_n 0, 1) := by decide +kernel
theorem dX9_market_27 : decode cX9_market 27 = .ok (.getfield 153, 3) := by decide +kernel
theorem dX9_market_30 : decode cX9_market 30 = .ok (.putfield 17, 3) := by decide +kernel
theorem dX9_market_33 : decode cX9_market 33 = .ok (.aload_n 0, 1) := by decide +kernel
theorem dX9_market_34 : decode cX9_market 34 = .ok (.aload_n 0, 1) := by decide +kernel
theorem dX9_market_35 : decode cX9_market 35 = .ok (.getfield 136, 3) := by decide +kernel
theorem dX9_market_38 : decode cX9_market 38 = .ok (.putfield 111, 3) := by decide +kernel
theorem dX9_market_41 : decode cX9_market 41 = .ok (.aload_n 0, 1) := by decide +kernel
theorem dX9_market_42 : decode cX9_market 42 = .ok (.aload_n 0, 1) := by decide +kernel
theorem dX9_market_43 : decode cX9_market 43 = .ok (.getfield 139, 3) := by decide +kernel
theorem dX9_market_46 : decode cX9_market 46 = .ok (.putfield 162, 3) := by decide +kernel
theorem dX9_market_49 : decode cX9_market 49 = .ok (.iconst 0, 1) := by decide +kernel
theorem dX9_market_50 : decode cX9_market 50 = .ok (.istore_n 1, 1) := by decide +kernel
theorem dX9_market_51 : decode cX9_market 51 = .ok (.iload_n 1, 1) := by decide +kernel
theorem dX9_market_52 : decode cX9_market 52 = .ok (.aload_n 0, 1) := by decide +kernel
theorem dX9_market_53 : decode cX9_market 53 = .ok (.getfield 111, 3) := by decide +kernel
theorem dX9_market_56 : decode cX9_market 56 = .ok (.if_icmp .ge 74, 3) := by decide +kernel
theorem dX9_market_59 : decode cX9_market 59 = .ok (.aload_n 0, 1) := by decide +kernel
theorem dX9_market_60 : decode cX9_market 60 = .ok (.getfield 20, 3) := by decide +kernel
theorem dX9_market_63 : decode cX9_market 63 = .ok (.iload_n 1, 1) := by decide +kernel
theorem dX9_market_64 : decode cX9_market 64 = .ok (.aload_n 0, 1) := by decide +kernel
theorem dX9_market_65 : decode cX9_market 65 = .ok (.getfield 51, 3) := by decide +kernel
theorem dX9_market_68 : decode cX9_market 68 = .ok (.iload_n 1, 1) := by decide +kernel
theorem dX9_market_69 : decode cX9_market 69 = .ok (.iaload, 1) := by decide +kernel
theorem dX9_market_70 : decode cX9_market 70 = .ok (.iastore, 1) := by decide +kernel
theorem dX9_market_71 : decode cX9_market 71 = .ok (.aload_n 0, 1) := by decide +kernel
theorem dX9_market_72 : decode cX9_market 72 = .ok (.getfield 23, 3) := by decide +kernel
theorem dX9_market_75 : decode cX9_market 75 = .ok (.iload_n 1, 1) := by decide +kernel
theorem dX9_market_76 : decode cX9_market 76 = .ok (.aload_n 0, 1) := by decide +kernel
theorem dX9_market_77 : decode cX9_market 77 = .ok (.getfield 54, 3) := by decide +kernel
theorem dX9_market_80 : decode cX9_market 80 = .ok (.iload_n 1, 1) := by decide +kernel
theorem dX9_market_81 : decode cX9_market 81 = .ok (.baload, 1) := by decide +kernel
theorem dX9_market_82 : decode cX9_market 82 = .ok (.bastore, 1) := by decide +kernel
theorem dX9_market_83 : decode cX9_market 83 = .ok (.aload_n 0, 1) := by decide +kernel
theorem dX9_market_84 : decode cX9_market 84 = .ok (.getfield 27, 3) := by decide +kernel
theorem dX9_market_87 : decode cX9_market 87 = .ok (.iload_n 1, 1) := by decide +kernel
theorem dX9_market_88 : decode cX9_market 88 = .ok (.aload_n 0, 1) := by decide +kernel
theorem dX9_market_89 : decode cX9_market 89 = .ok (.getfield 57, 3) := by decide +kernel
theorem dX9_market_92 : decode cX9_market 92 = .ok (.iload_n 1, 1) := by decide +kernel
theorem dX9_market_93 : decode cX9_market 93 = .ok (.iaload, 1) := by decide +kernel
theorem dX9_market_94 : decode cX9_market 94 = .ok (.iastore, 1) := by decide +kernel
theorem dX9_market_95 : decode cX9_market 95 = .ok (.aload_n 0, 1) := by decide +kernel
theorem dX9_market_96 : decode cX9_market 96 = .ok (.getfield 30, 3) := by decide +kernel
theorem dX9_market_99 : decode cX9_market 99 = .ok (.iload_n 1, 1) := by decide +kernel
theorem dX9_market_100 : decode cX9_market 100 = .ok (.aload_n 0, 1) := by decide +kernel
theorem dX9_market_101 : decode cX9_market 101 = .ok (.getfield 60, 3) := by decide +kernel
theorem dX9_market_104 : decode cX9_market 104 = .ok (.iload_n 1, 1) := by decide +kernel
theorem dX9_market_105 : decode cX9_market 105 = .ok (.iaload, 1) := by decide +kernel
theorem dX9_market_106 : decode cX9_market 106 = .ok (.iastore, 1) := by decide +kernel
theorem dX9_market_107 : decode cX9_market 107 = .ok (.aload_n 0, 1) := by decide +kernel
theorem dX9_market_108 : decode cX9_market 108 = .ok (.getfield 33, 3) := by decide +kernel
theorem dX9_market_111 : decode cX9_market 111 = .ok (.iload_n 1, 1) := by decide +kernel
theorem dX9_market_112 : decode cX9_market 112 = .ok (.aload_n 0, 1) := by decide +kernel
theorem dX9_market_113 : decode cX9_market 113 = .ok (.getfield 63, 3) := by decide +kernel
theorem dX9_market_116 : decode cX9_market 116 = .ok (.iload_n 1, 1) := by decide +kernel
theorem dX9_market_117 : decode cX9_market 117 = .ok (.baload, 1) := by decide +kernel
theorem dX9_market_118 : decode cX9_market 118 = .ok (.bastore, 1) := by decide +kernel
theorem dX9_market_119 : decode cX9_market 119 = .ok (.aload_n 0, 1) := by decide +kernel
theorem dX9_market_120 : decode cX9_market 120 = .ok (.iload_n 1, 1) := by decide +kernel
theorem dX9_market_121 : decode cX9_market 121 = .ok (.invokevirtual 165, 3) := by decide +kernel
theorem dX9_market_124 : decode cX9_market 124 = .ok (.iinc 1 1, 3) := by decide +kernel
theorem dX9_market_127 : decode cX9_market 127 = .ok (.goto (-76), 3) := by decide +kernel
theorem dX9_market_130 : decode cX9_market 130 = .ok (.iconst 0, 1) := by decide +kernel
theorem dX9_market_131 : decode cX9_market 131 = .ok (.istore_n 1, 1) := by decide +kernel
theorem dX9_market_132 : decode cX9_market 132 = .ok (.iload_n 1, 1) := by decide +kernel
theorem dX9_market_133 : decode cX9_market 133 = .ok (.aload_n 0, 1) := by decide +kernel
theorem dX9_market_134 : decode cX9_market 134 = .ok (.getfield 162, 3) := by decide +kernel
theorem dX9_market_137 : decode cX9_market 137 = .ok (.if_icmp .ge 33, 3) := by decide +kernel
theorem dX9_market_140 : decode cX9_market 140 = .ok (.aload_n 0, 1) := by decide +kernel
theorem dX9_market_141 : decode cX9_market 141 = .ok (.getfield 45, 3) := by decide +kernel
theorem dX9_market_144 : decode cX9_market 144 = .ok (.iload_n 1, 1) := by decide +kernel
theorem dX9_market_145 : decode cX9_market 145 = .ok (.aload_n 0, 1) := by decide +kernel
theorem dX9_market_146 : decode cX9_market 146 = .ok (.getfield 66, 3) := by decide +kernel
theorem dX9_market_149 : decode cX9_market 149 = .ok (.iload_n 1, 1) := by decide +kernel
theorem dX9_market_150 : decode cX9_market 150 = .ok (.iaload, 1) := by decide +kernel
theorem dX9_market_151 : decode cX9_market 151 = .ok (.iastore, 1) := by decide +kernel
theorem dX9_market_152 : decode cX9_market 152 = .ok (.aload_n 0, 1) := by decide +kernel
theorem dX9_market_153 : decode cX9_market 153 = .ok (.getfield 48, 3) := by decide +kernel
theorem dX9_market_156 : decode cX9_market 156 = .ok (.iload_n 1, 1) := by decide +kernel
theorem dX9_market_157 : decode cX9_market 157 = .ok (.aload_n 0, 1) := by decide +kernel
theorem dX9_market_158 : decode cX9_market 158 = .ok (.getfield 69, 3) := by decide +kernel
theorem dX9_market_161 : decode cX9_market 161 = .ok (.iload_n 1, 1) := by decide +kernel
theorem dX9_market_162 : decode cX9_market 162 = .ok (.iaload, 1) := by decide +kernel
theorem dX9_market_163 : decode cX9_market 163 = .ok (.iastore, 1) := by decide +kernel
theorem dX9_market_164 : decode cX9_market 164 = .ok (.iinc 1 1, 3) := by decide +kernel
theorem dX9_market_167 : decode cX9_market 167 = .ok (.goto (-35), 3) := by decide +kernel
theorem dX9_market_170 : decode cX9_market 170 = .ok (.aload_n 0, 1) := by decide +kernel
theorem dX9_market_171 : decode cX9_market 171 = .ok (.iconst 0, 1) := by decide +kernel
theorem dX9_market_172 : decode cX9_market 172 = .ok (.putfield 169, 3) := by decide +kernel
theorem dX9_market_175 : decode cX9_market 175 = .ok (.aload_n 0, 1) := by decide +kernel
theorem dX9_market_176 : decode cX9_market 176 = .ok (.getfield 111, 3) := by decide +kernel
theorem dX9_market_179 : decode cX9_market 179 = .ok (.ireturn, 1) := by decide +kernel
theorem dX9_fakes_0 : decode cX9_fakes 0 = .ok (.iconst 0, 1) := by decide +kernel
theorem dX9_fakes_1 : decode cX9_fakes 1 = .ok (.istore_n 1, 1) := by decide +kernel
theorem dX9_fakes_2 : decode cX9_fakes 2 = .ok (.iconst 0, 1) := by decide +kernel
theorem dX9_fakes_3 : decode cX9_fakes 3 = .ok (.istore_n 2, 1) := by decide +kernel
theorem dX9_fakes_4 : decode cX9_fakes 4 = .ok (.iload_n 2, 1) := by decide +kernel
theorem dX9_fakes_5 : decode cX9_fakes 5 = .ok (.aload_n 0, 1) := by decide +kernel
theorem dX9_fakes_6 : decode cX9_fakes 6 = .ok (.getfield 111, 3) := by decide +kernel
theorem dX9_fakes_9 : decode cX9_fakes 9 = .ok (.if_icmp .ge 26, 3) := by decide +kernel
theorem dX9_fakes_12 : decode cX9_fakes 12 = .ok (.iload_n 1, 1) := by decide +kernel
theorem dX9_fakes_13 : decode cX9_fakes 13 = .ok (.aload_n 0, 1) := by decide +kernel
theorem dX9_fakes_14 : decode cX9_fakes 14 = .ok (.getfield 33, 3) := by decide +kernel
theorem dX9_fakes_17 : decode cX9_fakes 17 = .ok (.iload_n 2, 1) := by decide +kernel
theorem dX9_fakes_18 : decode cX9_fakes 18 = .ok (.baload, 1) := by decide +kernel
theorem dX9_fakes_19 : decode cX9_fakes 19 = .ok (.ifCond .eq 7, 3) := by decide +kernel
theorem dX9_fakes_22 : decode cX9_fakes 22 = .ok (.iconst 1, 1) := by decide +kernel
theorem dX9_fakes_23 : decode cX9_fakes 23 = .ok (.goto 4, 3) := by decide +kernel
theorem dX9_fakes_26 : decode cX9_fakes 26 = .ok (.iconst 0, 1) := by decide +kernel
theorem dX9_fakes_27 : decode cX9_fakes 27 = .ok (.iadd, 1) := by decide +kernel
theorem dX9_fakes_28 : decode cX9_fakes 28 = .ok (.istore_n 1, 1) := by decide +kernel
theorem dX9_fakes_29 : decode cX9_fakes 29 = .ok (.iinc 2 1, 3) := by decide +kernel
theorem dX9_fakes_32 : decode cX9_fakes 32 = .ok (.goto (-28), 3) := by decide +kernel
theorem dX9_fakes_35 : decode cX9_fakes 35 = .ok (.iload_n 1, 1) := by decide +kernel
theorem dX9_fakes_36 : decode cX9_fakes 36 = .ok (.ireturn, 1) := by decide +kernel
theorem dX9_about_0 : decode cX9_about 0 = .ok (.aload_n 0, 1) := by decide +kernel
theorem dX9_about_1 : decode cX9_about 1 = .ok (.iconst 0, 1) := by decide +kernel
theorem dX9_about_2 : decode cX9_about 2 = .ok (.putfield 108, 3) := by decide +kernel
theorem dX9_about_5 : decode cX9_about 5 = .ok (.iload_n 1, 1) := by decide +kernel
theorem dX9_about_6 : decode cX9_about 6 = .ok (.tableswitch 77 0 6 #[42, 47, 52, 57, 62, 67, 72], 42) := by decide +kernel
theorem dX9_about_48 : decode cX9_about 48 = .ok (.aload_n 0, 1) := by decide +kernel
theorem dX9_about_49 : decode cX9_about 49 = .ok (.getfield 111, 3) := by decide +kernel
theorem dX9_about_52 : decode cX9_about 52 = .ok (.ireturn, 1) := by decide +kernel
theorem dX9_about_53 : decode cX9_about 53 = .ok (.aload_n 0, 1) := by decide +kernel
theorem dX9_about_54 : decode cX9_about 54 = .ok (.getfield 162, 3) := by decide +kernel
theorem dX9_about_57 : decode cX9_about 57 = .ok (.ireturn, 1) := by decide +kernel
theorem dX9_about_58 : decode cX9_about 58 = .ok (.aload_n 0, 1) := by decide +kernel
theorem dX9_about_59 : decode cX9_about 59 = .ok (.getfield 13, 3) := by decide +kernel
theorem dX9_about_62 : decode cX9_about 62 = .ok (.ireturn, 1) := by decide +kernel
theorem dX9_about_63 : decode cX9_about 63 = .ok (.aload_n 0, 1) := by decide +kernel
theorem dX9_about_64 : decode cX9_about 64 = .ok (.getfield 17, 3) := by decide +kernel
theorem dX9_about_67 : decode cX9_about 67 = .ok (.ireturn, 1) := by decide +kernel
theorem dX9_about_68 : decode cX9_about 68 = .ok (.aload_n 0, 1) := by decide +kernel
theorem dX9_about_69 : decode cX9_about 69 = .ok (.getfield 169, 3) := by decide +kernel
theorem dX9_about_72 : decode cX9_about 72 = .ok (.ireturn, 1) := by decide +kernel
theorem dX9_about_73 : decode cX9_about 73 = .ok (.aload_n 0, 1) := by decide +kernel
theorem dX9_about_74 : decode cX9_about 74 = .ok (.getfield 122, 3) := by decide +kernel
theorem dX9_about_77 : decode cX9_about 77 = .ok (.ireturn, 1) := by decide +kernel
theorem dX9_about_78 : decode cX9_about 78 = .ok (.aload_n 0, 1) := by decide +kernel
theorem dX9_about_79 : decode cX9_about 79 = .ok (.invokevirtual 172, 3) := by decide +kernel
theorem dX9_about_82 : decode cX9_about 82 = .ok (.ireturn, 1) := by decide +kernel
theorem dX9_about_83 : decode cX9_about 83 = .ok (.bipush (-2), 2) := by decide +kernel
theorem dX9_about_85 : decode cX9_about 85 = .ok (.ireturn, 1) := by decide +kernel
theorem dX9_worthBy_0 : decode cX9_worthBy 0 = .ok (.bipush 10, 2) := by decide +kernel
theorem dX9_worthBy_2 : decode cX9_worthBy 2 = .ok (.aload_n 0, 1) := by decide +kernel
theorem dX9_worthBy_3 : decode cX9_worthBy 3 = .ok (.getfield 20, 3) := by decide +kernel
theorem dX9_worthBy_6 : decode cX9_worthBy 6 = .ok (.iload_n 1, 1) := by decide +kernel
theorem dX9_worthBy_7 : decode cX9_worthBy 7 = .ok (.iaload, 1) := by decide +kernel
theorem dX9_worthBy_8 : decode cX9_worthBy 8 = .ok (.imul, 1) := by decide +kernel
theorem dX9_worthBy_9 : decode cX9_worthBy 9 = .ok (.aload_n 0, 1) := by decide +kernel
theorem dX9_worthBy_10 : decode cX9_worthBy 10 = .ok (.getfield 13, 3) := by decide +kernel
theorem dX9_worthBy_13 : decode cX9_worthBy 13 = .ok (.iload_n 2, 1) := by decide +kernel
theorem dX9_worthBy_14 : decode cX9_worthBy 14 = .ok (.imul, 1) := by decide +kernel
theorem dX9_worthBy_15 : decode cX9_worthBy 15 = .ok (.isub, 1) := by decide +kernel
theorem dX9_worthBy_16 : decode cX9_worthBy 16 = .ok (.istore_n 3, 1) := by decide +kernel
theorem dX9_worthBy_17 : decode cX9_worthBy 17 = .ok (.iload_n 3, 1) := by decide +kernel
theorem dX9_worthBy_18 : decode cX9_worthBy 18 = .ok (.ifCond .ge 7, 3) := by decide +kernel
theorem dX9_worthBy_21 : decode cX9_worthBy 21 = .ok (.iconst 0, 1) := by decide +kernel
theorem dX9_worthBy_22 : decode cX9_worthBy 22 = .ok (.goto 22, 3) := by decide +kernel
theorem dX9_worthBy_25 : decode cX9_worthBy 25 = .ok (.aload_n 0, 1) := by decide +kernel
theorem dX9_worthBy_26 : decode cX9_worthBy 26 = .ok (.getfield 23, 3) := by decide +kernel
theorem dX9_worthBy_29 : decode cX9_worthBy 29 = .ok (.iload_n 1, 1) := by decide +kernel
theorem dX9_worthBy_30 : decode cX9_worthBy 30 = .ok (.baload, 1) := by decide +kernel
theorem dX9_worthBy_31 : decode cX9_worthBy 31 = .ok (.ifCond .eq 12, 3) := by decide +kernel
theorem dX9_worthBy_34 : decode cX9_worthBy 34 = .ok (.aload_n 0, 1) := by decide +kernel
theorem dX9_worthBy_35 : decode cX9_worthBy 35 = .ok (.getfield 17, 3) := by decide +kernel
theorem dX9_worthBy_38 : decode cX9_worthBy 38 = .ok (.iload_n 3, 1) := by decide +kernel
theorem dX9_worthBy_39 : decode cX9_worthBy 39 = .ok (.imul, 1) := by decide +kernel
theorem dX9_worthBy_40 : decode cX9_worthBy 40 = .ok (.goto 4, 3) := by decide +kernel
theorem dX9_worthBy_43 : decode cX9_worthBy 43 = .ok (.iload_n 3, 1) := by decide +kernel
theorem dX9_worthBy_44 : decode cX9_worthBy 44 = .ok (.ireturn, 1) := by decide +kernel
theorem dX9_worth_0 : decode cX9_worth 0 = .ok (.aload_n 0, 1) := by decide +kernel
theorem dX9_worth_1 : decode cX9_worth 1 = .ok (.iload_n 1, 1) := by decide +kernel
theorem dX9_worth_2 : decode cX9_worth 2 = .ok (.aload_n 0, 1) := by decide +kernel
theorem dX9_worth_3 : decode cX9_worth 3 = .ok (.getfield 27, 3) := by decide +kernel
theorem dX9_worth_6 : decode cX9_worth 6 = .ok (.iload_n 1, 1) := by decide +kernel
theorem dX9_worth_7 : decode cX9_worth 7 = .ok (.iaload, 1) := by decide +kernel
theorem dX9_worth_8 : decode cX9_worth 8 = .ok (.invokevirtual 175, 3) := by decide +kernel
theorem dX9_worth_11 : decode cX9_worth 11 = .ok (.ireturn, 1) := by decide +kernel
theorem dX9_tooth_0 : decode cX9_tooth 0 = .ok (.aload_n 0, 1) := by decide +kernel
theorem dX9_tooth_1 : decode cX9_tooth 1 = .ok (.iconst 0, 1) := by decide +kernel
theorem dX9_tooth_2 : decode cX9_tooth 2 = .ok (.putfield 108, 3) := by decide +kernel
theorem dX9_tooth_5 : decode cX9_tooth 5 = .ok (.aload_n 0, 1) := by decide +kernel
theorem dX9_tooth_6 : decode cX9_tooth 6 = .ok (.iload_n 1, 1) := by decide +kernel
theorem dX9_tooth_7 : decode cX9_tooth 7 = .ok (.invokevirtual 178, 3) := by decide +kernel
theorem dX9_tooth_10 : decode cX9_tooth 10 = .ok (.ifCond .eq 5, 3) := by decide +kernel
theorem dX9_tooth_13 : decode cX9_tooth 13 = .ok (.iconst (-1), 1) := by decide +kernel
theorem dX9_tooth_14 : decode cX9_tooth 14 = .ok (.ireturn, 1) := by decide +kernel
theorem dX9_tooth_15 : decode cX9_tooth 15 = .ok (.iload_n 2, 1) := by decide +kernel
theorem dX9_tooth_16 : decode cX9_tooth 16 = .ok (.tableswitch 97 0 5 #[40, 47, 62, 69, 76, 82], 40) := by decide +kernel
theorem dX9_tooth_56 : decode cX9_tooth 56 = .ok (.aload_n 0, 1) := by decide +kernel
theorem dX9_tooth_57 : decode cX9_tooth 57 = .ok (.getfield 20, 3) := by decide +kernel
theorem dX9_tooth_60 : decode cX9_tooth 60 = .ok (.iload_n 1, 1) := by decide +kernel
theorem dX9_tooth_61 : decode cX9_tooth 61 = .ok (.iaload, 1) := by decide +kernel
theorem dX9_tooth_62 : decode cX9_tooth 62 = .ok (.ireturn, 1) := by decide +kernel
theorem dX9_tooth_63 : decode cX9_tooth 63 = .ok (.aload_n 0, 1) := by decide +kernel
theorem dX9_tooth_64 : decode cX9_tooth 64 = .ok (.getfield 23, 3) := by decide +kernel
theorem dX9_tooth_67 : decode cX9_tooth 67 = .ok (.iload_n 1, 1) := by decide +kernel
theorem dX9_tooth_68 : decode cX9_tooth 68 = .ok (.baload, 1) := by decide +kernel
theorem dX9_tooth_69 : decode cX9_tooth 69 = .ok (.ifCond .eq 7, 3) := by decide +kernel
theorem dX9_tooth_72 : decode cX9_tooth 72 = .ok (.iconst 1, 1) := by decide +kernel
theorem dX9_tooth_73 : decode cX9_tooth 73 = .ok (.goto 4, 3) := by decide +kernel
theorem dX9_tooth_76 : decode cX9_tooth 76 = .ok (.iconst 0, 1) := by decide +kernel
theorem dX9_tooth_77 : decode cX9_tooth 77 = .ok (.ireturn, 1) := by decide +kernel
theorem dX9_tooth_78 : decode cX9_tooth 78 = .ok (.aload_n 0, 1) := by decide +kernel
theorem dX9_tooth_79 : decode cX9_tooth 79 = .ok (.getfield 27, 3) := by decide +kernel
theorem dX9_tooth_82 : decode cX9_tooth 82 = .ok (.iload_n 1, 1) := by decide +kernel
theorem dX9_tooth_83 : decode cX9_tooth 83 = .ok (.iaload, 1) := by decide +kernel
theorem dX9_tooth_84 : decode cX9_tooth 84 = .ok (.ireturn, 1) := by decide +kernel
theorem dX9_tooth_85 : decode cX9_tooth 85 = .ok (.aload_n 0, 1) := by decide +kernel
theorem dX9_tooth_86 : decode cX9_tooth 86 = .ok (.getfield 30, 3) := by decide +kernel
theorem dX9_tooth_89 : decode cX9_tooth 89 = .ok (.iload_n 1, 1) := by decide +kernel
theorem dX9_tooth_90 : decode cX9_tooth 90 = .ok (.iaload, 1) := by decide +kernel
theorem dX9_tooth_91 : decode cX9_tooth 91 = .ok (.ireturn, 1) := by decide +kernel
theorem dX9_tooth_92 : decode cX9_tooth 92 = .ok (.aload_n 0, 1) := by decide +kernel
theorem dX9_tooth_93 : decode cX9_tooth 93 = .ok (.iload_n 1, 1) := by decide +kernel
theorem dX9_tooth_94 : decode cX9_tooth 94 = .ok (.invokevirtual 182, 3) := by decide +kernel
theorem dX9_tooth_97 : decode cX9_tooth 97 = .ok (.ireturn, 1) := by decide +kernel
theorem dX9_tooth_98 : decode cX9_tooth 98 = .ok (.aload_n 0, 1) := by decide +kernel
theorem dX9_tooth_99 : decode cX9_tooth 99 = .ok (.getfield 33, 3) := by decide +kernel
theorem dX9_tooth_102 : decode cX9_tooth 102 = .ok (.iload_n 1, 1) := by decide +kernel
theorem dX9_tooth_103 : decode cX9_tooth 103 = .ok (.baload, 1) := by decide +kernel
theorem dX9_tooth_104 : decode cX9_tooth 104 = .ok (.ifCond .eq 7, 3) := by decide +kernel
theorem dX9_tooth_107 : decode cX9_tooth 107 = .ok (.iconst 1, 1) := by decide +kernel
theorem dX9_tooth_108 : decode cX9_tooth 108 = .ok (.goto 4, 3) := by decide +kernel
theorem dX9_tooth_111 : decode cX9_tooth 111 = .ok (.iconst 0, 1) := by decide +kernel
theorem dX9_tooth_112 : decode cX9_tooth 112 = .ok (.ireturn, 1) := by decide +kernel
theorem dX9_tooth_113 : decode cX9_tooth 113 = .ok (.bipush (-2), 2) := by decide +kernel
theorem dX9_tooth_115 : decode cX9_tooth 115 = .ok (.ireturn, 1) := by decide +kernel
theorem dX9_good_0 : decode cX9_good 0 = .ok (.aload_n 0, 1) := by decide +kernel
theorem dX9_good_1 : decode cX9_good 1 = .ok (.iconst 0, 1) := by decide +kernel
theorem dX9_good_2 : decode cX9_good 2 = .ok (.putfield 108, 3) := by decide +kernel
theorem dX9_good_5 : decode cX9_good 5 = .ok (.iload_n 1, 1) := by decide +kernel
theorem dX9_good_6 : decode cX9_good 6 = .ok (.i2l, 1) := by decide +kernel
theorem dX9_good_7 : decode cX9_good 7 = .ok (.lconst 0, 1) := by decide +kernel
theorem dX9_good_8 : decode cX9_good 8 = .ok (.aload_n 0, 1) := by decide +kernel
theorem dX9_good_9 : decode cX9_good 9 = .ok (.getfield 162, 3) := by decide +kernel
theorem dX9_good_12 : decode cX9_good 12 = .ok (.iconst 1, 1) := by decide +kernel
theorem dX9_good_13 : decode cX9_good 13 = .ok (.isub, 1) := by decide +kernel
theorem dX9_good_14 : decode cX9_good 14 = .ok (.i2l, 1) := by decide +kernel
theorem dX9_good_15 : decode cX9_good 15 = .ok (.invokestatic 114, 3) := by decide +kernel
theorem dX9_good_18 : decode cX9_good 18 = .ok (.ifCond .ne 5, 3) := by decide +kernel
theorem dX9_good_21 : decode cX9_good 21 = .ok (.iconst (-1), 1) := by decide +kernel
theorem dX9_good_22 : decode cX9_good 22 = .ok (.ireturn, 1) := by decide +kernel
theorem dX9_good_23 : decode cX9_good 23 = .ok (.iload_n 2, 1) := by decide +kernel
theorem dX9_good_24 : decode cX9_good 24 = .ok (.ifCond .ne 12, 3) := by decide +kernel
theorem dX9_good_27 : decode cX9_good 27 = .ok (.aload_n 0, 1) := by decide +kernel
theorem dX9_good_28 : decode cX9_good 28 = .ok (.getfield 45, 3) := by decide +kernel
theorem dX9_good_31 : decode cX9_good 31 = .ok (.iload_n 1, 1) := by decide +kernel
theorem dX9_good_32 : decode cX9_good 32 = .ok (.iaload, 1) := by decide +kernel
theorem dX9_good_33 : decode cX9_good 33 = .ok (.goto 19, 3) := by decide +kernel
theorem dX9_good_36 : decode cX9_good 36 = .ok (.iload_n 2, 1) := by decide +kernel
theorem dX9_good_37 : decode cX9_good 37 = .ok (.iconst 1, 1) := by decide +kernel
theorem dX9_good_38 : decode cX9_good 38 = .ok (.if_icmp .ne 12, 3) := by decide +kernel
theorem dX9_good_41 : decode cX9_good 41 = .ok (.aload_n 0, 1) := by decide +kernel
theorem dX9_good_42 : decode cX9_good 42 = .ok (.getfield 48, 3) := by decide +kernel
theorem dX9_good_45 : decode cX9_good 45 = .ok (.iload_n 1, 1) := by decide +kernel
theorem dX9_good_46 : decode cX9_good 46 = .ok (.iaload, 1) := by decide +kernel
theorem dX9_good_47 : decode cX9_good 47 = .ok (.goto 5, 3) := by decide +kernel
theorem dX9_good_50 : decode cX9_good 50 = .ok (.bipush (-2), 2) := by decide +kernel
theorem dX9_good_52 : decode cX9_good 52 = .ok (.ireturn, 1) := by decide +kernel
theorem dX9_setOf_0 : decode cX9_setOf 0 = .ok (.iconst 0, 1) := by decide +kernel
theorem dX9_setOf_1 : decode cX9_setOf 1 = .ok (.istore_n 2, 1) := by decide +kernel
theorem dX9_setOf_2 : decode cX9_setOf 2 = .ok (.iconst 0, 1) := by decide +kernel
theorem dX9_setOf_3 : decode cX9_setOf 3 = .ok (.istore_n 3, 1) := by decide +kernel
theorem dX9_setOf_4 : decode cX9_setOf 4 = .ok (.iload_n 3, 1) := by decide +kernel
theorem dX9_setOf_5 : decode cX9_setOf 5 = .ok (.aload_n 0, 1) := by decide +kernel
theorem dX9_setOf_6 : decode cX9_setOf 6 = .ok (.getfield 111, 3) := by decide +kernel
theorem dX9_setOf_9 : decode cX9_setOf 9 = .ok (.if_icmp .ge 29, 3) := by decide +kernel
theorem dX9_setOf_12 : decode cX9_setOf 12 = .ok (.iload_n 2, 1) := by decide +kernel
theorem dX9_setOf_13 : decode cX9_setOf 13 = .ok (.aload_n 0, 1) := by decide +kernel
theorem dX9_setOf_14 : decode cX9_setOf 14 = .ok (.getfield 30, 3) := by decide +kernel
theorem dX9_setOf_17 : decode cX9_setOf 17 = .ok (.iload_n 3, 1) := by decide +kernel
theorem dX9_setOf_18 : decode cX9_setOf 18 = .ok (.iaload, 1) := by decide +kernel
theorem dX9_setOf_19 : decode cX9_setOf 19 = .ok (.iload_n 1, 1) := by decide +kernel
theorem dX9_setOf_20 : decode cX9_setOf 20 = .ok (.if_icmp .ne 9, 3) := by decide +kernel
theorem dX9_setOf_23 : decode cX9_setOf 23 = .ok (.iconst 1, 1) := by decide +kernel
theorem dX9_setOf_24 : decode cX9_setOf 24 = .ok (.iload_n 3, 1) := by decide +kernel
theorem dX9_setOf_25 : decode cX9_setOf 25 = .ok (.ishl, 1) := by decide +kernel
theorem dX9_setOf_26 : decode cX9_setOf 26 = .ok (.goto 4, 3) := by decide +kernel
theorem dX9_setOf_29 : decode cX9_setOf 29 = .ok (.iconst 0, 1) := by decide +kernel
theorem dX9_setOf_30 : decode cX9_setOf 30 = .ok (.ior, 1) := by decide +kernel
theorem dX9_setOf_31 : decode cX9_setOf 31 = .ok (.istore_n 2, 1) := by decide +kernel
theorem dX9_setOf_32 : decode cX9_setOf 32 = .ok (.iinc 3 1, 3) := by decide +kernel
theorem dX9_setOf_35 : decode cX9_setOf 35 = .ok (.goto (-31), 3) := by decide +kernel
theorem dX9_setOf_38 : decode cX9_setOf 38 = .ok (.iload_n 2, 1) := by decide +kernel
theorem dX9_setOf_39 : decode cX9_setOf 39 = .ok (.ireturn, 1) := by decide +kernel
theorem dX9_worthOf_0 : decode cX9_worthOf 0 = .ok (.iconst 0, 1) := by decide +kernel
theorem dX9_worthOf_1 : decode cX9_worthOf 1 = .ok (.istore_n 2, 1) := by decide +kernel
theorem dX9_worthOf_2 : decode cX9_worthOf 2 = .ok (.iconst 0, 1) := by decide +kernel
theorem dX9_worthOf_3 : decode cX9_worthOf 3 = .ok (.istore_n 3, 1) := by decide +kernel
theorem dX9_worthOf_4 : decode cX9_worthOf 4 = .ok (.iload_n 3, 1) := by decide +kernel
theorem dX9_worthOf_5 : decode cX9_worthOf 5 = .ok (.aload_n 0, 1) := by decide +kernel
theorem dX9_worthOf_6 : decode cX9_worthOf 6 = .ok (.getfield 111, 3) := by decide +kernel
theorem dX9_worthOf_9 : decode cX9_worthOf 9 = .ok (.if_icmp .ge 29, 3) := by decide +kernel
theorem dX9_worthOf_12 : decode cX9_worthOf 12 = .ok (.iload_n 2, 1) := by decide +kernel
theorem dX9_worthOf_13 : decode cX9_worthOf 13 = .ok (.iload_n 1, 1) := by decide +kernel
theorem dX9_worthOf_14 : decode cX9_worthOf 14 = .ok (.iload_n 3, 1) := by decide +kernel
theorem dX9_worthOf_15 : decode cX9_worthOf 15 = .ok (.invokestatic 186, 3) := by decide +kernel
theorem dX9_worthOf_18 : decode cX9_worthOf 18 = .ok (.ifCond .eq 11, 3) := by decide +kernel
theorem dX9_worthOf_21 : decode cX9_worthOf 21 = .ok (.aload_n 0, 1) := by decide +kernel
theorem dX9_worthOf_22 : decode cX9_worthOf 22 = .ok (.iload_n 3, 1) := by decide +kernel
theorem dX9_worthOf_23 : decode cX9_worthOf 23 = .ok (.invokevirtual 182, 3) := by decide +kernel
theorem dX9_worthOf_26 : decode cX9_worthOf 26 = .ok (.goto 4, 3) := by decide +kernel
theorem dX9_worthOf_29 : decode cX9_worthOf 29 = .ok (.iconst 0, 1) := by decide +kernel
theorem dX9_worthOf_30 : decode cX9_worthOf 30 = .ok (.iadd, 1) := by decide +kernel
theorem dX9_worthOf_31 : decode cX9_worthOf 31 = .ok (.istore_n 2, 1) := by decide +kernel
theorem dX9_worthOf_32 : decode cX9_worthOf 32 = .ok (.iinc 3 1, 3) := by decide +kernel
theorem dX9_worthOf_35 : decode cX9_worthOf 35 = .ok (.goto (-31), 3) := by decide +kernel
theorem dX9_worthOf_38 : decode cX9_worthOf 38 = .ok (.iload_n 2, 1) := by decide +kernel
theorem dX9_worthOf_39 : decode cX9_worthOf 39 = .ok (.ireturn, 1) := by decide +kernel
theorem dX9_purse_0 : decode cX9_purse 0 = .ok (.aload_n 0, 1) := by decide +kernel
theorem dX9_purse_1 : decode cX9_purse 1 = .ok (.iconst 0, 1) := by decide +kernel
theorem dX9_purse_2 : decode cX9_purse 2 = .ok (.putfield 108, 3) := by decide +kernel
theorem dX9_purse_5 : decode cX9_purse 5 = .ok (.iload_n 1, 1) := by decide +kernel
theorem dX9_purse_6 : decode cX9_purse 6 = .ok (.invokestatic 190, 3) := by decide +kernel
theorem dX9_purse_9 : decode cX9_purse 9 = .ok (.ifCond .eq 7, 3) := by decide +kernel
theorem dX9_purse_12 : decode cX9_purse 12 = .ok (.iconst (-1), 1) := by decide +kernel
theorem dX9_purse_13 : decode cX9_purse 13 = .ok (.goto 12, 3) := by decide +kernel
theorem dX9_purse_16 : decode cX9_purse 16 = .ok (.aload_n 0, 1) := by decide +kernel
theorem dX9_purse_17 : decode cX9_purse 17 = .ok (.aload_n 0, 1) := by decide +kernel
theorem dX9_purse_18 : decode cX9_purse 18 = .ok (.iload_n 1, 1) := by decide +kernel
theorem dX9_purse_19 : decode cX9_purse 19 = .ok (.invokevirtual 193, 3) := by decide +kernel
theorem dX9_purse_22 : decode cX9_purse 22 = .ok (.invokevirtual 196, 3) := by decide +kernel
theorem dX9_purse_25 : decode cX9_purse 25 = .ok (.ireturn, 1) := by decide +kernel
theorem dX9_goHandle_0 : decode cX9_goHandle 0 = .ok (.aload_n 0, 1) := by decide +kernel
theorem dX9_goHandle_1 : decode cX9_goHandle 1 = .ok (.getfield 27, 3) := by decide +kernel
theorem dX9_goHandle_4 : decode cX9_goHandle 4 = .ok (.iload_n 1, 1) := by decide +kernel
theorem dX9_goHandle_5 : decode cX9_goHandle 5 = .ok (.dup2, 1) := by decide +kernel
theorem dX9_goHandle_6 : decode cX9_goHandle 6 = .ok (.iaload, 1) := by decide +kernel
theorem dX9_goHandle_7 : decode cX9_goHandle 7 = .ok (.aload_n 0, 1) := by decide +kernel
theorem dX9_goHandle_8 : decode cX9_goHandle 8 = .ok (.getfield 27, 3) := by decide +kernel
theorem dX9_goHandle_11 : decode cX9_goHandle 11 = .ok (.iload_n 1, 1) := by decide +kernel
theorem dX9_goHandle_12 : decode cX9_goHandle 12 = .ok (.iaload, 1) := by decide +kernel
theorem dX9_goHandle_13 : decode cX9_goHandle 13 = .ok (.bipush 99, 2) := by decide +kernel
theorem dX9_goHandle_15 : decode cX9_goHandle 15 = .ok (.if_icmp .ge 7, 3) := by decide +kernel
theorem dX9_goHandle_18 : decode cX9_goHandle 18 = .ok (.iconst 1, 1) := by decide +kernel
theorem dX9_goHandle_19 : decode cX9_goHandle 19 = .ok (.goto 4, 3) := by decide +kernel
theorem dX9_goHandle_22 : decode cX9_goHandle 22 = .ok (.iconst 0, 1) := by decide +kernel
theorem dX9_goHandle_23 : decode cX9_goHandle 23 = .ok (.iadd, 1) := by decide +kernel
theorem dX9_goHandle_24 : decode cX9_goHandle 24 = .ok (.iastore, 1) := by decide +kernel
theorem dX9_goHandle_25 : decode cX9_goHandle 25 = .ok (.return_, 1) := by decide +kernel
theorem dX9_handle_0 : decode cX9_handle 0 = .ok (.aload_n 0, 1) := by decide +kernel
theorem dX9_handle_1 : decode cX9_handle 1 = .ok (.iconst 0, 1) := by decide +kernel
theorem dX9_handle_2 : decode cX9_handle 2 = .ok (.putfield 108, 3) := by decide +kernel
theorem dX9_handle_5 : decode cX9_handle 5 = .ok (.aload_n 0, 1) := by decide +kernel
theorem dX9_handle_6 : decode cX9_handle 6 = .ok (.iload_n 1, 1) := by decide +kernel
theorem dX9_handle_7 : decode cX9_handle 7 = .ok (.invokevirtual 178, 3) := by decide +kernel
theorem dX9_handle_10 : decode cX9_handle 10 = .ok (.ifCond .eq 5, 3) := by decide +kernel
theorem dX9_handle_13 : decode cX9_handle 13 = .ok (.iconst (-1), 1) := by decide +kernel
theorem dX9_handle_14 : decode cX9_handle 14 = .ok (.ireturn, 1) := by decide +kernel
theorem dX9_handle_15 : decode cX9_handle 15 = .ok (.aload_n 0, 1) := by decide +kernel
theorem dX9_handle_16 : decode cX9_handle 16 = .ok (.iload_n 1, 1) := by decide +kernel
theorem dX9_handle_17 : decode cX9_handle 17 = .ok (.invokevirtual 199, 3) := by decide +kernel
theorem dX9_handle_20 : decode cX9_handle 20 = .ok (.aload_n 0, 1) := by decide +kernel
theorem dX9_handle_21 : decode cX9_handle 21 = .ok (.iload_n 1, 1) := by decide +kernel
theorem dX9_handle_22 : decode cX9_handle 22 = .ok (.invokevirtual 182, 3) := by decide +kernel
theorem dX9_handle_25 : decode cX9_handle 25 = .ok (.ireturn, 1) := by decide +kernel
theorem dX9_bite_0 : decode cX9_bite 0 = .ok (.aload_n 0, 1) := by decide +kernel
theorem dX9_bite_1 : decode cX9_bite 1 = .ok (.iconst 0, 1) := by decide +kernel
theorem dX9_bite_2 : decode cX9_bite 2 = .ok (.putfield 108, 3) := by decide +kernel
theorem dX9_bite_5 : decode cX9_bite 5 = .ok (.aload_n 0, 1) := by decide +kernel
theorem dX9_bite_6 : decode cX9_bite 6 = .ok (.iload_n 1, 1) := by decide +kernel
theorem dX9_bite_7 : decode cX9_bite 7 = .ok (.invokevirtual 178, 3) := by decide +kernel
theorem dX9_bite_10 : decode cX9_bite 10 = .ok (.ifCond .eq 5, 3) := by decide +kernel
theorem dX9_bite_13 : decode cX9_bite 13 = .ok (.iconst (-1), 1) := by decide +kernel
theorem dX9_bite_14 : decode cX9_bite 14 = .ok (.ireturn, 1) := by decide +kernel
theorem dX9_bite_15 : decode cX9_bite 15 = .ok (.aload_n 0, 1) := by decide +kernel
theorem dX9_bite_16 : decode cX9_bite 16 = .ok (.getfield 20, 3) := by decide +kernel
theorem dX9_bite_19 : decode cX9_bite 19 = .ok (.iload_n 1, 1) := by decide +kernel
theorem dX9_bite_20 : decode cX9_bite 20 = .ok (.iaload, 1) := by decide +kernel
theorem dX9_bite_21 : decode cX9_bite 21 = .ok (.iconst 1, 1) := by decide +kernel
theorem dX9_bite_22 : decode cX9_bite 22 = .ok (.if_icmp .ne 6, 3) := by decide +kernel
theorem dX9_bite_25 : decode cX9_bite 25 = .ok (.bipush (-3), 2) := by decide +kernel
theorem dX9_bite_27 : decode cX9_bite 27 = .ok (.ireturn, 1) := by decide +kernel
theorem dX9_bite_28 : decode cX9_bite 28 = .ok (.aload_n 0, 1) := by decide +kernel
theorem dX9_bite_29 : decode cX9_bite 29 = .ok (.getfield 20, 3) := by decide +kernel
theorem dX9_bite_32 : decode cX9_bite 32 = .ok (.iload_n 1, 1) := by decide +kernel
theorem dX9_bite_33 : decode cX9_bite 33 = .ok (.dup2, 1) := by decide +kernel
theorem dX9_bite_34 : decode cX9_bite 34 = .ok (.iaload, 1) := by decide +kernel
theorem dX9_bite_35 : decode cX9_bite 35 = .ok (.iconst 1, 1) := by decide +kernel
theorem dX9_bite_36 : decode cX9_bite 36 = .ok (.isub, 1) := by decide +kernel
theorem dX9_bite_37 : decode cX9_bite 37 = .ok (.iastore, 1) := by decide +kernel
theorem dX9_bite_38 : decode cX9_bite 38 = .ok (.aload_n 0, 1) := by decide +kernel
theorem dX9_bite_39 : decode cX9_bite 39 = .ok (.getfield 27, 3) := by decide +kernel
theorem dX9_bite_42 : decode cX9_bite 42 = .ok (.iload_n 1, 1) := by decide +kernel
theorem dX9_bite_43 : decode cX9_bite 43 = .ok (.iconst 0, 1) := by decide +kernel
theorem dX9_bite_44 : decode cX9_bite 44 = .ok (.iastore, 1) := by decide +kernel
theorem dX9_bite_45 : decode cX9_bite 45 = .ok (.aload_n 0, 1) := by decide +kernel
theorem dX9_bite_46 : decode cX9_bite 46 = .ok (.iload_n 1, 1) := by decide +kernel
theorem dX9_bite_47 : decode cX9_bite 47 = .ok (.invokevirtual 182, 3) := by decide +kernel
theorem dX9_bite_50 : decode cX9_bite 50 = .ok (.ireturn, 1) := by decide +kernel
theorem dX9_next_0 : decode cX9_next 0 = .ok (.iload_n 0, 1) := by decide +kernel
theorem dX9_next_1 : decode cX9_next 1 = .ok (.iload_n 1, 1) := by decide +kernel
theorem dX9_next_2 : decode cX9_next 2 = .ok (.isub, 1) := by decide +kernel
theorem dX9_next_3 : decode cX9_next 3 = .ok (.iload_n 1, 1) := by decide +kernel
theorem dX9_next_4 : decode cX9_next 4 = .ok (.iand, 1) := by decide +kernel
theorem dX9_next_5 : decode cX9_next 5 = .ok (.ireturn, 1) := by decide +kernel
theorem dX9_findFewest_0 : decode cX9_findFewest 0 = .ok (.aload_n 0, 1) := by decide +kernel
theorem dX9_findFewest_1 : decode cX9_findFewest 1 = .ok (.iload_n 1, 1) := by decide +kernel
theorem dX9_findFewest_2 : decode cX9_findFewest 2 = .ok (.invokevirtual 193, 3) := by decide +kernel
theorem dX9_findFewest_5 : decode cX9_findFewest 5 = .ok (.istore 4, 2) := by decide +kernel
theorem dX9_findFewest_7 : decode cX9_findFewest 7 = .ok (.aload_n 0, 1) := by decide +kernel
theorem dX9_findFewest_8 : decode cX9_findFewest 8 = .ok (.iload_n 2, 1) := by decide +kernel
theorem dX9_findFewest_9 : decode cX9_findFewest 9 = .ok (.invokevirtual 193, 3) := by decide +kernel
theorem dX9_findFewest_12 : decode cX9_findFewest 12 = .ok (.istore 5, 2) := by decide +kernel
theorem dX9_findFewest_14 : decode cX9_findFewest 14 = .ok (.bipush (-9), 2) := by decide +kernel
theorem dX9_findFewest_16 : decode cX9_findFewest 16 = .ok (.istore 6, 2) := by decide +kernel
theorem dX9_findFewest_18 : decode cX9_findFewest 18 = .ok (.iconst 0, 1) := by decide +kernel
theorem dX9_findFewest_19 : decode cX9_findFewest 19 = .ok (.istore 7, 2) := by decide +kernel
theorem dX9_findFewest_21 : decode cX9_findFewest 21 = .ok (.iconst 1, 1) := by decide +kernel
theorem dX9_findFewest_22 : decode cX9_findFewest 22 = .ok (.istore 8, 2) := by decide +kernel
theorem dX9_findFewest_24 : decode cX9_findFewest 24 = .ok (.iload 8, 2) := by decide +kernel
theorem dX9_findFewest_26 : decode cX9_findFewest 26 = .ok (.ifCond .eq 135, 3) := by decide +kernel
theorem dX9_findFewest_29 : decode cX9_findFewest 29 = .ok (.aload_n 0, 1) := by decide +kernel
theorem dX9_findFewest_30 : decode cX9_findFewest 30 = .ok (.iload 7, 2) := by decide +kernel
theorem dX9_findFewest_32 : decode cX9_findFewest 32 = .ok (.invokevirtual 196, 3) := by decide +kernel
theorem dX9_findFewest_35 : decode cX9_findFewest 35 = .ok (.iload_n 3, 1) := by decide +kernel
theorem dX9_findFewest_36 : decode cX9_findFewest 36 = .ok (.isub, 1) := by decide +kernel
theorem dX9_findFewest_37 : decode cX9_findFewest 37 = .ok (.istore 9, 2) := by decide +kernel
theorem dX9_findFewest_39 : decode cX9_findFewest 39 = .ok (.iconst 0, 1) := by decide +kernel
theorem dX9_findFewest_40 : decode cX9_findFewest 40 = .ok (.istore 10, 2) := by decide +kernel
theorem dX9_findFewest_42 : decode cX9_findFewest 42 = .ok (.iload 9, 2) := by decide +kernel
theorem dX9_findFewest_44 : decode cX9_findFewest 44 = .ok (.ifCond .lt 7, 3) := by decide +kernel
theorem dX9_findFewest_47 : decode cX9_findFewest 47 = .ok (.iconst 1, 1) := by decide +kernel
theorem dX9_findFewest_48 : decode cX9_findFewest 48 = .ok (.goto 4, 3) := by decide +kernel
theorem dX9_findFewest_51 : decode cX9_findFewest 51 = .ok (.iconst 0, 1) := by decide +kernel
theorem dX9_findFewest_52 : decode cX9_findFewest 52 = .ok (.istore 11, 2) := by decide +kernel
theorem dX9_findFewest_54 : decode cX9_findFewest 54 = .ok (.iload 11, 2) := by decide +kernel
theorem dX9_findFewest_56 : decode cX9_findFewest 56 = .ok (.ifCond .eq 81, 3) := by decide +kernel
theorem dX9_findFewest_59 : decode cX9_findFewest 59 = .ok (.iload 7, 2) := by decide +kernel
theorem dX9_findFewest_61 : decode cX9_findFewest 61 = .ok (.invokestatic 202, 3) := by decide +kernel
theorem dX9_findFewest_64 : decode cX9_findFewest 64 = .ok (.iload 10, 2) := by decide +kernel
theorem dX9_findFewest_66 : decode cX9_findFewest 66 = .ok (.invokestatic 202, 3) := by decide +kernel
theorem dX9_findFewest_69 : decode cX9_findFewest 69 = .ok (.iadd, 1) := by decide +kernel
theorem dX9_findFewest_70 : decode cX9_findFewest 70 = .ok (.istore 12, 2) := by decide +kernel
theorem dX9_findFewest_72 : decode cX9_findFewest 72 = .ok (.aload_n 0, 1) := by decide +kernel
theorem dX9_findFewest_73 : decode cX9_findFewest 73 = .ok (.iload 10, 2) := by decide +kernel
theorem dX9_findFewest_75 : decode cX9_findFewest 75 = .ok (.invokevirtual 196, 3) := by decide +kernel
theorem dX9_findFewest_78 : decode cX9_findFewest 78 = .ok (.iload 9, 2) := by decide +kernel
theorem dX9_findFewest_80 : decode cX9_findFewest 80 = .ok (.if_icmp .ne 33, 3) := by decide +kernel
theorem dX9_findFewest_83 : decode cX9_findFewest 83 = .ok (.iload 6, 2) := by decide +kernel
theorem dX9_findFewest_85 : decode cX9_findFewest 85 = .ok (.bipush (-9), 2) := by decide +kernel
theorem dX9_findFewest_87 : decode cX9_findFewest 87 = .ok (.if_icmp .eq 10, 3) := by decide +kernel
theorem dX9_findFewest_90 : decode cX9_findFewest 90 = .ok (.iload 12, 2) := by decide +kernel
theorem dX9_findFewest_92 : decode cX9_findFewest 92 = .ok (.iload 6, 2) := by decide +kernel
theorem dX9_findFewest_94 : decode cX9_findFewest 94 = .ok (.if_icmp .ge 19, 3) := by decide +kernel
theorem dX9_findFewest_97 : decode cX9_findFewest 97 = .ok (.iload 12, 2) := by decide +kernel
theorem dX9_findFewest_99 : decode cX9_findFewest 99 = .ok (.istore 6, 2) := by decide +kernel
theorem dX9_findFewest_101 : decode cX9_findFewest 101 = .ok (.aload_n 0, 1) := by decide +kernel
theorem dX9_findFewest_102 : decode cX9_findFewest 102 = .ok (.iload 7, 2) := by decide +kernel
theorem dX9_findFewest_104 : decode cX9_findFewest 104 = .ok (.putfield 205, 3) := by decide +kernel
theorem dX9_findFewest_107 : decode cX9_findFewest 107 = .ok (.aload_n 0, 1) := by decide +kernel
theorem dX9_findFewest_108 : decode cX9_findFewest 108 = .ok (.iload 10, 2) := by decide +kernel
theorem dX9_findFewest_110 : decode cX9_findFewest 110 = .ok (.putfield 208, 3) := by decide +kernel
theorem dX9_findFewest_113 : decode cX9_findFewest 113 = .ok (.iload 10, 2) := by decide +kernel
theorem dX9_findFewest_115 : decode cX9_findFewest 115 = .ok (.iload 5, 2) := by decide +kernel
theorem dX9_findFewest_117 : decode cX9_findFewest 117 = .ok (.invokestatic 211, 3) := by decide +kernel
theorem dX9_findFewest_120 : decode cX9_findFewest 120 = .ok (.istore 10, 2) := by decide +kernel
theorem dX9_findFewest_122 : decode cX9_findFewest 122 = .ok (.iload 10, 2) := by decide +kernel
theorem dX9_findFewest_124 : decode cX9_findFewest 124 = .ok (.ifCond .eq 7, 3) := by decide +kernel
theorem dX9_findFewest_127 : decode cX9_findFewest 127 = .ok (.iconst 1, 1) := by decide +kernel
theorem dX9_findFewest_128 : decode cX9_findFewest 128 = .ok (.goto 4, 3) := by decide +kernel
theorem dX9_findFewest_131 : decode cX9_findFewest 131 = .ok (.iconst 0, 1) := by decide +kernel
theorem dX9_findFewest_132 : decode cX9_findFewest 132 = .ok (.istore 11, 2) := by decide +kernel
theorem dX9_findFewest_134 : decode cX9_findFewest 134 = .ok (.goto (-80), 3) := by decide +kernel
theorem dX9_findFewest_137 : decode cX9_findFewest 137 = .ok (.iload 7, 2) := by decide +kernel
theorem dX9_findFewest_139 : decode cX9_findFewest 139 = .ok (.iload 4, 2) := by decide +kernel
theorem dX9_findFewest_141 : decode cX9_findFewest 141 = .ok (.invokestatic 211, 3) := by decide +kernel
theorem dX9_findFewest_144 : decode cX9_findFewest 144 = .ok (.istore 7, 2) := by decide +kernel
theorem dX9_findFewest_146 : decode cX9_findFewest 146 = .ok (.iload 7, 2) := by decide +kernel
theorem dX9_findFewest_148 : decode cX9_findFewest 148 = .ok (.ifCond .eq 7, 3) := by decide +kernel
theorem dX9_findFewest_151 : decode cX9_findFewest 151 = .ok (.iconst 1, 1) := by decide +kernel
theorem dX9_findFewest_152 : decode cX9_findFewest 152 = .ok (.goto 4, 3) := by decide +kernel
theorem dX9_findFewest_155 : decode cX9_findFewest 155 = .ok (.iconst 0, 1) := by decide +kernel
theorem dX9_findFewest_156 : decode cX9_findFewest 156 = .ok (.istore 8, 2) := by decide +kernel
theorem dX9_findFewest_158 : decode cX9_findFewest 158 = .ok (.goto (-134), 3) := by decide +kernel
theorem dX9_findFewest_161 : decode cX9_findFewest 161 = .ok (.iload 6, 2) := by decide +kernel
theorem dX9_findFewest_163 : decode cX9_findFewest 163 = .ok (.ireturn, 1) := by decide +kernel
theorem dX9_noPay_0 : decode cX9_noPay 0 = .ok (.iload_n 0, 1) := by decide +kernel
theorem dX9_noPay_1 : decode cX9_noPay 1 = .ok (.invokestatic 190, 3) := by decide +kernel
theorem dX9_noPay_4 : decode cX9_noPay 4 = .ok (.ifCond .ne 10, 3) := by decide +kernel
theorem dX9_noPay_7 : decode cX9_noPay 7 = .ok (.iload_n 1, 1) := by decide +kernel
theorem dX9_noPay_8 : decode cX9_noPay 8 = .ok (.invokestatic 190, 3) := by decide +kernel
theorem dX9_noPay_11 : decode cX9_noPay 11 = .ok (.ifCond .eq 7, 3) := by decide +kernel
theorem dX9_noPay_14 : decode cX9_noPay 14 = .ok (.iconst (-1), 1) := by decide +kernel
theorem dX9_noPay_15 : decode cX9_noPay 15 = .ok (.goto 26, 3) := by decide +kernel
theorem dX9_noPay_18 : decode cX9_noPay 18 = .ok (.iload_n 0, 1) := by decide +kernel
theorem dX9_noPay_19 : decode cX9_noPay 19 = .ok (.iload_n 1, 1) := by decide +kernel
theorem dX9_noPay_20 : decode cX9_noPay 20 = .ok (.if_icmp .eq 15, 3) := by decide +kernel
theorem dX9_noPay_23 : decode cX9_noPay 23 = .ok (.iload_n 2, 1) := by decide +kernel
theorem dX9_noPay_24 : decode cX9_noPay 24 = .ok (.i2l, 1) := by decide +kernel
theorem dX9_noPay_25 : decode cX9_noPay 25 = .ok (.lconst 0, 1) := by decide +kernel
theorem dX9_noPay_26 : decode cX9_noPay 26 = .ok (.ldc2_w 214, 3) := by decide +kernel
theorem dX9_noPay_29 : decode cX9_noPay 29 = .ok (.invokestatic 114, 3) := by decide +kernel
theorem dX9_noPay_32 : decode cX9_noPay 32 = .ok (.ifCond .ne 8, 3) := by decide +kernel
theorem dX9_noPay_35 : decode cX9_noPay 35 = .ok (.bipush (-2), 2) := by decide +kernel
theorem dX9_noPay_37 : decode cX9_noPay 37 = .ok (.goto 4, 3) := by decide +kernel
theorem dX9_noPay_40 : decode cX9_noPay 40 = .ok (.iconst 0, 1) := by decide +kernel
theorem dX9_noPay_41 : decode cX9_noPay 41 = .ok (.ireturn, 1) := by decide +kernel
theorem dX9_fewest_0 : decode cX9_fewest 0 = .ok (.aload_n 0, 1) := by decide +kernel
theorem dX9_fewest_1 : decode cX9_fewest 1 = .ok (.iconst 0, 1) := by decide +kernel
theorem dX9_fewest_2 : decode cX9_fewest 2 = .ok (.putfield 108, 3) := by decide +kernel
theorem dX9_fewest_5 : decode cX9_fewest 5 = .ok (.iload_n 1, 1) := by decide +kernel
theorem dX9_fewest_6 : decode cX9_fewest 6 = .ok (.iload_n 2, 1) := by decide +kernel
theorem dX9_fewest_7 : decode cX9_fewest 7 = .ok (.iload_n 3, 1) := by decide +kernel
theorem dX9_fewest_8 : decode cX9_fewest 8 = .ok (.invokestatic 216, 3) := by decide +kernel
theorem dX9_fewest_11 : decode cX9_fewest 11 = .ok (.istore 4, 2) := by decide +kernel
theorem dX9_fewest_13 : decode cX9_fewest 13 = .ok (.iload 4, 2) := by decide +kernel
theorem dX9_fewest_15 : decode cX9_fewest 15 = .ok (.ifCond .eq 8, 3) := by decide +kernel
theorem dX9_fewest_18 : decode cX9_fewest 18 = .ok (.iload 4, 2) := by decide +kernel
theorem dX9_fewest_20 : decode cX9_fewest 20 = .ok (.goto 10, 3) := by decide +kernel
theorem dX9_fewest_23 : decode cX9_fewest 23 = .ok (.aload_n 0, 1) := by decide +kernel
theorem dX9_fewest_24 : decode cX9_fewest 24 = .ok (.iload_n 1, 1) := by decide +kernel
theorem dX9_fewest_25 : decode cX9_fewest 25 = .ok (.iload_n 2, 1) := by decide +kernel
theorem dX9_fewest_26 : decode cX9_fewest 26 = .ok (.iload_n 3, 1) := by decide +kernel
theorem dX9_fewest_27 : decode cX9_fewest 27 = .ok (.invokevirtual 220, 3) := by decide +kernel
theorem dX9_fewest_30 : decode cX9_fewest 30 = .ok (.ireturn, 1) := by decide +kernel
theorem dX9_paid_0 : decode cX9_paid 0 = .ok (.aload_n 0, 1) := by decide +kernel
theorem dX9_paid_1 : decode cX9_paid 1 = .ok (.iconst 0, 1) := by decide +kernel
theorem dX9_paid_2 : decode cX9_paid 2 = .ok (.putfield 108, 3) := by decide +kernel
theorem dX9_paid_5 : decode cX9_paid 5 = .ok (.iload_n 1, 1) := by decide +kernel
theorem dX9_paid_6 : decode cX9_paid 6 = .ok (.iload_n 2, 1) := by decide +kernel
theorem dX9_paid_7 : decode cX9_paid 7 = .ok (.iload_n 3, 1) := by decide +kernel
theorem dX9_paid_8 : decode cX9_paid 8 = .ok (.invokestatic 216, 3) := by decide +kernel
theorem dX9_paid_11 : decode cX9_paid 11 = .ok (.istore 5, 2) := by decide +kernel
theorem dX9_paid_13 : decode cX9_paid 13 = .ok (.iload 5, 2) := by decide +kernel
theorem dX9_paid_15 : decode cX9_paid 15 = .ok (.ifCond .eq 6, 3) := by decide +kernel
theorem dX9_paid_18 : decode cX9_paid 18 = .ok (.iload 5, 2) := by decide +kernel
theorem dX9_paid_20 : decode cX9_paid 20 = .ok (.ireturn, 1) := by decide +kernel
theorem dX9_paid_21 : decode cX9_paid 21 = .ok (.aload_n 0, 1) := by decide +kernel
theorem dX9_paid_22 : decode cX9_paid 22 = .ok (.iload_n 1, 1) := by decide +kernel
theorem dX9_paid_23 : decode cX9_paid 23 = .ok (.iload_n 2, 1) := by decide +kernel
theorem dX9_paid_24 : decode cX9_paid 24 = .ok (.iload_n 3, 1) := by decide +kernel
theorem dX9_paid_25 : decode cX9_paid 25 = .ok (.invokevirtual 220, 3) := by decide +kernel
theorem dX9_paid_28 : decode cX9_paid 28 = .ok (.bipush (-9), 2) := by decide +kernel
theorem dX9_paid_30 : decode cX9_paid 30 = .ok (.if_icmp .ne 8, 3) := by decide +kernel
theorem dX9_paid_33 : decode cX9_paid 33 = .ok (.bipush (-9), 2) := by decide +kernel
theorem dX9_paid_35 : decode cX9_paid 35 = .ok (.goto 19, 3) := by decide +kernel
theorem dX9_paid_38 : decode cX9_paid 38 = .ok (.iload 4, 2) := by decide +kernel
theorem dX9_paid_40 : decode cX9_paid 40 = .ok (.ifCond .eq 10, 3) := by decide +kernel
theorem dX9_paid_43 : decode cX9_paid 43 = .ok (.aload_n 0, 1) := by decide +kernel
theorem dX9_paid_44 : decode cX9_paid 44 = .ok (.getfield 208, 3) := by decide +kernel
theorem dX9_paid_47 : decode cX9_paid 47 = .ok (.goto 7, 3) := by decide +kernel
theorem dX9_paid_50 : decode cX9_paid 50 = .ok (.aload_n 0, 1) := by decide +kernel
theorem dX9_paid_51 : decode cX9_paid 51 = .ok (.getfield 205, 3) := by decide +kernel
theorem dX9_paid_54 : decode cX9_paid 54 = .ok (.ireturn, 1) := by decide +kernel
theorem dX9_lay_0 : decode cX9_lay 0 = .ok (.aload_n 1, 1) := by decide +kernel
theorem dX9_lay_1 : decode cX9_lay 1 = .ok (.iload_n 2, 1) := by decide +kernel
theorem dX9_lay_2 : decode cX9_lay 2 = .ok (.aload_n 0, 1) := by decide +kernel
theorem dX9_lay_3 : decode cX9_lay 3 = .ok (.getfield 111, 3) := by decide +kernel
theorem dX9_lay_6 : decode cX9_lay 6 = .ok (.iastore, 1) := by decide +kernel
theorem dX9_lay_7 : decode cX9_lay 7 = .ok (.iconst 0, 1) := by decide +kernel
theorem dX9_lay_8 : decode cX9_lay 8 = .ok (.istore_n 3, 1) := by decide +kernel
theorem dX9_lay_9 : decode cX9_lay 9 = .ok (.iload_n 3, 1) := by decide +kernel
theorem dX9_lay_10 : decode cX9_lay 10 = .ok (.bipush 10, 2) := by decide +kernel
theorem dX9_lay_12 : decode cX9_lay 12 = .ok (.if_icmp .ge 64, 3) := by decide +kernel
theorem dX9_lay_15 : decode cX9_lay 15 = .ok (.aload_n 1, 1) := by decide +kernel
theorem dX9_lay_16 : decode cX9_lay 16 = .ok (.iload_n 2, 1) := by decide +kernel
theorem dX9_lay_17 : decode cX9_lay 17 = .ok (.iconst 1, 1) := by decide +kernel
theorem dX9_lay_18 : decode cX9_lay 18 = .ok (.iadd, 1) := by decide +kernel
theorem dX9_lay_19 : decode cX9_lay 19 = .ok (.iload_n 3, 1) := by decide +kernel
theorem dX9_lay_20 : decode cX9_lay 20 = .ok (.iadd, 1) := by decide +kernel
theorem dX9_lay_21 : decode cX9_lay 21 = .ok (.aload_n 0, 1) := by decide +kernel
theorem dX9_lay_22 : decode cX9_lay 22 = .ok (.getfield 20, 3) := by decide +kernel
theorem dX9_lay_25 : decode cX9_lay 25 = .ok (.iload_n 3, 1) := by decide +kernel
theorem dX9_lay_26 : decode cX9_lay 26 = .ok (.iaload, 1) := by decide +kernel
theorem dX9_lay_27 : decode cX9_lay 27 = .ok (.iastore, 1) := by decide +kernel
theorem dX9_lay_28 : decode cX9_lay 28 = .ok (.aload_n 1, 1) := by decide +kernel
theorem dX9_lay_29 : decode cX9_lay 29 = .ok (.iload_n 2, 1) := by decide +kernel
theorem dX9_lay_30 : decode cX9_lay 30 = .ok (.bipush 11, 2) := by decide +kernel
theorem dX9_lay_32 : decode cX9_lay 32 = .ok (.iadd, 1) := by decide +kernel
theorem dX9_lay_33 : decode cX9_lay 33 = .ok (.iload_n 3, 1) := by decide +kernel
theorem dX9_lay_34 : decode cX9_lay 34 = .ok (.iadd, 1) := by decide +kernel
theorem dX9_lay_35 : decode cX9_lay 35 = .ok (.aload_n 0, 1) := by decide +kernel
theorem dX9_lay_36 : decode cX9_lay 36 = .ok (.getfield 27, 3) := by decide +kernel
theorem dX9_lay_39 : decode cX9_lay 39 = .ok (.iload_n 3, 1) := by decide +kernel
theorem dX9_lay_40 : decode cX9_lay 40 = .ok (.iaload, 1) := by decide +kernel
theorem dX9_lay_41 : decode cX9_lay 41 = .ok (.iastore, 1) := by decide +kernel
theorem dX9_lay_42 : decode cX9_lay 42 = .ok (.aload_n 1, 1) := by decide +kernel
theorem dX9_lay_43 : decode cX9_lay 43 = .ok (.iload_n 2, 1) := by decide +kernel
theorem dX9_lay_44 : decode cX9_lay 44 = .ok (.bipush 21, 2) := by decide +kernel
theorem dX9_lay_46 : decode cX9_lay 46 = .ok (.iadd, 1) := by decide +kernel
theorem dX9_lay_47 : decode cX9_lay 47 = .ok (.iload_n 3, 1) := by decide +kernel
theorem dX9_lay_48 : decode cX9_lay 48 = .ok (.iadd, 1) := by decide +kernel
theorem dX9_lay_49 : decode cX9_lay 49 = .ok (.aload_n 0, 1) := by decide +kernel
theorem dX9_lay_50 : decode cX9_lay 50 = .ok (.getfield 30, 3) := by decide +kernel
theorem dX9_lay_53 : decode cX9_lay 53 = .ok (.iload_n 3, 1) := by decide +kernel
theorem dX9_lay_54 : decode cX9_lay 54 = .ok (.iaload, 1) := by decide +kernel
theorem dX9_lay_55 : decode cX9_lay 55 = .ok (.iastore, 1) := by decide +kernel
theorem dX9_lay_56 : decode cX9_lay 56 = .ok (.aload_n 1, 1) := by decide +kernel
theorem dX9_lay_57 : decode cX9_lay 57 = .ok (.iload_n 2, 1) := by decide +kernel
theorem dX9_lay_58 : decode cX9_lay 58 = .ok (.bipush 31, 2) := by decide +kernel
theorem dX9_lay_60 : decode cX9_lay 60 = .ok (.iadd, 1) := by decide +kernel
theorem dX9_lay_61 : decode cX9_lay 61 = .ok (.iload_n 3, 1) := by decide +kernel
theorem dX9_lay_62 : decode cX9_lay 62 = .ok (.iadd, 1) := by decide +kernel
theorem dX9_lay_63 : decode cX9_lay 63 = .ok (.aload_n 0, 1) := by decide +kernel
theorem dX9_lay_64 : decode cX9_lay 64 = .ok (.getfield 39, 3) := by decide +kernel
theorem dX9_lay_67 : decode cX9_lay 67 = .ok (.iload_n 3, 1) := by decide +kernel
theorem dX9_lay_68 : decode cX9_lay 68 = .ok (.iaload, 1) := by decide +kernel
theorem dX9_lay_69 : decode cX9_lay 69 = .ok (.iastore, 1) := by decide +kernel
theorem dX9_lay_70 : decode cX9_lay 70 = .ok (.iinc 3 1, 3) := by decide +kernel
theorem dX9_lay_73 : decode cX9_lay 73 = .ok (.goto (-64), 3) := by decide +kernel
theorem dX9_lay_76 : decode cX9_lay 76 = .ok (.iconst 0, 1) := by decide +kernel
theorem dX9_lay_77 : decode cX9_lay 77 = .ok (.istore_n 3, 1) := by decide +kernel
theorem dX9_lay_78 : decode cX9_lay 78 = .ok (.iload_n 3, 1) := by decide +kernel
theorem dX9_lay_79 : decode cX9_lay 79 = .ok (.bipush 80, 2) := by decide +kernel
theorem dX9_lay_81 : decode cX9_lay 81 = .ok (.if_icmp .ge 23, 3) := by decide +kernel
theorem dX9_lay_84 : decode cX9_lay 84 = .ok (.aload_n 1, 1) := by decide +kernel
theorem dX9_lay_85 : decode cX9_lay 85 = .ok (.iload_n 2, 1) := by decide +kernel
theorem dX9_lay_86 : decode cX9_lay 86 = .ok (.bipush 41, 2) := by decide +kernel
theorem dX9_lay_88 : decode cX9_lay 88 = .ok (.iadd, 1) := by decide +kernel
theorem dX9_lay_89 : decode cX9_lay 89 = .ok (.iload_n 3, 1) := by decide +kernel
theorem dX9_lay_90 : decode cX9_lay 90 = .ok (.iadd, 1) := by decide +kernel
theorem dX9_lay_91 : decode cX9_lay 91 = .ok (.aload_n 0, 1) := by decide +kernel
theorem dX9_lay_92 : decode cX9_lay 92 = .ok (.getfield 42, 3) := by decide +kernel
theorem dX9_lay_95 : decode cX9_lay 95 = .ok (.iload_n 3, 1) := by decide +kernel
theorem dX9_lay_96 : decode cX9_lay 96 = .ok (.iaload, 1) := by decide +kernel
theorem dX9_lay_97 : decode cX9_lay 97 = .ok (.iastore, 1) := by decide +kernel
theorem dX9_lay_98 : decode cX9_lay 98 = .ok (.iinc 3 1, 3) := by decide +kernel
theorem dX9_lay_101 : decode cX9_lay 101 = .ok (.goto (-23), 3) := by decide +kernel
theorem dX9_lay_104 : decode cX9_lay 104 = .ok (.return_, 1) := by decide +kernel
theorem dX9_take_0 : decode cX9_take 0 = .ok (.iconst 0, 1) := by decide +kernel
theorem dX9_take_1 : decode cX9_take 1 = .ok (.istore_n 3, 1) := by decide +kernel
theorem dX9_take_2 : decode cX9_take 2 = .ok (.iload_n 3, 1) := by decide +kernel
theorem dX9_take_3 : decode cX9_take 3 = .ok (.aload_n 1, 1) := by decide +kernel
theorem dX9_take_4 : decode cX9_take 4 = .ok (.iload_n 2, 1) := by decide +kernel
theorem dX9_take_5 : decode cX9_take 5 = .ok (.iaload, 1) := by decide +kernel
theorem dX9_take_6 : decode cX9_take 6 = .ok (.if_icmp .ge 106, 3) := by decide +kernel
theorem dX9_take_9 : decode cX9_take 9 = .ok (.aload_n 0, 1) := by decide +kernel
theorem dX9_take_10 : decode cX9_take 10 = .ok (.getfield 20, 3) := by decide +kernel
theorem dX9_take_13 : decode cX9_take 13 = .ok (.iload_n 3, 1) := by decide +kernel
theorem dX9_take_14 : decode cX9_take 14 = .ok (.aload_n 1, 1) := by decide +kernel
theorem dX9_take_15 : decode cX9_take 15 = .ok (.iload_n 2, 1) := by decide +kernel
theorem dX9_take_16 : decode cX9_take 16 = .ok (.iconst 1, 1) := by decide +kernel
theorem dX9_take_17 : decode cX9_take 17 = .ok (.iadd, 1) := by decide +kernel
theorem dX9_take_18 : decode cX9_take 18 = .ok (.iload_n 3, 1) := by decide +kernel
theorem dX9_take_19 : decode cX9_take 19 = .ok (.iadd, 1) := by decide +kernel
theorem dX9_take_20 : decode cX9_take 20 = .ok (.iaload, 1) := by decide +kernel
theorem dX9_take_21 : decode cX9_take 21 = .ok (.iastore, 1) := by decide +kernel
theorem dX9_take_22 : decode cX9_take 22 = .ok (.aload_n 0, 1) := by decide +kernel
theorem dX9_take_23 : decode cX9_take 23 = .ok (.getfield 27, 3) := by decide +kernel
theorem dX9_take_26 : decode cX9_take 26 = .ok (.iload_n 3, 1) := by decide +kernel
theorem dX9_take_27 : decode cX9_take 27 = .ok (.aload_n 1, 1) := by decide +kernel
theorem dX9_take_28 : decode cX9_take 28 = .ok (.iload_n 2, 1) := by decide +kernel
theorem dX9_take_29 : decode cX9_take 29 = .ok (.bipush 11, 2) := by decide +kernel
theorem dX9_take_31 : decode cX9_take 31 = .ok (.iadd, 1) := by decide +kernel
theorem dX9_take_32 : decode cX9_take 32 = .ok (.iload_n 3, 1) := by decide +kernel
theorem dX9_take_33 : decode cX9_take 33 = .ok (.iadd, 1) := by decide +kernel
theorem dX9_take_34 : decode cX9_take 34 = .ok (.iaload, 1) := by decide +kernel
theorem dX9_take_35 : decode cX9_take 35 = .ok (.iastore, 1) := by decide +kernel
theorem dX9_take_36 : decode cX9_take 36 = .ok (.aload_n 0, 1) := by decide +kernel
theorem dX9_take_37 : decode cX9_take 37 = .ok (.getfield 30, 3) := by decide +kernel
theorem dX9_take_40 : decode cX9_take 40 = .ok (.iload_n 3, 1) := by decide +kernel
theorem dX9_take_41 : decode cX9_take 41 = .ok (.aload_n 1, 1) := by decide +kernel
theorem dX9_take_42 : decode cX9_take 42 = .ok (.iload_n 2, 1) := by decide +kernel
theorem dX9_take_43 : decode cX9_take 43 = .ok (.bipush 21, 2) := by decide +kernel
theorem dX9_take_45 : decode cX9_take 45 = .ok (.iadd, 1) := by decide +kernel
theorem dX9_take_46 : decode cX9_take 46 = .ok (.iload_n 3, 1) := by decide +kernel
theorem dX9_take_47 : decode cX9_take 47 = .ok (.iadd, 1) := by decide +kernel
theorem dX9_take_48 : decode cX9_take 48 = .ok (.iaload, 1) := by decide +kernel
theorem dX9_take_49 : decode cX9_take 49 = .ok (.iastore, 1) := by decide +kernel
theorem dX9_take_50 : decode cX9_take 50 = .ok (.aload_n 0, 1) := by decide +kernel
theorem dX9_take_51 : decode cX9_take 51 = .ok (.getfield 39, 3) := by decide +kernel
theorem dX9_take_54 : decode cX9_take 54 = .ok (.iload_n 3, 1) := by decide +kernel
theorem dX9_take_55 : decode cX9_take 55 = .ok (.aload_n 1, 1) := by decide +kernel
theorem dX9_take_56 : decode cX9_take 56 = .ok (.iload_n 2, 1) := by decide +kernel
theorem dX9_take_57 : decode cX9_take 57 = .ok (.bipush 31, 2) := by decide +kernel
theorem dX9_take_59 : decode cX9_take 59 = .ok (.iadd, 1) := by decide +kernel
theorem dX9_take_60 : decode cX9_take 60 = .ok (.iload_n 3, 1) := by decide +kernel
theorem dX9_take_61 : decode cX9_take 61 = .ok (.iadd, 1) := by decide +kernel
theorem dX9_take_62 : decode cX9_take 62 = .ok (.iaload, 1) := by decide +kernel
theorem dX9_take_63 : decode cX9_take 63 = .ok (.iastore, 1) := by decide +kernel
theorem dX9_take_64 : decode cX9_take 64 = .ok (.iconst 0, 1) := by decide +kernel
theorem dX9_take_65 : decode cX9_take 65 = .ok (.istore 4, 2) := by decide +kernel
theorem dX9_take_67 : decode cX9_take 67 = .ok (.iload 4, 2) := by decide +kernel
theorem dX9_take_69 : decode cX9_take 69 = .ok (.bipush 8, 2) := by decide +kernel
theorem dX9_take_71 : decode cX9_take 71 = .ok (.if_icmp .ge 35, 3) := by decide +kernel
theorem dX9_take_74 : decode cX9_take 74 = .ok (.aload_n 0, 1) := by decide +kernel
theorem dX9_take_75 : decode cX9_take 75 = .ok (.getfield 42, 3) := by decide +kernel
theorem dX9_take_78 : decode cX9_take 78 = .ok (.bipush 8, 2) := by decide +kernel
theorem dX9_take_80 : decode cX9_take 80 = .ok (.iload_n 3, 1) := by decide +kernel
theorem dX9_take_81 : decode cX9_take 81 = .ok (.imul, 1) := by decide +kernel
theorem dX9_take_82 : decode cX9_take 82 = .ok (.iload 4, 2) := by decide +kernel
theorem dX9_take_84 : decode cX9_take 84 = .ok (.iadd, 1) := by decide +kernel
theorem dX9_take_85 : decode cX9_take 85 = .ok (.aload_n 1, 1) := by decide +kernel
theorem dX9_take_86 : decode cX9_take 86 = .ok (.iload_n 2, 1) := by decide +kernel
theorem dX9_take_87 : decode cX9_take 87 = .ok (.bipush 41, 2) := by decide +kernel
theorem dX9_take_89 : decode cX9_take 89 = .ok (.iadd, 1) := by decide +kernel
theorem dX9_take_90 : decode cX9_take 90 = .ok (.bipush 8, 2) := by decide +kernel
theorem dX9_take_92 : decode cX9_take 92 = .ok (.iload_n 3, 1) := by decide +kernel
theorem dX9_take_93 : decode cX9_take 93 = .ok (.imul, 1) := by decide +kernel
theorem dX9_take_94 : decode cX9_take 94 = .ok (.iadd, 1) := by decide +kernel
theorem dX9_take_95 : decode cX9_take 95 = .ok (.iload 4, 2) := by decide +kernel
theorem dX9_take_97 : decode cX9_take 97 = .ok (.iadd, 1) := by decide +kernel
theorem dX9_take_98 : decode cX9_take 98 = .ok (.iaload, 1) := by decide +kernel
theorem dX9_take_99 : decode cX9_take 99 = .ok (.iastore, 1) := by decide +kernel
theorem dX9_take_100 : decode cX9_take 100 = .ok (.iinc 4 1, 3) := by decide +kernel
theorem dX9_take_103 : decode cX9_take 103 = .ok (.goto (-36), 3) := by decide +kernel
theorem dX9_take_106 : decode cX9_take 106 = .ok (.iinc 3 1, 3) := by decide +kernel
theorem dX9_take_109 : decode cX9_take 109 = .ok (.goto (-107), 3) := by decide +kernel
theorem dX9_take_112 : decode cX9_take 112 = .ok (.return_, 1) := by decide +kernel
theorem dX9_goOver_0 : decode cX9_goOver 0 = .ok (.iconst 0, 1) := by decide +kernel
theorem dX9_goOver_1 : decode cX9_goOver 1 = .ok (.istore_n 3, 1) := by decide +kernel
theorem dX9_goOver_2 : decode cX9_goOver 2 = .ok (.iload_n 3, 1) := by decide +kernel
theorem dX9_goOver_3 : decode cX9_goOver 3 = .ok (.aload_n 0, 1) := by decide +kernel
theorem dX9_goOver_4 : decode cX9_goOver 4 = .ok (.getfield 111, 3) := by decide +kernel
theorem dX9_goOver_7 : decode cX9_goOver 7 = .ok (.if_icmp .ge 67, 3) := by decide +kernel
theorem dX9_goOver_10 : decode cX9_goOver 10 = .ok (.iload_n 1, 1) := by decide +kernel
theorem dX9_goOver_11 : decode cX9_goOver 11 = .ok (.iload_n 3, 1) := by decide +kernel
theorem dX9_goOver_12 : decode cX9_goOver 12 = .ok (.invokestatic 186, 3) := by decide +kernel
theorem dX9_goOver_15 : decode cX9_goOver 15 = .ok (.ifCond .eq 53, 3) := by decide +kernel
theorem dX9_goOver_18 : decode cX9_goOver 18 = .ok (.aload_n 0, 1) := by decide +kernel
theorem dX9_goOver_19 : decode cX9_goOver 19 = .ok (.iload_n 3, 1) := by decide +kernel
theorem dX9_goOver_20 : decode cX9_goOver 20 = .ok (.invokevirtual 199, 3) := by decide +kernel
theorem dX9_goOver_23 : decode cX9_goOver 23 = .ok (.aload_n 0, 1) := by decide +kernel
theorem dX9_goOver_24 : decode cX9_goOver 24 = .ok (.getfield 30, 3) := by decide +kernel
theorem dX9_goOver_27 : decode cX9_goOver 27 = .ok (.iload_n 3, 1) := by decide +kernel
theorem dX9_goOver_28 : decode cX9_goOver 28 = .ok (.iload_n 2, 1) := by decide +kernel
theorem dX9_goOver_29 : decode cX9_goOver 29 = .ok (.iastore, 1) := by decide +kernel
theorem dX9_goOver_30 : decode cX9_goOver 30 = .ok (.aload_n 0, 1) := by decide +kernel
theorem dX9_goOver_31 : decode cX9_goOver 31 = .ok (.getfield 39, 3) := by decide +kernel
theorem dX9_goOver_34 : decode cX9_goOver 34 = .ok (.iload_n 3, 1) := by decide +kernel
theorem dX9_goOver_35 : decode cX9_goOver 35 = .ok (.iaload, 1) := by decide +kernel
theorem dX9_goOver_36 : decode cX9_goOver 36 = .ok (.bipush 8, 2) := by decide +kernel
theorem dX9_goOver_38 : decode cX9_goOver 38 = .ok (.if_icmp .ge 30, 3) := by decide +kernel
theorem dX9_goOver_41 : decode cX9_goOver 41 = .ok (.aload_n 0, 1) := by decide +kernel
theorem dX9_goOver_42 : decode cX9_goOver 42 = .ok (.getfield 42, 3) := by decide +kernel
theorem dX9_goOver_45 : decode cX9_goOver 45 = .ok (.bipush 8, 2) := by decide +kernel
theorem dX9_goOver_47 : decode cX9_goOver 47 = .ok (.iload_n 3, 1) := by decide +kernel
theorem dX9_goOver_48 : decode cX9_goOver 48 = .ok (.imul, 1) := by decide +kernel
theorem dX9_goOver_49 : decode cX9_goOver 49 = .ok (.aload_n 0, 1) := by decide +kernel
theorem dX9_goOver_50 : decode cX9_goOver 50 = .ok (.getfield 39, 3) := by decide +kernel
theorem dX9_goOver_53 : decode cX9_goOver 53 = .ok (.iload_n 3, 1) := by decide +kernel
theorem dX9_goOver_54 : decode cX9_goOver 54 = .ok (.iaload, 1) := by decide +kernel
theorem dX9_goOver_55 : decode cX9_goOver 55 = .ok (.iadd, 1) := by decide +kernel
theorem dX9_goOver_56 : decode cX9_goOver 56 = .ok (.iload_n 2, 1) := by decide +kernel
theorem dX9_goOver_57 : decode cX9_goOver 57 = .ok (.iastore, 1) := by decide +kernel
theorem dX9_goOver_58 : decode cX9_goOver 58 = .ok (.aload_n 0, 1) := by decide +kernel
theorem dX9_goOver_59 : decode cX9_goOver 59 = .ok (.getfield 39, 3) := by decide +kernel
theorem dX9_goOver_62 : decode cX9_goOver 62 = .ok (.iload_n 3, 1) := by decide +kernel
theorem dX9_goOver_63 : decode cX9_goOver 63 = .ok (.dup2, 1) := by decide +kernel
theorem dX9_goOver_64 : decode cX9_goOver 64 = .ok (.iaload, 1) := by decide +kernel
theorem dX9_goOver_65 : decode cX9_goOver 65 = .ok (.iconst 1, 1) := by decide +kernel
theorem dX9_goOver_66 : decode cX9_goOver 66 = .ok (.iadd, 1) := by decide +kernel
theorem dX9_goOver_67 : decode cX9_goOver 67 = .ok (.iastore, 1) := by decide +kernel
theorem dX9_goOver_68 : decode cX9_goOver 68 = .ok (.iinc 3 1, 3) := by decide +kernel
theorem dX9_goOver_71 : decode cX9_goOver 71 = .ok (.goto (-69), 3) := by decide +kernel
theorem dX9_goOver_74 : decode cX9_goOver 74 = .ok (.return_, 1) := by decide +kernel
theorem dX9_pay_0 : decode cX9_pay 0 = .ok (.aload_n 0, 1) := by decide +kernel
theorem dX9_pay_1 : decode cX9_pay 1 = .ok (.iconst 0, 1) := by decide +kernel
theorem dX9_pay_2 : decode cX9_pay 2 = .ok (.putfield 108, 3) := by decide +kernel
theorem dX9_pay_5 : decode cX9_pay 5 = .ok (.iload_n 1, 1) := by decide +kernel
theorem dX9_pay_6 : decode cX9_pay 6 = .ok (.iload_n 2, 1) := by decide +kernel
theorem dX9_pay_7 : decode cX9_pay 7 = .ok (.iload_n 3, 1) := by decide +kernel
theorem dX9_pay_8 : decode cX9_pay 8 = .ok (.invokestatic 216, 3) := by decide +kernel
theorem dX9_pay_11 : decode cX9_pay 11 = .ok (.istore 4, 2) := by decide +kernel
theorem dX9_pay_13 : decode cX9_pay 13 = .ok (.iload 4, 2) := by decide +kernel
theorem dX9_pay_15 : decode cX9_pay 15 = .ok (.ifCond .eq 6, 3) := by decide +kernel
theorem dX9_pay_18 : decode cX9_pay 18 = .ok (.iload 4, 2) := by decide +kernel
theorem dX9_pay_20 : decode cX9_pay 20 = .ok (.ireturn, 1) := by decide +kernel
theorem dX9_pay_21 : decode cX9_pay 21 = .ok (.aload_n 0, 1) := by decide +kernel
theorem dX9_pay_22 : decode cX9_pay 22 = .ok (.iload_n 1, 1) := by decide +kernel
theorem dX9_pay_23 : decode cX9_pay 23 = .ok (.iload_n 2, 1) := by decide +kernel
theorem dX9_pay_24 : decode cX9_pay 24 = .ok (.iload_n 3, 1) := by decide +kernel
theorem dX9_pay_25 : decode cX9_pay 25 = .ok (.invokevirtual 220, 3) := by decide +kernel
theorem dX9_pay_28 : decode cX9_pay 28 = .ok (.istore 5, 2) := by decide +kernel
theorem dX9_pay_30 : decode cX9_pay 30 = .ok (.iload 5, 2) := by decide +kernel
theorem dX9_pay_32 : decode cX9_pay 32 = .ok (.bipush (-9), 2) := by decide +kernel
theorem dX9_pay_34 : decode cX9_pay 34 = .ok (.if_icmp .ne 6, 3) := by decide +kernel
theorem dX9_pay_37 : decode cX9_pay 37 = .ok (.bipush (-3), 2) := by decide +kernel
theorem dX9_pay_39 : decode cX9_pay 39 = .ok (.ireturn, 1) := by decide +kernel
theorem dX9_pay_40 : decode cX9_pay 40 = .ok (.aload_n 0, 1) := by decide +kernel
theorem dX9_pay_41 : decode cX9_pay 41 = .ok (.getfield 169, 3) := by decide +kernel
theorem dX9_pay_44 : decode cX9_pay 44 = .ok (.bipush 8, 2) := by decide +kernel
theorem dX9_pay_46 : decode cX9_pay 46 = .ok (.if_icmp .ne 6, 3) := by decide +kernel
theorem dX9_pay_49 : decode cX9_pay 49 = .ok (.bipush (-4), 2) := by decide +kernel
theorem dX9_pay_51 : decode cX9_pay 51 = .ok (.ireturn, 1) := by decide +kernel
theorem dX9_pay_52 : decode cX9_pay 52 = .ok (.aload_n 0, 1) := by decide +kernel
theorem dX9_pay_53 : decode cX9_pay 53 = .ok (.aload_n 0, 1) := by decide +kernel
theorem dX9_pay_54 : decode cX9_pay 54 = .ok (.getfield 72, 3) := by decide +kernel
theorem dX9_pay_57 : decode cX9_pay 57 = .ok (.bipush 121, 2) := by decide +kernel
theorem dX9_pay_59 : decode cX9_pay 59 = .ok (.aload_n 0, 1) := by decide +kernel
theorem dX9_pay_60 : decode cX9_pay 60 = .ok (.getfield 169, 3) := by decide +kernel
theorem dX9_pay_63 : decode cX9_pay 63 = .ok (.imul, 1) := by decide +kernel
theorem dX9_pay_64 : decode cX9_pay 64 = .ok (.invokevirtual 223, 3) := by decide +kernel
theorem dX9_pay_67 : decode cX9_pay 67 = .ok (.aload_n 0, 1) := by decide +kernel
theorem dX9_pay_68 : decode cX9_pay 68 = .ok (.dup, 1) := by decide +kernel
theorem dX9_pay_69 : decode cX9_pay 69 = .ok (.getfield 169, 3) := by decide +kernel
theorem dX9_pay_72 : decode cX9_pay 72 = .ok (.iconst 1, 1) := by decide +kernel
theorem dX9_pay_73 : decode cX9_pay 73 = .ok (.iadd, 1) := by decide +kernel
theorem dX9_pay_74 : decode cX9_pay 74 = .ok (.putfield 169, 3) := by decide +kernel
theorem dX9_pay_77 : decode cX9_pay 77 = .ok (.aload_n 0, 1) := by decide +kernel
theorem dX9_pay_78 : decode cX9_pay 78 = .ok (.aload_n 0, 1) := by decide +kernel
theorem dX9_pay_79 : decode cX9_pay 79 = .ok (.getfield 205, 3) := by decide +kernel
theorem dX9_pay_82 : decode cX9_pay 82 = .ok (.iload_n 2, 1) := by decide +kernel
theorem dX9_pay_83 : decode cX9_pay 83 = .ok (.invokevirtual 227, 3) := by decide +kernel
theorem dX9_pay_86 : decode cX9_pay 86 = .ok (.aload_n 0, 1) := by decide +kernel
theorem dX9_pay_87 : decode cX9_pay 87 = .ok (.aload_n 0, 1) := by decide +kernel
theorem dX9_pay_88 : decode cX9_pay 88 = .ok (.getfield 208, 3) := by decide +kernel
theorem dX9_pay_91 : decode cX9_pay 91 = .ok (.iload_n 1, 1) := by decide +kernel
theorem dX9_pay_92 : decode cX9_pay 92 = .ok (.invokevirtual 227, 3) := by decide +kernel
theorem dX9_pay_95 : decode cX9_pay 95 = .ok (.iload 5, 2) := by decide +kernel
theorem dX9_pay_97 : decode cX9_pay 97 = .ok (.ireturn, 1) := by decide +kernel
theorem dX9_undo_0 : decode cX9_undo 0 = .ok (.aload_n 0, 1) := by decide +kernel
theorem dX9_undo_1 : decode cX9_undo 1 = .ok (.iconst 0, 1) := by decide +kernel
theorem dX9_undo_2 : decode cX9_undo 2 = .ok (.putfield 108, 3) := by decide +kernel
theorem dX9_undo_5 : decode cX9_undo 5 = .ok (.aload_n 0, 1) := by decide +kernel
theorem dX9_undo_6 : decode cX9_undo 6 = .ok (.getfield 169, 3) := by decide +kernel
theorem dX9_undo_9 : decode cX9_undo 9 = .ok (.ifCond .ne 6, 3) := by decide +kernel
theorem dX9_undo_12 : decode cX9_undo 12 = .ok (.bipush (-3), 2) := by decide +kernel
theorem dX9_undo_14 : decode cX9_undo 14 = .ok (.ireturn, 1) := by decide +kernel
theorem dX9_undo_15 : decode cX9_undo 15 = .ok (.aload_n 0, 1) := by decide +kernel
theorem dX9_undo_16 : decode cX9_undo 16 = .ok (.dup, 1) := by decide +kernel
theorem dX9_undo_17 : decode cX9_undo 17 = .ok (.getfield 169, 3) := by decide +kernel
theorem dX9_undo_20 : decode cX9_undo 20 = .ok (.iconst 1, 1) := by decide +kernel
theorem dX9_undo_21 : decode cX9_undo 21 = .ok (.isub, 1) := by decide +kernel
theorem dX9_undo_22 : decode cX9_undo 22 = .ok (.putfield 169, 3) := by decide +kernel
theorem dX9_undo_25 : decode cX9_undo 25 = .ok (.aload_n 0, 1) := by decide +kernel
theorem dX9_undo_26 : decode cX9_undo 26 = .ok (.aload_n 0, 1) := by decide +kernel
theorem dX9_undo_27 : decode cX9_undo 27 = .ok (.getfield 72, 3) := by decide +kernel
theorem dX9_undo_30 : decode cX9_undo 30 = .ok (.bipush 121, 2) := by decide +kernel
theorem dX9_undo_32 : decode cX9_undo 32 = .ok (.aload_n 0, 1) := by decide +kernel
theorem dX9_undo_33 : decode cX9_undo 33 = .ok (.getfield 169, 3) := by decide +kernel
theorem dX9_undo_36 : decode cX9_undo 36 = .ok (.imul, 1) := by decide +kernel
theorem dX9_undo_37 : decode cX9_undo 37 = .ok (.invokevirtual 231, 3) := by decide +kernel
theorem dX9_undo_40 : decode cX9_undo 40 = .ok (.aload_n 0, 1) := by decide +kernel
theorem dX9_undo_41 : decode cX9_undo 41 = .ok (.getfield 169, 3) := by decide +kernel
theorem dX9_undo_44 : decode cX9_undo 44 = .ok (.ireturn, 1) := by decide +kernel
theorem dX9_findMuch_0 : decode cX9_findMuch 0 = .ok (.aload_n 0, 1) := by decide +kernel
theorem dX9_findMuch_1 : decode cX9_findMuch 1 = .ok (.iload_n 1, 1) := by decide +kernel
theorem dX9_findMuch_2 : decode cX9_findMuch 2 = .ok (.invokevirtual 193, 3) := by decide +kernel
theorem dX9_findMuch_5 : decode cX9_findMuch 5 = .ok (.istore_n 3, 1) := by decide +kernel
theorem dX9_findMuch_6 : decode cX9_findMuch 6 = .ok (.bipush (-9), 2) := by decide +kernel
theorem dX9_findMuch_8 : decode cX9_findMuch 8 = .ok (.istore 4, 2) := by decide +kernel
theorem dX9_findMuch_10 : decode cX9_findMuch 10 = .ok (.iconst 0, 1) := by decide +kernel
theorem dX9_findMuch_11 : decode cX9_findMuch 11 = .ok (.istore 5, 2) := by decide +kernel
theorem dX9_findMuch_13 : decode cX9_findMuch 13 = .ok (.iconst 1, 1) := by decide +kernel
theorem dX9_findMuch_14 : decode cX9_findMuch 14 = .ok (.istore 6, 2) := by decide +kernel
theorem dX9_findMuch_16 : decode cX9_findMuch 16 = .ok (.iload 6, 2) := by decide +kernel
theorem dX9_findMuch_18 : decode cX9_findMuch 18 = .ok (.ifCond .eq 98, 3) := by decide +kernel
theorem dX9_findMuch_21 : decode cX9_findMuch 21 = .ok (.aload_n 0, 1) := by decide +kernel
theorem dX9_findMuch_22 : decode cX9_findMuch 22 = .ok (.iload 5, 2) := by decide +kernel
theorem dX9_findMuch_24 : decode cX9_findMuch 24 = .ok (.invokevirtual 196, 3) := by decide +kernel
theorem dX9_findMuch_27 : decode cX9_findMuch 27 = .ok (.istore 7, 2) := by decide +kernel
theorem dX9_findMuch_29 : decode cX9_findMuch 29 = .ok (.iload 4, 2) := by decide +kernel
theorem dX9_findMuch_31 : decode cX9_findMuch 31 = .ok (.bipush (-9), 2) := by decide +kernel
theorem dX9_findMuch_33 : decode cX9_findMuch 33 = .ok (.if_icmp .eq 32, 3) := by decide +kernel
theorem dX9_findMuch_36 : decode cX9_findMuch 36 = .ok (.iload 7, 2) := by decide +kernel
theorem dX9_findMuch_38 : decode cX9_findMuch 38 = .ok (.iload 4, 2) := by decide +kernel
theorem dX9_findMuch_40 : decode cX9_findMuch 40 = .ok (.if_icmp .lt 25, 3) := by decide +kernel
theorem dX9_findMuch_43 : decode cX9_findMuch 43 = .ok (.iload 7, 2) := by decide +kernel
theorem dX9_findMuch_45 : decode cX9_findMuch 45 = .ok (.iload 4, 2) := by decide +kernel
theorem dX9_findMuch_47 : decode cX9_findMuch 47 = .ok (.if_icmp .ne 22, 3) := by decide +kernel
theorem dX9_findMuch_50 : decode cX9_findMuch 50 = .ok (.iload 5, 2) := by decide +kernel
theorem dX9_findMuch_52 : decode cX9_findMuch 52 = .ok (.invokestatic 202, 3) := by decide +kernel
theorem dX9_findMuch_55 : decode cX9_findMuch 55 = .ok (.aload_n 0, 1) := by decide +kernel
theorem dX9_findMuch_56 : decode cX9_findMuch 56 = .ok (.getfield 234, 3) := by decide +kernel
theorem dX9_findMuch_59 : decode cX9_findMuch 59 = .ok (.invokestatic 202, 3) := by decide +kernel
theorem dX9_findMuch_62 : decode cX9_findMuch 62 = .ok (.if_icmp .ge 7, 3) := by decide +kernel
theorem dX9_findMuch_65 : decode cX9_findMuch 65 = .ok (.iconst 1, 1) := by decide +kernel
theorem dX9_findMuch_66 : decode cX9_findMuch 66 = .ok (.goto 4, 3) := by decide +kernel
theorem dX9_findMuch_69 : decode cX9_findMuch 69 = .ok (.iconst 0, 1) := by decide +kernel
theorem dX9_findMuch_70 : decode cX9_findMuch 70 = .ok (.istore 8, 2) := by decide +kernel
theorem dX9_findMuch_72 : decode cX9_findMuch 72 = .ok (.iload 7, 2) := by decide +kernel
theorem dX9_findMuch_74 : decode cX9_findMuch 74 = .ok (.iload_n 2, 1) := by decide +kernel
theorem dX9_findMuch_75 : decode cX9_findMuch 75 = .ok (.if_icmp .lt 18, 3) := by decide +kernel
theorem dX9_findMuch_78 : decode cX9_findMuch 78 = .ok (.iload 8, 2) := by decide +kernel
theorem dX9_findMuch_80 : decode cX9_findMuch 80 = .ok (.ifCond .eq 13, 3) := by decide +kernel
theorem dX9_findMuch_83 : decode cX9_findMuch 83 = .ok (.iload 7, 2) := by decide +kernel
theorem dX9_findMuch_85 : decode cX9_findMuch 85 = .ok (.istore 4, 2) := by decide +kernel
theorem dX9_findMuch_87 : decode cX9_findMuch 87 = .ok (.aload_n 0, 1) := by decide +kernel
theorem dX9_findMuch_88 : decode cX9_findMuch 88 = .ok (.iload 5, 2) := by decide +kernel
theorem dX9_findMuch_90 : decode cX9_findMuch 90 = .ok (.putfield 234, 3) := by decide +kernel
theorem dX9_findMuch_93 : decode cX9_findMuch 93 = .ok (.iload 5, 2) := by decide +kernel
theorem dX9_findMuch_95 : decode cX9_findMuch 95 = .ok (.iload_n 3, 1) := by decide +kernel
theorem dX9_findMuch_96 : decode cX9_findMuch 96 = .ok (.invokestatic 211, 3) := by decide +kernel
theorem dX9_findMuch_99 : decode cX9_findMuch 99 = .ok (.istore 5, 2) := by decide +kernel
theorem dX9_findMuch_101 : decode cX9_findMuch 101 = .ok (.iload 5, 2) := by decide +kernel
theorem dX9_findMuch_103 : decode cX9_findMuch 103 = .ok (.ifCond .eq 7, 3) := by decide +kernel
theorem dX9_findMuch_106 : decode cX9_findMuch 106 = .ok (.iconst 1, 1) := by decide +kernel
theorem dX9_findMuch_107 : decode cX9_findMuch 107 = .ok (.goto 4, 3) := by decide +kernel
theorem dX9_findMuch_110 : decode cX9_findMuch 110 = .ok (.iconst 0, 1) := by decide +kernel
theorem dX9_findMuch_111 : decode cX9_findMuch 111 = .ok (.istore 6, 2) := by decide +kernel
theorem dX9_findMuch_113 : decode cX9_findMuch 113 = .ok (.goto (-97), 3) := by decide +kernel
theorem dX9_findMuch_116 : decode cX9_findMuch 116 = .ok (.iload 4, 2) := by decide +kernel
theorem dX9_findMuch_118 : decode cX9_findMuch 118 = .ok (.ireturn, 1) := by decide +kernel
theorem dX9_tooMuch_0 : decode cX9_tooMuch 0 = .ok (.aload_n 0, 1) := by decide +kernel
theorem dX9_tooMuch_1 : decode cX9_tooMuch 1 = .ok (.iconst 0, 1) := by decide +kernel
theorem dX9_tooMuch_2 : decode cX9_tooMuch 2 = .ok (.putfield 108, 3) := by decide +kernel
theorem dX9_tooMuch_5 : decode cX9_tooMuch 5 = .ok (.iload_n 1, 1) := by decide +kernel
theorem dX9_tooMuch_6 : decode cX9_tooMuch 6 = .ok (.invokestatic 190, 3) := by decide +kernel
theorem dX9_tooMuch_9 : decode cX9_tooMuch 9 = .ok (.ifCond .eq 5, 3) := by decide +kernel
theorem dX9_tooMuch_12 : decode cX9_tooMuch 12 = .ok (.iconst (-1), 1) := by decide +kernel
theorem dX9_tooMuch_13 : decode cX9_tooMuch 13 = .ok (.ireturn, 1) := by decide +kernel
theorem dX9_tooMuch_14 : decode cX9_tooMuch 14 = .ok (.iload_n 2, 1) := by decide +kernel
theorem dX9_tooMuch_15 : decode cX9_tooMuch 15 = .ok (.i2l, 1) := by decide +kernel
theorem dX9_tooMuch_16 : decode cX9_tooMuch 16 = .ok (.lconst 0, 1) := by decide +kernel
theorem dX9_tooMuch_17 : decode cX9_tooMuch 17 = .ok (.ldc2_w 214, 3) := by decide +kernel
theorem dX9_tooMuch_20 : decode cX9_tooMuch 20 = .ok (.invokestatic 114, 3) := by decide +kernel
theorem dX9_tooMuch_23 : decode cX9_tooMuch 23 = .ok (.ifCond .ne 6, 3) := by decide +kernel
theorem dX9_tooMuch_26 : decode cX9_tooMuch 26 = .ok (.bipush (-2), 2) := by decide +kernel
theorem dX9_tooMuch_28 : decode cX9_tooMuch 28 = .ok (.ireturn, 1) := by decide +kernel
theorem dX9_tooMuch_29 : decode cX9_tooMuch 29 = .ok (.aload_n 0, 1) := by decide +kernel
theorem dX9_tooMuch_30 : decode cX9_tooMuch 30 = .ok (.iload_n 1, 1) := by decide +kernel
theorem dX9_tooMuch_31 : decode cX9_tooMuch 31 = .ok (.iload_n 2, 1) := by decide +kernel
theorem dX9_tooMuch_32 : decode cX9_tooMuch 32 = .ok (.invokevirtual 237, 3) := by decide +kernel
theorem dX9_tooMuch_35 : decode cX9_tooMuch 35 = .ok (.istore 4, 2) := by decide +kernel
theorem dX9_tooMuch_37 : decode cX9_tooMuch 37 = .ok (.iload 4, 2) := by decide +kernel
theorem dX9_tooMuch_39 : decode cX9_tooMuch 39 = .ok (.bipush (-9), 2) := by decide +kernel
theorem dX9_tooMuch_41 : decode cX9_tooMuch 41 = .ok (.if_icmp .eq 7, 3) := by decide +kernel
theorem dX9_tooMuch_44 : decode cX9_tooMuch 44 = .ok (.iload_n 3, 1) := by decide +kernel
theorem dX9_tooMuch_45 : decode cX9_tooMuch 45 = .ok (.ifCond .ne 8, 3) := by decide +kernel
theorem dX9_tooMuch_48 : decode cX9_tooMuch 48 = .ok (.iload 4, 2) := by decide +kernel
theorem dX9_tooMuch_50 : decode cX9_tooMuch 50 = .ok (.goto 7, 3) := by decide +kernel
theorem dX9_tooMuch_53 : decode cX9_tooMuch 53 = .ok (.aload_n 0, 1) := by decide +kernel
theorem dX9_tooMuch_54 : decode cX9_tooMuch 54 = .ok (.getfield 234, 3) := by decide +kernel
theorem dX9_tooMuch_57 : decode cX9_tooMuch 57 = .ok (.ireturn, 1) := by decide +kernel
theorem dX9_sums_0 : decode cX9_sums 0 = .ok (.aload_n 0, 1) := by decide +kernel
theorem dX9_sums_1 : decode cX9_sums 1 = .ok (.iconst 0, 1) := by decide +kernel
theorem dX9_sums_2 : decode cX9_sums 2 = .ok (.putfield 108, 3) := by decide +kernel
theorem dX9_sums_5 : decode cX9_sums 5 = .ok (.iload_n 1, 1) := by decide +kernel
theorem dX9_sums_6 : decode cX9_sums 6 = .ok (.iload_n 2, 1) := by decide +kernel
theorem dX9_sums_7 : decode cX9_sums 7 = .ok (.iconst 0, 1) := by decide +kernel
theorem dX9_sums_8 : decode cX9_sums 8 = .ok (.invokestatic 216, 3) := by decide +kernel
theorem dX9_sums_11 : decode cX9_sums 11 = .ok (.istore 4, 2) := by decide +kernel
theorem dX9_sums_13 : decode cX9_sums 13 = .ok (.iload 4, 2) := by decide +kernel
theorem dX9_sums_15 : decode cX9_sums 15 = .ok (.ifCond .eq 6, 3) := by decide +kernel
theorem dX9_sums_18 : decode cX9_sums 18 = .ok (.iload 4, 2) := by decide +kernel
theorem dX9_sums_20 : decode cX9_sums 20 = .ok (.ireturn, 1) := by decide +kernel
theorem dX9_sums_21 : decode cX9_sums 21 = .ok (.iload_n 3, 1) := by decide +kernel
theorem dX9_sums_22 : decode cX9_sums 22 = .ok (.i2l, 1) := by decide +kernel
theorem dX9_sums_23 : decode cX9_sums 23 = .ok (.lconst 1, 1) := by decide +kernel
theorem dX9_sums_24 : decode cX9_sums 24 = .ok (.ldc2_w 214, 3) := by decide +kernel
theorem dX9_sums_27 : decode cX9_sums 27 = .ok (.invokestatic 114, 3) := by decide +kernel
theorem dX9_sums_30 : decode cX9_sums 30 = .ok (.ifCond .ne 6, 3) := by decide +kernel
theorem dX9_sums_33 : decode cX9_sums 33 = .ok (.bipush (-2), 2) := by decide +kernel
theorem dX9_sums_35 : decode cX9_sums 35 = .ok (.ireturn, 1) := by decide +kernel
theorem dX9_sums_36 : decode cX9_sums 36 = .ok (.iconst 0, 1) := by decide +kernel
theorem dX9_sums_37 : decode cX9_sums 37 = .ok (.istore 5, 2) := by decide +kernel
theorem dX9_sums_39 : decode cX9_sums 39 = .ok (.iload 5, 2) := by decide +kernel
theorem dX9_sums_41 : decode cX9_sums 41 = .ok (.sipush 1000, 3) := by decide +kernel
theorem dX9_sums_44 : decode cX9_sums 44 = .ok (.if_icmp .ge 17, 3) := by decide +kernel
theorem dX9_sums_47 : decode cX9_sums 47 = .ok (.aload_n 0, 1) := by decide +kernel
theorem dX9_sums_48 : decode cX9_sums 48 = .ok (.getfield 105, 3) := by decide +kernel
theorem dX9_sums_51 : decode cX9_sums 51 = .ok (.iload 5, 2) := by decide +kernel
theorem dX9_sums_53 : decode cX9_sums 53 = .ok (.iconst 0, 1) := by decide +kernel
theorem dX9_sums_54 : decode cX9_sums 54 = .ok (.bastore, 1) := by decide +kernel
theorem dX9_sums_55 : decode cX9_sums 55 = .ok (.iinc 5 1, 3) := by decide +kernel
theorem dX9_sums_58 : decode cX9_sums 58 = .ok (.goto (-19), 3) := by decide +kernel
theorem dX9_sums_61 : decode cX9_sums 61 = .ok (.aload_n 0, 1) := by decide +kernel
theorem dX9_sums_62 : decode cX9_sums 62 = .ok (.iload_n 1, 1) := by decide +kernel
theorem dX9_sums_63 : decode cX9_sums 63 = .ok (.invokevirtual 193, 3) := by decide +kernel
theorem dX9_sums_66 : decode cX9_sums 66 = .ok (.istore 5, 2) := by decide +kernel
theorem dX9_sums_68 : decode cX9_sums 68 = .ok (.aload_n 0, 1) := by decide +kernel
theorem dX9_sums_69 : decode cX9_sums 69 = .ok (.iload_n 2, 1) := by decide +kernel
theorem dX9_sums_70 : decode cX9_sums 70 = .ok (.invokevirtual 193, 3) := by decide +kernel
theorem dX9_sums_73 : decode cX9_sums 73 = .ok (.istore 6, 2) := by decide +kernel
theorem dX9_sums_75 : decode cX9_sums 75 = .ok (.iconst 0, 1) := by decide +kernel
theorem dX9_sums_76 : decode cX9_sums 76 = .ok (.istore 7, 2) := by decide +kernel
theorem dX9_sums_78 : decode cX9_sums 78 = .ok (.iconst 1, 1) := by decide +kernel
theorem dX9_sums_79 : decode cX9_sums 79 = .ok (.istore 8, 2) := by decide +kernel
theorem dX9_sums_81 : decode cX9_sums 81 = .ok (.iload 8, 2) := by decide +kernel
theorem dX9_sums_83 : decode cX9_sums 83 = .ok (.ifCond .eq 97, 3) := by decide +kernel
theorem dX9_sums_86 : decode cX9_sums 86 = .ok (.iconst 0, 1) := by decide +kernel
theorem dX9_sums_87 : decode cX9_sums 87 = .ok (.istore 9, 2) := by decide +kernel
theorem dX9_sums_89 : decode cX9_sums 89 = .ok (.iconst 1, 1) := by decide +kernel
theorem dX9_sums_90 : decode cX9_sums 90 = .ok (.istore 10, 2) := by decide +kernel
theorem dX9_sums_92 : decode cX9_sums 92 = .ok (.iload 10, 2) := by decide +kernel
theorem dX9_sums_94 : decode cX9_sums 94 = .ok (.ifCond .eq 62, 3) := by decide +kernel
theorem dX9_sums_97 : decode cX9_sums 97 = .ok (.aload_n 0, 1) := by decide +kernel
theorem dX9_sums_98 : decode cX9_sums 98 = .ok (.iload 7, 2) := by decide +kernel
theorem dX9_sums_100 : decode cX9_sums 100 = .ok (.invokevirtual 196, 3) := by decide +kernel
theorem dX9_sums_103 : decode cX9_sums 103 = .ok (.aload_n 0, 1) := by decide +kernel
theorem dX9_sums_104 : decode cX9_sums 104 = .ok (.iload 9, 2) := by decide +kernel
theorem dX9_sums_106 : decode cX9_sums 106 = .ok (.invokevirtual 196, 3) := by decide +kernel
theorem dX9_sums_109 : decode cX9_sums 109 = .ok (.isub, 1) := by decide +kernel
theorem dX9_sums_110 : decode cX9_sums 110 = .ok (.istore 11, 2) := by decide +kernel
theorem dX9_sums_112 : decode cX9_sums 112 = .ok (.iload 11, 2) := by decide +kernel
theorem dX9_sums_114 : decode cX9_sums 114 = .ok (.i2l, 1) := by decide +kernel
theorem dX9_sums_115 : decode cX9_sums 115 = .ok (.lconst 1, 1) := by decide +kernel
theorem dX9_sums_116 : decode cX9_sums 116 = .ok (.iload_n 3, 1) := by decide +kernel
theorem dX9_sums_117 : decode cX9_sums 117 = .ok (.i2l, 1) := by decide +kernel
theorem dX9_sums_118 : decode cX9_sums 118 = .ok (.invokestatic 114, 3) := by decide +kernel
theorem dX9_sums_121 : decode cX9_sums 121 = .ok (.ifCond .eq 11, 3) := by decide +kernel
theorem dX9_sums_124 : decode cX9_sums 124 = .ok (.aload_n 0, 1) := by decide +kernel
theorem dX9_sums_125 : decode cX9_sums 125 = .ok (.getfield 105, 3) := by decide +kernel
theorem dX9_sums_128 : decode cX9_sums 128 = .ok (.iload 11, 2) := by decide +kernel
theorem dX9_sums_130 : decode cX9_sums 130 = .ok (.iconst 1, 1) := by decide +kernel
theorem dX9_sums_131 : decode cX9_sums 131 = .ok (.bastore, 1) := by decide +kernel
theorem dX9_sums_132 : decode cX9_sums 132 = .ok (.iload 9, 2) := by decide +kernel
theorem dX9_sums_134 : decode cX9_sums 134 = .ok (.iload 6, 2) := by decide +kernel
theorem dX9_sums_136 : decode cX9_sums 136 = .ok (.invokestatic 211, 3) := by decide +kernel
theorem dX9_sums_139 : decode cX9_sums 139 = .ok (.istore 9, 2) := by decide +kernel
theorem dX9_sums_141 : decode cX9_sums 141 = .ok (.iload 9, 2) := by decide +kernel
theorem dX9_sums_143 : decode cX9_sums 143 = .ok (.ifCond .eq 7, 3) := by decide +kernel
theorem dX9_sums_146 : decode cX9_sums 146 = .ok (.iconst 1, 1) := by decide +kernel
theorem dX9_sums_147 : decode cX9_sums 147 = .ok (.goto 4, 3) := by decide +kernel
theorem dX9_sums_150 : decode cX9_sums 150 = .ok (.iconst 0, 1) := by decide +kernel
theorem dX9_sums_151 : decode cX9_sums 151 = .ok (.istore 10, 2) := by decide +kernel
theorem dX9_sums_153 : decode cX9_sums 153 = .ok (.goto (-61), 3) := by decide +kernel
theorem dX9_sums_156 : decode cX9_sums 156 = .ok (.iload 7, 2) := by decide +kernel
theorem dX9_sums_158 : decode cX9_sums 158 = .ok (.iload 5, 2) := by decide +kernel
theorem dX9_sums_160 : decode cX9_sums 160 = .ok (.invokestatic 211, 3) := by decide +kernel
theorem dX9_sums_163 : decode cX9_sums 163 = .ok (.istore 7, 2) := by decide +kernel
theorem dX9_sums_165 : decode cX9_sums 165 = .ok (.iload 7, 2) := by decide +kernel
theorem dX9_sums_167 : decode cX9_sums 167 = .ok (.ifCond .eq 7, 3) := by decide +kernel
theorem dX9_sums_170 : decode cX9_sums 170 = .ok (.iconst 1, 1) := by decide +kernel
theorem dX9_sums_171 : decode cX9_sums 171 = .ok (.goto 4, 3) := by decide +kernel
theorem dX9_sums_174 : decode cX9_sums 174 = .ok (.iconst 0, 1) := by decide +kernel
theorem dX9_sums_175 : decode cX9_sums 175 = .ok (.istore 8, 2) := by decide +kernel
theorem dX9_sums_177 : decode cX9_sums 177 = .ok (.goto (-96), 3) := by decide +kernel
theorem dX9_sums_180 : decode cX9_sums 180 = .ok (.iconst 0, 1) := by decide +kernel
theorem dX9_sums_181 : decode cX9_sums 181 = .ok (.istore 9, 2) := by decide +kernel
theorem dX9_sums_183 : decode cX9_sums 183 = .ok (.iconst 1, 1) := by decide +kernel
theorem dX9_sums_184 : decode cX9_sums 184 = .ok (.istore 10, 2) := by decide +kernel
theorem dX9_sums_186 : decode cX9_sums 186 = .ok (.iload 10, 2) := by decide +kernel
theorem dX9_sums_188 : decode cX9_sums 188 = .ok (.iload_n 3, 1) := by decide +kernel
theorem dX9_sums_189 : decode cX9_sums 189 = .ok (.if_icmp .gt 29, 3) := by decide +kernel
theorem dX9_sums_192 : decode cX9_sums 192 = .ok (.iload 9, 2) := by decide +kernel
theorem dX9_sums_194 : decode cX9_sums 194 = .ok (.aload_n 0, 1) := by decide +kernel
theorem dX9_sums_195 : decode cX9_sums 195 = .ok (.getfield 105, 3) := by decide +kernel
theorem dX9_sums_198 : decode cX9_sums 198 = .ok (.iload 10, 2) := by decide +kernel
theorem dX9_sums_200 : decode cX9_sums 200 = .ok (.baload, 1) := by decide +kernel
theorem dX9_sums_201 : decode cX9_sums 201 = .ok (.ifCond .eq 7, 3) := by decide +kernel
theorem dX9_sums_204 : decode cX9_sums 204 = .ok (.iconst 1, 1) := by decide +kernel
theorem dX9_sums_205 : decode cX9_sums 205 = .ok (.goto 4, 3) := by decide +kernel
theorem dX9_sums_208 : decode cX9_sums 208 = .ok (.iconst 0, 1) := by decide +kernel
theorem dX9_sums_209 : decode cX9_sums 209 = .ok (.iadd, 1) := by decide +kernel
theorem dX9_sums_210 : decode cX9_sums 210 = .ok (.istore 9, 2) := by decide +kernel
theorem dX9_sums_212 : decode cX9_sums 212 = .ok (.iinc 10 1, 3) := by decide +kernel
theorem dX9_sums_215 : decode cX9_sums 215 = .ok (.goto (-29), 3) := by decide +kernel
theorem dX9_sums_218 : decode cX9_sums 218 = .ok (.iload 9, 2) := by decide +kernel
theorem dX9_sums_220 : decode cX9_sums 220 = .ok (.ireturn, 1) := by decide +kernel
theorem dX9_spent_0 : decode cX9_spent 0 = .ok (.aload_n 0, 1) := by decide +kernel
theorem dX9_spent_1 : decode cX9_spent 1 = .ok (.iconst 0, 1) := by decide +kernel
theorem dX9_spent_2 : decode cX9_spent 2 = .ok (.putfield 108, 3) := by decide +kernel
theorem dX9_spent_5 : decode cX9_spent 5 = .ok (.iload_n 1, 1) := by decide +kernel
theorem dX9_spent_6 : decode cX9_spent 6 = .ok (.invokestatic 190, 3) := by decide +kernel
theorem dX9_spent_9 : decode cX9_spent 9 = .ok (.ifCond .eq 5, 3) := by decide +kernel
theorem dX9_spent_12 : decode cX9_spent 12 = .ok (.iconst (-1), 1) := by decide +kernel
theorem dX9_spent_13 : decode cX9_spent 13 = .ok (.ireturn, 1) := by decide +kernel
theorem dX9_spent_14 : decode cX9_spent 14 = .ok (.aload_n 0, 1) := by decide +kernel
theorem dX9_spent_15 : decode cX9_spent 15 = .ok (.aload_n 0, 1) := by decide +kernel
theorem dX9_spent_16 : decode cX9_spent 16 = .ok (.iload_n 1, 1) := by decide +kernel
theorem dX9_spent_17 : decode cX9_spent 17 = .ok (.invokevirtual 193, 3) := by decide +kernel
theorem dX9_spent_20 : decode cX9_spent 20 = .ok (.invokevirtual 196, 3) := by decide +kernel
theorem dX9_spent_23 : decode cX9_spent 23 = .ok (.istore_n 3, 1) := by decide +kernel
theorem dX9_spent_24 : decode cX9_spent 24 = .ok (.iconst 0, 1) := by decide +kernel
theorem dX9_spent_25 : decode cX9_spent 25 = .ok (.istore 4, 2) := by decide +kernel
theorem dX9_spent_27 : decode cX9_spent 27 = .ok (.iconst 0, 1) := by decide +kernel
theorem dX9_spent_28 : decode cX9_spent 28 = .ok (.istore 5, 2) := by decide +kernel
theorem dX9_spent_30 : decode cX9_spent 30 = .ok (.iconst 0, 1) := by decide +kernel
theorem dX9_spent_31 : decode cX9_spent 31 = .ok (.istore 6, 2) := by decide +kernel
theorem dX9_spent_33 : decode cX9_spent 33 = .ok (.iconst 1, 1) := by decide +kernel
theorem dX9_spent_34 : decode cX9_spent 34 = .ok (.istore 7, 2) := by decide +kernel
theorem dX9_spent_36 : decode cX9_spent 36 = .ok (.iload 7, 2) := by decide +kernel
theorem dX9_spent_38 : decode cX9_spent 38 = .ok (.iconst 1, 1) := by decide +kernel
theorem dX9_spent_39 : decode cX9_spent 39 = .ok (.aload_n 0, 1) := by decide +kernel
theorem dX9_spent_40 : decode cX9_spent 40 = .ok (.getfield 162, 3) := by decide +kernel
theorem dX9_spent_43 : decode cX9_spent 43 = .ok (.ishl, 1) := by decide +kernel
theorem dX9_spent_44 : decode cX9_spent 44 = .ok (.if_icmp .ge 124, 3) := by decide +kernel
theorem dX9_spent_47 : decode cX9_spent 47 = .ok (.iconst 0, 1) := by decide +kernel
theorem dX9_spent_48 : decode cX9_spent 48 = .ok (.istore 8, 2) := by decide +kernel
theorem dX9_spent_50 : decode cX9_spent 50 = .ok (.iconst 0, 1) := by decide +kernel
theorem dX9_spent_51 : decode cX9_spent 51 = .ok (.istore 9, 2) := by decide +kernel
theorem dX9_spent_53 : decode cX9_spent 53 = .ok (.iconst 0, 1) := by decide +kernel
theorem dX9_spent_54 : decode cX9_spent 54 = .ok (.istore 10, 2) := by decide +kernel
theorem dX9_spent_56 : decode cX9_spent 56 = .ok (.iload 10, 2) := by decide +kernel
theorem dX9_spent_58 : decode cX9_spent 58 = .ok (.aload_n 0, 1) := by decide +kernel
theorem dX9_spent_59 : decode cX9_spent 59 = .ok (.getfield 162, 3) := by decide +kernel
theorem dX9_spent_62 : decode cX9_spent 62 = .ok (.if_icmp .ge 61, 3) := by decide +kernel
theorem dX9_spent_65 : decode cX9_spent 65 = .ok (.iload 8, 2) := by decide +kernel
theorem dX9_spent_67 : decode cX9_spent 67 = .ok (.iload 7, 2) := by decide +kernel
theorem dX9_spent_69 : decode cX9_spent 69 = .ok (.iload 10, 2) := by decide +kernel
theorem dX9_spent_71 : decode cX9_spent 71 = .ok (.invokestatic 186, 3) := by decide +kernel
theorem dX9_spent_74 : decode cX9_spent 74 = .ok (.ifCond .eq 13, 3) := by decide +kernel
theorem dX9_spent_77 : decode cX9_spent 77 = .ok (.aload_n 0, 1) := by decide +kernel
theorem dX9_spent_78 : decode cX9_spent 78 = .ok (.getfield 45, 3) := by decide +kernel
theorem dX9_spent_81 : decode cX9_spent 81 = .ok (.iload 10, 2) := by decide +kernel
theorem dX9_spent_83 : decode cX9_spent 83 = .ok (.iaload, 1) := by decide +kernel
theorem dX9_spent_84 : decode cX9_spent 84 = .ok (.goto 4, 3) := by decide +kernel
theorem dX9_spent_87 : decode cX9_spent 87 = .ok (.iconst 0, 1) := by decide +kernel
theorem dX9_spent_88 : decode cX9_spent 88 = .ok (.iadd, 1) := by decide +kernel
theorem dX9_spent_89 : decode cX9_spent 89 = .ok (.istore 8, 2) := by decide +kernel
theorem dX9_spent_91 : decode cX9_spent 91 = .ok (.iload 9, 2) := by decide +kernel
theorem dX9_spent_93 : decode cX9_spent 93 = .ok (.iload 7, 2) := by decide +kernel
theorem dX9_spent_95 : decode cX9_spent 95 = .ok (.iload 10, 2) := by decide +kernel
theorem dX9_spent_97 : decode cX9_spent 97 = .ok (.invokestatic 186, 3) := by decide +kernel
theorem dX9_spent_100 : decode cX9_spent 100 = .ok (.ifCond .eq 13, 3) := by decide +kernel
theorem dX9_spent_103 : decode cX9_spent 103 = .ok (.aload_n 0, 1) := by decide +kernel
theorem dX9_spent_104 : decode cX9_spent 104 = .ok (.getfield 48, 3) := by decide +kernel
theorem dX9_spent_107 : decode cX9_spent 107 = .ok (.iload 10, 2) := by decide +kernel
theorem dX9_spent_109 : decode cX9_spent 109 = .ok (.iaload, 1) := by decide +kernel
theorem dX9_spent_110 : decode cX9_spent 110 = .ok (.goto 4, 3) := by decide +kernel
theorem dX9_spent_113 : decode cX9_spent 113 = .ok (.iconst 0, 1) := by decide +kernel
theorem dX9_spent_114 : decode cX9_spent 114 = .ok (.iadd, 1) := by decide +kernel
theorem dX9_spent_115 : decode cX9_spent 115 = .ok (.istore 9, 2) := by decide +kernel
theorem dX9_spent_117 : decode cX9_spent 117 = .ok (.iinc 10 1, 3) := by decide +kernel
theorem dX9_spent_120 : decode cX9_spent 120 = .ok (.goto (-64), 3) := by decide +kernel
theorem dX9_spent_123 : decode cX9_spent 123 = .ok (.iload 8, 2) := by decide +kernel
theorem dX9_spent_125 : decode cX9_spent 125 = .ok (.iload_n 3, 1) := by decide +kernel
theorem dX9_spent_126 : decode cX9_spent 126 = .ok (.if_icmp .gt 36, 3) := by decide +kernel
theorem dX9_spent_129 : decode cX9_spent 129 = .ok (.iload 9, 2) := by decide +kernel
theorem dX9_spent_131 : decode cX9_spent 131 = .ok (.iload 4, 2) := by decide +kernel
theorem dX9_spent_133 : decode cX9_spent 133 = .ok (.if_icmp .gt 17, 3) := by decide +kernel
theorem dX9_spent_136 : decode cX9_spent 136 = .ok (.iload 9, 2) := by decide +kernel
theorem dX9_spent_138 : decode cX9_spent 138 = .ok (.iload 4, 2) := by decide +kernel
theorem dX9_spent_140 : decode cX9_spent 140 = .ok (.if_icmp .ne 22, 3) := by decide +kernel
theorem dX9_spent_143 : decode cX9_spent 143 = .ok (.iload 8, 2) := by decide +kernel
theorem dX9_spent_145 : decode cX9_spent 145 = .ok (.iload 5, 2) := by decide +kernel
theorem dX9_spent_147 : decode cX9_spent 147 = .ok (.if_icmp .ge 15, 3) := by decide +kernel
theorem dX9_spent_150 : decode cX9_spent 150 = .ok (.iload 9, 2) := by decide +kernel
theorem dX9_spent_152 : decode cX9_spent 152 = .ok (.istore 4, 2) := by decide +kernel
theorem dX9_spent_154 : decode cX9_spent 154 = .ok (.iload 8, 2) := by decide +kernel
theorem dX9_spent_156 : decode cX9_spent 156 = .ok (.istore 5, 2) := by decide +kernel
theorem dX9_spent_158 : decode cX9_spent 158 = .ok (.iload 7, 2) := by decide +kernel
theorem dX9_spent_160 : decode cX9_spent 160 = .ok (.istore 6, 2) := by decide +kernel
theorem dX9_spent_162 : decode cX9_spent 162 = .ok (.iinc 7 1, 3) := by decide +kernel
theorem dX9_spent_165 : decode cX9_spent 165 = .ok (.goto (-129), 3) := by decide +kernel
theorem dX9_spent_168 : decode cX9_spent 168 = .ok (.iload_n 2, 1) := by decide +kernel
theorem dX9_spent_169 : decode cX9_spent 169 = .ok (.ifCond .eq 8, 3) := by decide +kernel
theorem dX9_spent_172 : decode cX9_spent 172 = .ok (.iload 6, 2) := by decide +kernel
theorem dX9_spent_174 : decode cX9_spent 174 = .ok (.goto 5, 3) := by decide +kernel
theorem dX9_spent_177 : decode cX9_spent 177 = .ok (.iload 4, 2) := by decide +kernel
theorem dX9_spent_179 : decode cX9_spent 179 = .ok (.ireturn, 1) := by decide +kernel
theorem dX9_add_0 : decode cX9_add 0 = .ok (.lload_n 2, 1) := by decide +kernel
theorem dX9_add_1 : decode cX9_add 1 = .ok (.bipush 33, 2) := by decide +kernel
theorem dX9_add_3 : decode cX9_add 3 = .ok (.lushr, 1) := by decide +kernel
theorem dX9_add_4 : decode cX9_add 4 = .ok (.lstore 4, 2) := by decide +kernel
theorem dX9_add_6 : decode cX9_add 6 = .ok (.aload_n 0, 1) := by decide +kernel
theorem dX9_add_7 : decode cX9_add 7 = .ok (.getfield 20, 3) := by decide +kernel
theorem dX9_add_10 : decode cX9_add 10 = .ok (.aload_n 0, 1) := by decide +kernel
theorem dX9_add_11 : decode cX9_add 11 = .ok (.getfield 111, 3) := by decide +kernel
theorem dX9_add_14 : decode cX9_add 14 = .ok (.lload 4, 2) := by decide +kernel
theorem dX9_add_16 : decode cX9_add 16 = .ok (.ldc2_w 240, 3) := by decide +kernel
theorem dX9_add_19 : decode cX9_add 19 = .ok (.lrem, 1) := by decide +kernel
theorem dX9_add_20 : decode cX9_add 20 = .ok (.l2i, 1) := by decide +kernel
theorem dX9_add_21 : decode cX9_add 21 = .ok (.iconst 1, 1) := by decide +kernel
theorem dX9_add_22 : decode cX9_add 22 = .ok (.iadd, 1) := by decide +kernel
theorem dX9_add_23 : decode cX9_add 23 = .ok (.iastore, 1) := by decide +kernel
theorem dX9_add_24 : decode cX9_add 24 = .ok (.aload_n 0, 1) := by decide +kernel
theorem dX9_add_25 : decode cX9_add 25 = .ok (.getfield 23, 3) := by decide +kernel
theorem dX9_add_28 : decode cX9_add 28 = .ok (.aload_n 0, 1) := by decide +kernel
theorem dX9_add_29 : decode cX9_add 29 = .ok (.getfield 111, 3) := by decide +kernel
theorem dX9_add_32 : decode cX9_add 32 = .ok (.lload 4, 2) := by decide +kernel
theorem dX9_add_34 : decode cX9_add 34 = .ok (.ldc2_w 240, 3) := by decide +kernel
theorem dX9_add_37 : decode cX9_add 37 = .ok (.ldiv, 1) := by decide +kernel
theorem dX9_add_38 : decode cX9_add 38 = .ok (.ldc2_w 242, 3) := by decide +kernel
theorem dX9_add_41 : decode cX9_add 41 = .ok (.lrem, 1) := by decide +kernel
theorem dX9_add_42 : decode cX9_add 42 = .ok (.lconst 0, 1) := by decide +kernel
theorem dX9_add_43 : decode cX9_add 43 = .ok (.lcmp, 1) := by decide +kernel
theorem dX9_add_44 : decode cX9_add 44 = .ok (.ifCond .ne 7, 3) := by decide +kernel
theorem dX9_add_47 : decode cX9_add 47 = .ok (.iconst 1, 1) := by decide +kernel
theorem dX9_add_48 : decode cX9_add 48 = .ok (.goto 4, 3) := by decide +kernel
theorem dX9_add_51 : decode cX9_add 51 = .ok (.iconst 0, 1) := by decide +kernel
theorem dX9_add_52 : decode cX9_add 52 = .ok (.bastore, 1) := by decide +kernel
theorem dX9_add_53 : decode cX9_add 53 = .ok (.aload_n 0, 1) := by decide +kernel
theorem dX9_add_54 : decode cX9_add 54 = .ok (.getfield 27, 3) := by decide +kernel
theorem dX9_add_57 : decode cX9_add 57 = .ok (.aload_n 0, 1) := by decide +kernel
theorem dX9_add_58 : decode cX9_add 58 = .ok (.getfield 111, 3) := by decide +kernel
theorem dX9_add_61 : decode cX9_add 61 = .ok (.iconst 0, 1) := by decide +kernel
theorem dX9_add_62 : decode cX9_add 62 = .ok (.iastore, 1) := by decide +kernel
theorem dX9_add_63 : decode cX9_add 63 = .ok (.aload_n 0, 1) := by decide +kernel
theorem dX9_add_64 : decode cX9_add 64 = .ok (.getfield 30, 3) := by decide +kernel
theorem dX9_add_67 : decode cX9_add 67 = .ok (.aload_n 0, 1) := by decide +kernel
theorem dX9_add_68 : decode cX9_add 68 = .ok (.getfield 111, 3) := by decide +kernel
theorem dX9_add_71 : decode cX9_add 71 = .ok (.iload_n 1, 1) := by decide +kernel
theorem dX9_add_72 : decode cX9_add 72 = .ok (.iastore, 1) := by decide +kernel
theorem dX9_add_73 : decode cX9_add 73 = .ok (.aload_n 0, 1) := by decide +kernel
theorem dX9_add_74 : decode cX9_add 74 = .ok (.getfield 33, 3) := by decide +kernel
theorem dX9_add_77 : decode cX9_add 77 = .ok (.aload_n 0, 1) := by decide +kernel
theorem dX9_add_78 : decode cX9_add 78 = .ok (.getfield 111, 3) := by decide +kernel
theorem dX9_add_81 : decode cX9_add 81 = .ok (.iconst 0, 1) := by decide +kernel
theorem dX9_add_82 : decode cX9_add 82 = .ok (.bastore, 1) := by decide +kernel
theorem dX9_add_83 : decode cX9_add 83 = .ok (.aload_n 0, 1) := by decide +kernel
theorem dX9_add_84 : decode cX9_add 84 = .ok (.aload_n 0, 1) := by decide +kernel
theorem dX9_add_85 : decode cX9_add 85 = .ok (.getfield 111, 3) := by decide +kernel
theorem dX9_add_88 : decode cX9_add 88 = .ok (.invokevirtual 165, 3) := by decide +kernel
theorem dX9_add_91 : decode cX9_add 91 = .ok (.aload_n 0, 1) := by decide +kernel
theorem dX9_add_92 : decode cX9_add 92 = .ok (.dup, 1) := by decide +kernel
theorem dX9_add_93 : decode cX9_add 93 = .ok (.getfield 111, 3) := by decide +kernel
theorem dX9_add_96 : decode cX9_add 96 = .ok (.iconst 1, 1) := by decide +kernel
theorem dX9_add_97 : decode cX9_add 97 = .ok (.iadd, 1) := by decide +kernel
theorem dX9_add_98 : decode cX9_add 98 = .ok (.putfield 111, 3) := by decide +kernel
theorem dX9_add_101 : decode cX9_add 101 = .ok (.return_, 1) := by decide +kernel
theorem dX9_draw_0 : decode cX9_draw 0 = .ok (.lload_n 0, 1) := by decide +kernel
theorem dX9_draw_1 : decode cX9_draw 1 = .ok (.ldc2_w 244, 3) := by decide +kernel
theorem dX9_draw_4 : decode cX9_draw 4 = .ok (.lmul, 1) := by decide +kernel
theorem dX9_draw_5 : decode cX9_draw 5 = .ok (.ldc2_w 246, 3) := by decide +kernel
theorem dX9_draw_8 : decode cX9_draw 8 = .ok (.ladd, 1) := by decide +kernel
theorem dX9_draw_9 : decode cX9_draw 9 = .ok (.lreturn, 1) := by decide +kernel
theorem dX9_caught_0 : decode cX9_caught 0 = .ok (.aload_n 0, 1) := by decide +kernel
theorem dX9_caught_1 : decode cX9_caught 1 = .ok (.iconst 0, 1) := by decide +kernel
theorem dX9_caught_2 : decode cX9_caught 2 = .ok (.putfield 108, 3) := by decide +kernel
theorem dX9_caught_5 : decode cX9_caught 5 = .ok (.iload_n 1, 1) := by decide +kernel
theorem dX9_caught_6 : decode cX9_caught 6 = .ok (.invokestatic 190, 3) := by decide +kernel
theorem dX9_caught_9 : decode cX9_caught 9 = .ok (.ifCond .eq 5, 3) := by decide +kernel
theorem dX9_caught_12 : decode cX9_caught 12 = .ok (.iconst (-1), 1) := by decide +kernel
theorem dX9_caught_13 : decode cX9_caught 13 = .ok (.ireturn, 1) := by decide +kernel
theorem dX9_caught_14 : decode cX9_caught 14 = .ok (.aload_n 0, 1) := by decide +kernel
theorem dX9_caught_15 : decode cX9_caught 15 = .ok (.getfield 111, 3) := by decide +kernel
theorem dX9_caught_18 : decode cX9_caught 18 = .ok (.bipush 10, 2) := by decide +kernel
theorem dX9_caught_20 : decode cX9_caught 20 = .ok (.if_icmp .ne 6, 3) := by decide +kernel
theorem dX9_caught_23 : decode cX9_caught 23 = .ok (.bipush (-4), 2) := by decide +kernel
theorem dX9_caught_25 : decode cX9_caught 25 = .ok (.ireturn, 1) := by decide +kernel
theorem dX9_caught_26 : decode cX9_caught 26 = .ok (.aload_n 0, 1) := by decide +kernel
theorem dX9_caught_27 : decode cX9_caught 27 = .ok (.iload_n 1, 1) := by decide +kernel
theorem dX9_caught_28 : decode cX9_caught 28 = .ok (.lload_n 2, 1) := by decide +kernel
theorem dX9_caught_29 : decode cX9_caught 29 = .ok (.invokestatic 248, 3) := by decide +kernel
theorem dX9_caught_32 : decode cX9_caught 32 = .ok (.invokevirtual 252, 3) := by decide +kernel
theorem dX9_caught_35 : decode cX9_caught 35 = .ok (.aload_n 0, 1) := by decide +kernel
theorem dX9_caught_36 : decode cX9_caught 36 = .ok (.getfield 111, 3) := by decide +kernel
theorem dX9_caught_39 : decode cX9_caught 39 = .ok (.iconst 1, 1) := by decide +kernel
theorem dX9_caught_40 : decode cX9_caught 40 = .ok (.isub, 1) := by decide +kernel
theorem dX9_caught_41 : decode cX9_caught 41 = .ok (.ireturn, 1) := by decide +kernel
theorem dX9_washed_0 : decode cX9_washed 0 = .ok (.aload_n 0, 1) := by decide +kernel
theorem dX9_washed_1 : decode cX9_washed 1 = .ok (.iconst 0, 1) := by decide +kernel
theorem dX9_washed_2 : decode cX9_washed 2 = .ok (.putfield 108, 3) := by decide +kernel
theorem dX9_washed_5 : decode cX9_washed 5 = .ok (.iload_n 1, 1) := by decide +kernel
theorem dX9_washed_6 : decode cX9_washed 6 = .ok (.i2l, 1) := by decide +kernel
theorem dX9_washed_7 : decode cX9_washed 7 = .ok (.lconst 1, 1) := by decide +kernel
theorem dX9_washed_8 : decode cX9_washed 8 = .ok (.ldc2_w 256, 3) := by decide +kernel
theorem dX9_washed_11 : decode cX9_washed 11 = .ok (.invokestatic 114, 3) := by decide +kernel
theorem dX9_washed_14 : decode cX9_washed 14 = .ok (.ifCond .ne 6, 3) := by decide +kernel
theorem dX9_washed_17 : decode cX9_washed 17 = .ok (.bipush (-2), 2) := by decide +kernel
theorem dX9_washed_19 : decode cX9_washed 19 = .ok (.ireturn, 1) := by decide +kernel
theorem dX9_washed_20 : decode cX9_washed 20 = .ok (.aload_n 0, 1) := by decide +kernel
theorem dX9_washed_21 : decode cX9_washed 21 = .ok (.getfield 111, 3) := by decide +kernel
theorem dX9_washed_24 : decode cX9_washed 24 = .ok (.iload_n 1, 1) := by decide +kernel
theorem dX9_washed_25 : decode cX9_washed 25 = .ok (.iadd, 1) := by decide +kernel
theorem dX9_washed_26 : decode cX9_washed 26 = .ok (.bipush 10, 2) := by decide +kernel
theorem dX9_washed_28 : decode cX9_washed 28 = .ok (.if_icmp .le 6, 3) := by decide +kernel
theorem dX9_washed_31 : decode cX9_washed 31 = .ok (.bipush (-4), 2) := by decide +kernel
theorem dX9_washed_33 : decode cX9_washed 33 = .ok (.ireturn, 1) := by decide +kernel
theorem dX9_washed_34 : decode cX9_washed 34 = .ok (.lload_n 2, 1) := by decide +kernel
theorem dX9_washed_35 : decode cX9_washed 35 = .ok (.lstore 4, 2) := by decide +kernel
theorem dX9_washed_37 : decode cX9_washed 37 = .ok (.iconst 0, 1) := by decide +kernel
theorem dX9_washed_38 : decode cX9_washed 38 = .ok (.istore 6, 2) := by decide +kernel
theorem dX9_washed_40 : decode cX9_washed 40 = .ok (.iload 6, 2) := by decide +kernel
theorem dX9_washed_42 : decode cX9_washed 42 = .ok (.iload_n 1, 1) := by decide +kernel
theorem dX9_washed_43 : decode cX9_washed 43 = .ok (.if_icmp .ge 26, 3) := by decide +kernel
theorem dX9_washed_46 : decode cX9_washed 46 = .ok (.lload 4, 2) := by decide +kernel
theorem dX9_washed_48 : decode cX9_washed 48 = .ok (.invokestatic 248, 3) := by decide +kernel
theorem dX9_washed_51 : decode cX9_washed 51 = .ok (.lstore 4, 2) := by decide +kernel
theorem dX9_washed_53 : decode cX9_washed 53 = .ok (.aload_n 0, 1) := by decide +kernel
theorem dX9_washed_54 : decode cX9_washed 54 = .ok (.iload 6, 2) := by decide +kernel
theorem dX9_washed_56 : decode cX9_washed 56 = .ok (.iconst 4, 1) := by decide +kernel
theorem dX9_washed_57 : decode cX9_washed 57 = .ok (.irem, 1) := by decide +kernel
theorem dX9_washed_58 : decode cX9_washed 58 = .ok (.lload 4, 2) := by decide +kernel
theorem dX9_washed_60 : decode cX9_washed 60 = .ok (.invokevirtual 252, 3) := by decide +kernel
theorem dX9_washed_63 : decode cX9_washed 63 = .ok (.iinc 6 1, 3) := by decide +kernel
theorem dX9_washed_66 : decode cX9_washed 66 = .ok (.goto (-26), 3) := by decide +kernel
theorem dX9_washed_69 : decode cX9_washed 69 = .ok (.aload_n 0, 1) := by decide +kernel
theorem dX9_washed_70 : decode cX9_washed 70 = .ok (.getfield 111, 3) := by decide +kernel
theorem dX9_washed_73 : decode cX9_washed 73 = .ok (.ireturn, 1) := by decide +kernel
theorem dX9_life_0 : decode cX9_life 0 = .ok (.aload_n 0, 1) := by decide +kernel
theorem dX9_life_1 : decode cX9_life 1 = .ok (.iconst 0, 1) := by decide +kernel
theorem dX9_life_2 : decode cX9_life 2 = .ok (.putfield 108, 3) := by decide +kernel
theorem dX9_life_5 : decode cX9_life 5 = .ok (.aload_n 0, 1) := by decide +kernel
theorem dX9_life_6 : decode cX9_life 6 = .ok (.iload_n 1, 1) := by decide +kernel
theorem dX9_life_7 : decode cX9_life 7 = .ok (.invokevirtual 178, 3) := by decide +kernel
theorem dX9_life_10 : decode cX9_life 10 = .ok (.ifCond .eq 5, 3) := by decide +kernel
theorem dX9_life_13 : decode cX9_life 13 = .ok (.iconst (-1), 1) := by decide +kernel
theorem dX9_life_14 : decode cX9_life 14 = .ok (.ireturn, 1) := by decide +kernel
theorem dX9_life_15 : decode cX9_life 15 = .ok (.iload_n 2, 1) := by decide +kernel
theorem dX9_life_16 : decode cX9_life 16 = .ok (.i2l, 1) := by decide +kernel
theorem dX9_life_17 : decode cX9_life 17 = .ok (.lconst 1, 1) := by decide +kernel
theorem dX9_life_18 : decode cX9_life 18 = .ok (.ldc2_w 214, 3) := by decide +kernel
theorem dX9_life_21 : decode cX9_life 21 = .ok (.invokestatic 114, 3) := by decide +kernel
theorem dX9_life_24 : decode cX9_life 24 = .ok (.ifCond .ne 6, 3) := by decide +kernel
theorem dX9_life_27 : decode cX9_life 27 = .ok (.bipush (-2), 2) := by decide +kernel
theorem dX9_life_29 : decode cX9_life 29 = .ok (.ireturn, 1) := by decide +kernel
theorem dX9_life_30 : decode cX9_life 30 = .ok (.aload_n 0, 1) := by decide +kernel
theorem dX9_life_31 : decode cX9_life 31 = .ok (.iload_n 1, 1) := by decide +kernel
theorem dX9_life_32 : decode cX9_life 32 = .ok (.invokevirtual 182, 3) := by decide +kernel
theorem dX9_life_35 : decode cX9_life 35 = .ok (.iload_n 2, 1) := by decide +kernel
theorem dX9_life_36 : decode cX9_life 36 = .ok (.if_icmp .ge 6, 3) := by decide +kernel
theorem dX9_life_39 : decode cX9_life 39 = .ok (.bipush (-9), 2) := by decide +kernel
theorem dX9_life_41 : decode cX9_life 41 = .ok (.ireturn, 1) := by decide +kernel
theorem dX9_life_42 : decode cX9_life 42 = .ok (.aload_n 0, 1) := by decide +kernel
theorem dX9_life_43 : decode cX9_life 43 = .ok (.getfield 27, 3) := by decide +kernel
theorem dX9_life_46 : decode cX9_life 46 = .ok (.iload_n 1, 1) := by decide +kernel
theorem dX9_life_47 : decode cX9_life 47 = .ok (.iaload, 1) := by decide +kernel
theorem dX9_life_48 : decode cX9_life 48 = .ok (.istore_n 3, 1) := by decide +kernel
theorem dX9_life_49 : decode cX9_life 49 = .ok (.iload_n 3, 1) := by decide +kernel
theorem dX9_life_50 : decode cX9_life 50 = .ok (.bipush 99, 2) := by decide +kernel
theorem dX9_life_52 : decode cX9_life 52 = .ok (.if_icmp .ge 21, 3) := by decide +kernel
theorem dX9_life_55 : decode cX9_life 55 = .ok (.aload_n 0, 1) := by decide +kernel
theorem dX9_life_56 : decode cX9_life 56 = .ok (.iload_n 1, 1) := by decide +kernel
theorem dX9_life_57 : decode cX9_life 57 = .ok (.iload_n 3, 1) := by decide +kernel
theorem dX9_life_58 : decode cX9_life 58 = .ok (.iconst 1, 1) := by decide +kernel
theorem dX9_life_59 : decode cX9_life 59 = .ok (.iadd, 1) := by decide +kernel
theorem dX9_life_60 : decode cX9_life 60 = .ok (.invokevirtual 175, 3) := by decide +kernel
theorem dX9_life_63 : decode cX9_life 63 = .ok (.iload_n 2, 1) := by decide +kernel
theorem dX9_life_64 : decode cX9_life 64 = .ok (.if_icmp .lt 9, 3) := by decide +kernel
theorem dX9_life_67 : decode cX9_life 67 = .ok (.iinc 3 1, 3) := by decide +kernel
theorem dX9_life_70 : decode cX9_life 70 = .ok (.goto (-21), 3) := by decide +kernel
theorem dX9_life_73 : decode cX9_life 73 = .ok (.iload_n 3, 1) := by decide +kernel
theorem dX9_life_74 : decode cX9_life 74 = .ok (.bipush 99, 2) := by decide +kernel
theorem dX9_life_76 : decode cX9_life 76 = .ok (.if_icmp .ne 9, 3) := by decide +kernel
theorem dX9_life_79 : decode cX9_life 79 = .ok (.sipush 999, 3) := by decide +kernel
theorem dX9_life_82 : decode cX9_life 82 = .ok (.goto 11, 3) := by decide +kernel
theorem dX9_life_85 : decode cX9_life 85 = .ok (.iload_n 3, 1) := by decide +kernel
theorem dX9_life_86 : decode cX9_life 86 = .ok (.aload_n 0, 1) := by decide +kernel
theorem dX9_life_87 : decode cX9_life 87 = .ok (.getfield 27, 3) := by decide +kernel
theorem dX9_life_90 : decode cX9_life 90 = .ok (.iload_n 1, 1) := by decide +kernel
theorem dX9_life_91 : decode cX9_life 91 = .ok (.iaload, 1) := by decide +kernel
theorem dX9_life_92 : decode cX9_life 92 = .ok (.isub, 1) := by decide +kernel
theorem dX9_life_93 : decode cX9_life 93 = .ok (.ireturn, 1) := by decide +kernel
theorem dX9_trace_0 : decode cX9_trace 0 = .ok (.aload_n 0, 1) := by decide +kernel
theorem dX9_trace_1 : decode cX9_trace 1 = .ok (.iconst 0, 1) := by decide +kernel
theorem dX9_trace_2 : decode cX9_trace 2 = .ok (.putfield 108, 3) := by decide +kernel
theorem dX9_trace_5 : decode cX9_trace 5 = .ok (.aload_n 0, 1) := by decide +kernel
theorem dX9_trace_6 : decode cX9_trace 6 = .ok (.iload_n 1, 1) := by decide +kernel
theorem dX9_trace_7 : decode cX9_trace 7 = .ok (.invokevirtual 178, 3) := by decide +kernel
theorem dX9_trace_10 : decode cX9_trace 10 = .ok (.ifCond .eq 5, 3) := by decide +kernel
theorem dX9_trace_13 : decode cX9_trace 13 = .ok (.iconst (-1), 1) := by decide +kernel
theorem dX9_trace_14 : decode cX9_trace 14 = .ok (.ireturn, 1) := by decide +kernel
theorem dX9_trace_15 : decode cX9_trace 15 = .ok (.iload_n 2, 1) := by decide +kernel
theorem dX9_trace_16 : decode cX9_trace 16 = .ok (.i2l, 1) := by decide +kernel
theorem dX9_trace_17 : decode cX9_trace 17 = .ok (.lconst 0, 1) := by decide +kernel
theorem dX9_trace_18 : decode cX9_trace 18 = .ok (.aload_n 0, 1) := by decide +kernel
theorem dX9_trace_19 : decode cX9_trace 19 = .ok (.getfield 39, 3) := by decide +kernel
theorem dX9_trace_22 : decode cX9_trace 22 = .ok (.iload_n 1, 1) := by decide +kernel
theorem dX9_trace_23 : decode cX9_trace 23 = .ok (.iaload, 1) := by decide +kernel
theorem dX9_trace_24 : decode cX9_trace 24 = .ok (.iconst 1, 1) := by decide +kernel
theorem dX9_trace_25 : decode cX9_trace 25 = .ok (.isub, 1) := by decide +kernel
theorem dX9_trace_26 : decode cX9_trace 26 = .ok (.i2l, 1) := by decide +kernel
theorem dX9_trace_27 : decode cX9_trace 27 = .ok (.invokestatic 114, 3) := by decide +kernel
theorem dX9_trace_30 : decode cX9_trace 30 = .ok (.ifCond .eq 17, 3) := by decide +kernel
theorem dX9_trace_33 : decode cX9_trace 33 = .ok (.aload_n 0, 1) := by decide +kernel
theorem dX9_trace_34 : decode cX9_trace 34 = .ok (.getfield 42, 3) := by decide +kernel
theorem dX9_trace_37 : decode cX9_trace 37 = .ok (.bipush 8, 2) := by decide +kernel
theorem dX9_trace_39 : decode cX9_trace 39 = .ok (.iload_n 1, 1) := by decide +kernel
theorem dX9_trace_40 : decode cX9_trace 40 = .ok (.imul, 1) := by decide +kernel
theorem dX9_trace_41 : decode cX9_trace 41 = .ok (.iload_n 2, 1) := by decide +kernel
theorem dX9_trace_42 : decode cX9_trace 42 = .ok (.iadd, 1) := by decide +kernel
theorem dX9_trace_43 : decode cX9_trace 43 = .ok (.iaload, 1) := by decide +kernel
theorem dX9_trace_44 : decode cX9_trace 44 = .ok (.goto 5, 3) := by decide +kernel
theorem dX9_trace_47 : decode cX9_trace 47 = .ok (.bipush (-9), 2) := by decide +kernel
theorem dX9_trace_49 : decode cX9_trace 49 = .ok (.ireturn, 1) := by decide +kernel
theorem dX9_inflated_0 : decode cX9_inflated 0 = .ok (.aload_n 0, 1) := by decide +kernel
theorem dX9_inflated_1 : decode cX9_inflated 1 = .ok (.iconst 0, 1) := by decide +kernel
theorem dX9_inflated_2 : decode cX9_inflated 2 = .ok (.putfield 108, 3) := by decide +kernel
theorem dX9_inflated_5 : decode cX9_inflated 5 = .ok (.iload_n 1, 1) := by decide +kernel
theorem dX9_inflated_6 : decode cX9_inflated 6 = .ok (.i2l, 1) := by decide +kernel
theorem dX9_inflated_7 : decode cX9_inflated 7 = .ok (.lconst 0, 1) := by decide +kernel
theorem dX9_inflated_8 : decode cX9_inflated 8 = .ok (.aload_n 0, 1) := by decide +kernel
theorem dX9_inflated_9 : decode cX9_inflated 9 = .ok (.getfield 162, 3) := by decide +kernel
theorem dX9_inflated_12 : decode cX9_inflated 12 = .ok (.iconst 1, 1) := by decide +kernel
theorem dX9_inflated_13 : decode cX9_inflated 13 = .ok (.isub, 1) := by decide +kernel
theorem dX9_inflated_14 : decode cX9_inflated 14 = .ok (.i2l, 1) := by decide +kernel
theorem dX9_inflated_15 : decode cX9_inflated 15 = .ok (.invokestatic 114, 3) := by decide +kernel
theorem dX9_inflated_18 : decode cX9_inflated 18 = .ok (.ifCond .ne 5, 3) := by decide +kernel
theorem dX9_inflated_21 : decode cX9_inflated 21 = .ok (.iconst (-1), 1) := by decide +kernel
theorem dX9_inflated_22 : decode cX9_inflated 22 = .ok (.ireturn, 1) := by decide +kernel
theorem dX9_inflated_23 : decode cX9_inflated 23 = .ok (.iload_n 2, 1) := by decide +kernel
theorem dX9_inflated_24 : decode cX9_inflated 24 = .ok (.i2l, 1) := by decide +kernel
theorem dX9_inflated_25 : decode cX9_inflated 25 = .ok (.lconst 0, 1) := by decide +kernel
theorem dX9_inflated_26 : decode cX9_inflated 26 = .ok (.ldc2_w 258, 3) := by decide +kernel
theorem dX9_inflated_29 : decode cX9_inflated 29 = .ok (.invokestatic 114, 3) := by decide +kernel
theorem dX9_inflated_32 : decode cX9_inflated 32 = .ok (.ifCond .ne 6, 3) := by decide +kernel
theorem dX9_inflated_35 : decode cX9_inflated 35 = .ok (.bipush (-2), 2) := by decide +kernel
theorem dX9_inflated_37 : decode cX9_inflated 37 = .ok (.ireturn, 1) := by decide +kernel
theorem dX9_inflated_38 : decode cX9_inflated 38 = .ok (.aload_n 0, 1) := by decide +kernel
theorem dX9_inflated_39 : decode cX9_inflated 39 = .ok (.iconst 1, 1) := by decide +kernel
theorem dX9_inflated_40 : decode cX9_inflated 40 = .ok (.aload_n 0, 1) := by decide +kernel
theorem dX9_inflated_41 : decode cX9_inflated 41 = .ok (.getfield 111, 3) := by decide +kernel
theorem dX9_inflated_44 : decode cX9_inflated 44 = .ok (.ishl, 1) := by decide +kernel
theorem dX9_inflated_45 : decode cX9_inflated 45 = .ok (.iconst 1, 1) := by decide +kernel
theorem dX9_inflated_46 : decode cX9_inflated 46 = .ok (.isub, 1) := by decide +kernel
theorem dX9_inflated_47 : decode cX9_inflated 47 = .ok (.invokevirtual 196, 3) := by decide +kernel
theorem dX9_inflated_50 : decode cX9_inflated 50 = .ok (.istore_n 3, 1) := by decide +kernel
theorem dX9_inflated_51 : decode cX9_inflated 51 = .ok (.iload_n 3, 1) := by decide +kernel
theorem dX9_inflated_52 : decode cX9_inflated 52 = .ok (.ifCond .ne 8, 3) := by decide +kernel
theorem dX9_inflated_55 : decode cX9_inflated 55 = .ok (.bipush (-3), 2) := by decide +kernel
theorem dX9_inflated_57 : decode cX9_inflated 57 = .ok (.goto 15, 3) := by decide +kernel
theorem dX9_inflated_60 : decode cX9_inflated 60 = .ok (.aload_n 0, 1) := by decide +kernel
theorem dX9_inflated_61 : decode cX9_inflated 61 = .ok (.getfield 45, 3) := by decide +kernel
theorem dX9_inflated_64 : decode cX9_inflated 64 = .ok (.iload_n 1, 1) := by decide +kernel
theorem dX9_inflated_65 : decode cX9_inflated 65 = .ok (.iaload, 1) := by decide +kernel
theorem dX9_inflated_66 : decode cX9_inflated 66 = .ok (.iload_n 3, 1) := by decide +kernel
theorem dX9_inflated_67 : decode cX9_inflated 67 = .ok (.iload_n 2, 1) := by decide +kernel
theorem dX9_inflated_68 : decode cX9_inflated 68 = .ok (.iadd, 1) := by decide +kernel
theorem dX9_inflated_69 : decode cX9_inflated 69 = .ok (.imul, 1) := by decide +kernel
theorem dX9_inflated_70 : decode cX9_inflated 70 = .ok (.iload_n 3, 1) := by decide +kernel
theorem dX9_inflated_71 : decode cX9_inflated 71 = .ok (.idiv, 1) := by decide +kernel
theorem dX9_inflated_72 : decode cX9_inflated 72 = .ok (.ireturn, 1) := by decide +kernel
theorem dX9_told_0 : decode cX9_told 0 = .ok (.lload_n 0, 1) := by decide +kernel
theorem dX9_told_1 : decode cX9_told 1 = .ok (.lstore 5, 2) := by decide +kernel
theorem dX9_told_3 : decode cX9_told 3 = .ok (.lload_n 2, 1) := by decide +kernel
theorem dX9_told_4 : decode cX9_told 4 = .ok (.lstore 7, 2) := by decide +kernel
theorem dX9_told_6 : decode cX9_told 6 = .ok (.lload 7, 2) := by decide +kernel
theorem dX9_told_8 : decode cX9_told 8 = .ok (.lconst 0, 1) := by decide +kernel
theorem dX9_told_9 : decode cX9_told 9 = .ok (.lcmp, 1) := by decide +kernel
theorem dX9_told_10 : decode cX9_told 10 = .ok (.ifCond .eq 21, 3) := by decide +kernel
theorem dX9_told_13 : decode cX9_told 13 = .ok (.lload 5, 2) := by decide +kernel
theorem dX9_told_15 : decode cX9_told 15 = .ok (.lload 7, 2) := by decide +kernel
theorem dX9_told_17 : decode cX9_told 17 = .ok (.lrem, 1) := by decide +kernel
theorem dX9_told_18 : decode cX9_told 18 = .ok (.lstore 9, 2) := by decide +kernel
theorem dX9_told_20 : decode cX9_told 20 = .ok (.lload 7, 2) := by decide +kernel
theorem dX9_told_22 : decode cX9_told 22 = .ok (.lstore 5, 2) := by decide +kernel
theorem dX9_told_24 : decode cX9_told 24 = .ok (.lload 9, 2) := by decide +kernel
theorem dX9_told_26 : decode cX9_told 26 = .ok (.lstore 7, 2) := by decide +kernel
theorem dX9_told_28 : decode cX9_told 28 = .ok (.goto (-22), 3) := by decide +kernel
theorem dX9_told_31 : decode cX9_told 31 = .ok (.iload 4, 2) := by decide +kernel
theorem dX9_told_33 : decode cX9_told 33 = .ok (.ifCond .eq 10, 3) := by decide +kernel
theorem dX9_told_36 : decode cX9_told 36 = .ok (.lload_n 0, 1) := by decide +kernel
theorem dX9_told_37 : decode cX9_told 37 = .ok (.lload 5, 2) := by decide +kernel
theorem dX9_told_39 : decode cX9_told 39 = .ok (.ldiv, 1) := by decide +kernel
theorem dX9_told_40 : decode cX9_told 40 = .ok (.goto 7, 3) := by decide +kernel
theorem dX9_told_43 : decode cX9_told 43 = .ok (.lload_n 2, 1) := by decide +kernel
theorem dX9_told_44 : decode cX9_told 44 = .ok (.lload 5, 2) := by decide +kernel
theorem dX9_told_46 : decode cX9_told 46 = .ok (.ldiv, 1) := by decide +kernel
theorem dX9_told_47 : decode cX9_told 47 = .ok (.lreturn, 1) := by decide +kernel
theorem dX9_power_0 : decode cX9_power 0 = .ok (.lconst 1, 1) := by decide +kernel
theorem dX9_power_1 : decode cX9_power 1 = .ok (.lstore_n 3, 1) := by decide +kernel
theorem dX9_power_2 : decode cX9_power 2 = .ok (.iconst 0, 1) := by decide +kernel
theorem dX9_power_3 : decode cX9_power 3 = .ok (.istore 5, 2) := by decide +kernel
theorem dX9_power_5 : decode cX9_power 5 = .ok (.iload 5, 2) := by decide +kernel
theorem dX9_power_7 : decode cX9_power 7 = .ok (.iload_n 2, 1) := by decide +kernel
theorem dX9_power_8 : decode cX9_power 8 = .ok (.if_icmp .ge 13, 3) := by decide +kernel
theorem dX9_power_11 : decode cX9_power 11 = .ok (.lload_n 3, 1) := by decide +kernel
theorem dX9_power_12 : decode cX9_power 12 = .ok (.lload_n 0, 1) := by decide +kernel
theorem dX9_power_13 : decode cX9_power 13 = .ok (.lmul, 1) := by decide +kernel
theorem dX9_power_14 : decode cX9_power 14 = .ok (.lstore_n 3, 1) := by decide +kernel
theorem dX9_power_15 : decode cX9_power 15 = .ok (.iinc 5 1, 3) := by decide +kernel
theorem dX9_power_18 : decode cX9_power 18 = .ok (.goto (-13), 3) := by decide +kernel
theorem dX9_power_21 : decode cX9_power 21 = .ok (.lload_n 3, 1) := by decide +kernel
theorem dX9_power_22 : decode cX9_power 22 = .ok (.lreturn, 1) := by decide +kernel
theorem dX9_noTenths_0 : decode cX9_noTenths 0 = .ok (.iload_n 0, 1) := by decide +kernel
theorem dX9_noTenths_1 : decode cX9_noTenths 1 = .ok (.i2l, 1) := by decide +kernel
theorem dX9_noTenths_2 : decode cX9_noTenths 2 = .ok (.lconst 0, 1) := by decide +kernel
theorem dX9_noTenths_3 : decode cX9_noTenths 3 = .ok (.ldc2_w 256, 3) := by decide +kernel
theorem dX9_noTenths_6 : decode cX9_noTenths 6 = .ok (.invokestatic 114, 3) := by decide +kernel
theorem dX9_noTenths_9 : decode cX9_noTenths 9 = .ok (.ifCond .ne 7, 3) := by decide +kernel
theorem dX9_noTenths_12 : decode cX9_noTenths 12 = .ok (.iconst 1, 1) := by decide +kernel
theorem dX9_noTenths_13 : decode cX9_noTenths 13 = .ok (.goto 4, 3) := by decide +kernel
theorem dX9_noTenths_16 : decode cX9_noTenths 16 = .ok (.iconst 0, 1) := by decide +kernel
theorem dX9_noTenths_17 : decode cX9_noTenths 17 = .ok (.ireturn, 1) := by decide +kernel
theorem dX9_doubt_0 : decode cX9_doubt 0 = .ok (.aload_n 0, 1) := by decide +kernel
theorem dX9_doubt_1 : decode cX9_doubt 1 = .ok (.iconst 0, 1) := by decide +kernel
theorem dX9_doubt_2 : decode cX9_doubt 2 = .ok (.putfield 108, 3) := by decide +kernel
theorem dX9_doubt_5 : decode cX9_doubt 5 = .ok (.iload_n 1, 1) := by decide +kernel
theorem dX9_doubt_6 : decode cX9_doubt 6 = .ok (.invokestatic 260, 3) := by decide +kernel
theorem dX9_doubt_9 : decode cX9_doubt 9 = .ok (.ifCond .ne 43, 3) := by decide +kernel
theorem dX9_doubt_12 : decode cX9_doubt 12 = .ok (.iload_n 2, 1) := by decide +kernel
theorem dX9_doubt_13 : decode cX9_doubt 13 = .ok (.invokestatic 260, 3) := by decide +kernel
theorem dX9_doubt_16 : decode cX9_doubt 16 = .ok (.ifCond .ne 36, 3) := by decide +kernel
theorem dX9_doubt_19 : decode cX9_doubt 19 = .ok (.iload_n 3, 1) := by decide +kernel
theorem dX9_doubt_20 : decode cX9_doubt 20 = .ok (.invokestatic 260, 3) := by decide +kernel
theorem dX9_doubt_23 : decode cX9_doubt 23 = .ok (.ifCond .ne 29, 3) := by decide +kernel
theorem dX9_doubt_26 : decode cX9_doubt 26 = .ok (.iload 4, 2) := by decide +kernel
theorem dX9_doubt_28 : decode cX9_doubt 28 = .ok (.i2l, 1) := by decide +kernel
theorem dX9_doubt_29 : decode cX9_doubt 29 = .ok (.lconst 1, 1) := by decide +kernel
theorem dX9_doubt_30 : decode cX9_doubt 30 = .ok (.ldc2_w 263, 3) := by decide +kernel
theorem dX9_doubt_33 : decode cX9_doubt 33 = .ok (.invokestatic 114, 3) := by decide +kernel
theorem dX9_doubt_36 : decode cX9_doubt 36 = .ok (.ifCond .eq 16, 3) := by decide +kernel
theorem dX9_doubt_39 : decode cX9_doubt 39 = .ok (.iload 5, 2) := by decide +kernel
theorem dX9_doubt_41 : decode cX9_doubt 41 = .ok (.i2l, 1) := by decide +kernel
theorem dX9_doubt_42 : decode cX9_doubt 42 = .ok (.lconst 0, 1) := by decide +kernel
theorem dX9_doubt_43 : decode cX9_doubt 43 = .ok (.iload 4, 2) := by decide +kernel
theorem dX9_doubt_45 : decode cX9_doubt 45 = .ok (.i2l, 1) := by decide +kernel
theorem dX9_doubt_46 : decode cX9_doubt 46 = .ok (.invokestatic 114, 3) := by decide +kernel
theorem dX9_doubt_49 : decode cX9_doubt 49 = .ok (.ifCond .ne 7, 3) := by decide +kernel
theorem dX9_doubt_52 : decode cX9_doubt 52 = .ok (.ldc2_w 265, 3) := by decide +kernel
theorem dX9_doubt_55 : decode cX9_doubt 55 = .ok (.lreturn, 1) := by decide +kernel
theorem dX9_doubt_56 : decode cX9_doubt 56 = .ok (.iload_n 1, 1) := by decide +kernel
theorem dX9_doubt_57 : decode cX9_doubt 57 = .ok (.i2l, 1) := by decide +kernel
theorem dX9_doubt_58 : decode cX9_doubt 58 = .ok (.iload_n 2, 1) := by decide +kernel
theorem dX9_doubt_59 : decode cX9_doubt 59 = .ok (.i2l, 1) := by decide +kernel
theorem dX9_doubt_60 : decode cX9_doubt 60 = .ok (.iload 5, 2) := by decide +kernel
theorem dX9_doubt_62 : decode cX9_doubt 62 = .ok (.invokestatic 267, 3) := by decide +kernel
theorem dX9_doubt_65 : decode cX9_doubt 65 = .ok (.lmul, 1) := by decide +kernel
theorem dX9_doubt_66 : decode cX9_doubt 66 = .ok (.bipush 10, 2) := by decide +kernel
theorem dX9_doubt_68 : decode cX9_doubt 68 = .ok (.iload_n 2, 1) := by decide +kernel
theorem dX9_doubt_69 : decode cX9_doubt 69 = .ok (.isub, 1) := by decide +kernel
theorem dX9_doubt_70 : decode cX9_doubt 70 = .ok (.i2l, 1) := by decide +kernel
theorem dX9_doubt_71 : decode cX9_doubt 71 = .ok (.iload 4, 2) := by decide +kernel
theorem dX9_doubt_73 : decode cX9_doubt 73 = .ok (.iload 5, 2) := by decide +kernel
theorem dX9_doubt_75 : decode cX9_doubt 75 = .ok (.isub, 1) := by decide +kernel
theorem dX9_doubt_76 : decode cX9_doubt 76 = .ok (.invokestatic 267, 3) := by decide +kernel
theorem dX9_doubt_79 : decode cX9_doubt 79 = .ok (.lmul, 1) := by decide +kernel
theorem dX9_doubt_80 : decode cX9_doubt 80 = .ok (.lstore 7, 2) := by decide +kernel
theorem dX9_doubt_82 : decode cX9_doubt 82 = .ok (.bipush 10, 2) := by decide +kernel
theorem dX9_doubt_84 : decode cX9_doubt 84 = .ok (.iload_n 1, 1) := by decide +kernel
theorem dX9_doubt_85 : decode cX9_doubt 85 = .ok (.isub, 1) := by decide +kernel
theorem dX9_doubt_86 : decode cX9_doubt 86 = .ok (.i2l, 1) := by decide +kernel
theorem dX9_doubt_87 : decode cX9_doubt 87 = .ok (.iload_n 3, 1) := by decide +kernel
theorem dX9_doubt_88 : decode cX9_doubt 88 = .ok (.i2l, 1) := by decide +kernel
theorem dX9_doubt_89 : decode cX9_doubt 89 = .ok (.iload 5, 2) := by decide +kernel
theorem dX9_doubt_91 : decode cX9_doubt 91 = .ok (.invokestatic 267, 3) := by decide +kernel
theorem dX9_doubt_94 : decode cX9_doubt 94 = .ok (.lmul, 1) := by decide +kernel
theorem dX9_doubt_95 : decode cX9_doubt 95 = .ok (.bipush 10, 2) := by decide +kernel
theorem dX9_doubt_97 : decode cX9_doubt 97 = .ok (.iload_n 3, 1) := by decide +kernel
theorem dX9_doubt_98 : decode cX9_doubt 98 = .ok (.isub, 1) := by decide +kernel
theorem dX9_doubt_99 : decode cX9_doubt 99 = .ok (.i2l, 1) := by decide +kernel
theorem dX9_doubt_100 : decode cX9_doubt 100 = .ok (.iload 4, 2) := by decide +kernel
theorem dX9_doubt_102 : decode cX9_doubt 102 = .ok (.iload 5, 2) := by decide +kernel
theorem dX9_doubt_104 : decode cX9_doubt 104 = .ok (.isub, 1) := by decide +kernel
theorem dX9_doubt_105 : decode cX9_doubt 105 = .ok (.invokestatic 267, 3) := by decide +kernel
theorem dX9_doubt_108 : decode cX9_doubt 108 = .ok (.lmul, 1) := by decide +kernel
theorem dX9_doubt_109 : decode cX9_doubt 109 = .ok (.lstore 9, 2) := by decide +kernel
theorem dX9_doubt_111 : decode cX9_doubt 111 = .ok (.lload 7, 2) := by decide +kernel
theorem dX9_doubt_113 : decode cX9_doubt 113 = .ok (.lload 9, 2) := by decide +kernel
theorem dX9_doubt_115 : decode cX9_doubt 115 = .ok (.ladd, 1) := by decide +kernel
theorem dX9_doubt_116 : decode cX9_doubt 116 = .ok (.lconst 0, 1) := by decide +kernel
theorem dX9_doubt_117 : decode cX9_doubt 117 = .ok (.lcmp, 1) := by decide +kernel
theorem dX9_doubt_118 : decode cX9_doubt 118 = .ok (.ifCond .ne 9, 3) := by decide +kernel
theorem dX9_doubt_121 : decode cX9_doubt 121 = .ok (.ldc2_w 271, 3) := by decide +kernel
theorem dX9_doubt_124 : decode cX9_doubt 124 = .ok (.goto 15, 3) := by decide +kernel
theorem dX9_doubt_127 : decode cX9_doubt 127 = .ok (.lload 7, 2) := by decide +kernel
theorem dX9_doubt_129 : decode cX9_doubt 129 = .ok (.lload 7, 2) := by decide +kernel
theorem dX9_doubt_131 : decode cX9_doubt 131 = .ok (.lload 9, 2) := by decide +kernel
theorem dX9_doubt_133 : decode cX9_doubt 133 = .ok (.ladd, 1) := by decide +kernel
theorem dX9_doubt_134 : decode cX9_doubt 134 = .ok (.iload 6, 2) := by decide +kernel
theorem dX9_doubt_136 : decode cX9_doubt 136 = .ok (.invokestatic 273, 3) := by decide +kernel
theorem dX9_doubt_139 : decode cX9_doubt 139 = .ok (.lreturn, 1) := by decide +kernel
theorem dX9_among_0 : decode cX9_among 0 = .ok (.aload_n 0, 1) := by decide +kernel
theorem dX9_among_1 : decode cX9_among 1 = .ok (.iconst 0, 1) := by decide +kernel
theorem dX9_among_2 : decode cX9_among 2 = .ok (.putfield 108, 3) := by decide +kernel
theorem dX9_among_5 : decode cX9_among 5 = .ok (.iload_n 1, 1) := by decide +kernel
theorem dX9_among_6 : decode cX9_among 6 = .ok (.i2l, 1) := by decide +kernel
theorem dX9_among_7 : decode cX9_among 7 = .ok (.lconst 1, 1) := by decide +kernel
theorem dX9_among_8 : decode cX9_among 8 = .ok (.ldc2_w 256, 3) := by decide +kernel
theorem dX9_among_11 : decode cX9_among 11 = .ok (.invokestatic 114, 3) := by decide +kernel
theorem dX9_among_14 : decode cX9_among 14 = .ok (.ifCond .eq 21, 3) := by decide +kernel
theorem dX9_among_17 : decode cX9_among 17 = .ok (.iload_n 2, 1) := by decide +kernel
theorem dX9_among_18 : decode cX9_among 18 = .ok (.invokestatic 260, 3) := by decide +kernel
theorem dX9_among_21 : decode cX9_among 21 = .ok (.ifCond .ne 14, 3) := by decide +kernel
theorem dX9_among_24 : decode cX9_among 24 = .ok (.iload_n 3, 1) := by decide +kernel
theorem dX9_among_25 : decode cX9_among 25 = .ok (.i2l, 1) := by decide +kernel
theorem dX9_among_26 : decode cX9_among 26 = .ok (.lconst 0, 1) := by decide +kernel
theorem dX9_among_27 : decode cX9_among 27 = .ok (.iload_n 1, 1) := by decide +kernel
theorem dX9_among_28 : decode cX9_among 28 = .ok (.i2l, 1) := by decide +kernel
theorem dX9_among_29 : decode cX9_among 29 = .ok (.invokestatic 114, 3) := by decide +kernel
theorem dX9_among_32 : decode cX9_among 32 = .ok (.ifCond .ne 7, 3) := by decide +kernel
theorem dX9_among_35 : decode cX9_among 35 = .ok (.ldc2_w 265, 3) := by decide +kernel
theorem dX9_among_38 : decode cX9_among 38 = .ok (.lreturn, 1) := by decide +kernel
theorem dX9_among_39 : decode cX9_among 39 = .ok (.lconst 0, 1) := by decide +kernel
theorem dX9_among_40 : decode cX9_among 40 = .ok (.lstore 5, 2) := by decide +kernel
theorem dX9_among_42 : decode cX9_among 42 = .ok (.lconst 1, 1) := by decide +kernel
theorem dX9_among_43 : decode cX9_among 43 = .ok (.lstore 7, 2) := by decide +kernel
theorem dX9_among_45 : decode cX9_among 45 = .ok (.iconst 0, 1) := by decide +kernel
theorem dX9_among_46 : decode cX9_among 46 = .ok (.istore 9, 2) := by decide +kernel
theorem dX9_among_48 : decode cX9_among 48 = .ok (.iload 9, 2) := by decide +kernel
theorem dX9_among_50 : decode cX9_among 50 = .ok (.iload_n 1, 1) := by decide +kernel
theorem dX9_among_51 : decode cX9_among 51 = .ok (.if_icmp .gt 63, 3) := by decide +kernel
theorem dX9_among_54 : decode cX9_among 54 = .ok (.lload 5, 2) := by decide +kernel
theorem dX9_among_56 : decode cX9_among 56 = .ok (.iload 9, 2) := by decide +kernel
theorem dX9_among_58 : decode cX9_among 58 = .ok (.iload_n 3, 1) := by decide +kernel
theorem dX9_among_59 : decode cX9_among 59 = .ok (.if_icmp .ge 7, 3) := by decide +kernel
theorem dX9_among_62 : decode cX9_among 62 = .ok (.lconst 0, 1) := by decide +kernel
theorem dX9_among_63 : decode cX9_among 63 = .ok (.goto 26, 3) := by decide +kernel
theorem dX9_among_66 : decode cX9_among 66 = .ok (.lload 7, 2) := by decide +kernel
theorem dX9_among_68 : decode cX9_among 68 = .ok (.iload_n 2, 1) := by decide +kernel
theorem dX9_among_69 : decode cX9_among 69 = .ok (.i2l, 1) := by decide +kernel
theorem dX9_among_70 : decode cX9_among 70 = .ok (.iload 9, 2) := by decide +kernel
theorem dX9_among_72 : decode cX9_among 72 = .ok (.invokestatic 267, 3) := by decide +kernel
theorem dX9_among_75 : decode cX9_among 75 = .ok (.lmul, 1) := by decide +kernel
theorem dX9_among_76 : decode cX9_among 76 = .ok (.bipush 10, 2) := by decide +kernel
theorem dX9_among_78 : decode cX9_among 78 = .ok (.iload_n 2, 1) := by decide +kernel
theorem dX9_among_79 : decode cX9_among 79 = .ok (.isub, 1) := by decide +kernel
theorem dX9_among_80 : decode cX9_among 80 = .ok (.i2l, 1) := by decide +kernel
theorem dX9_among_81 : decode cX9_among 81 = .ok (.iload_n 1, 1) := by decide +kernel
theorem dX9_among_82 : decode cX9_among 82 = .ok (.iload 9, 2) := by decide +kernel
theorem dX9_among_84 : decode cX9_among 84 = .ok (.isub, 1) := by decide +kernel
theorem dX9_among_85 : decode cX9_among 85 = .ok (.invokestatic 267, 3) := by decide +kernel
theorem dX9_among_88 : decode cX9_among 88 = .ok (.lmul, 1) := by decide +kernel
theorem dX9_among_89 : decode cX9_among 89 = .ok (.ladd, 1) := by decide +kernel
theorem dX9_among_90 : decode cX9_among 90 = .ok (.lstore 5, 2) := by decide +kernel
theorem dX9_among_92 : decode cX9_among 92 = .ok (.lload 7, 2) := by decide +kernel
theorem dX9_among_94 : decode cX9_among 94 = .ok (.iload_n 1, 1) := by decide +kernel
theorem dX9_among_95 : decode cX9_among 95 = .ok (.iload 9, 2) := by decide +kernel
theorem dX9_among_97 : decode cX9_among 97 = .ok (.isub, 1) := by decide +kernel
theorem dX9_among_98 : decode cX9_among 98 = .ok (.i2l, 1) := by decide +kernel
theorem dX9_among_99 : decode cX9_among 99 = .ok (.lmul, 1) := by decide +kernel
theorem dX9_among_100 : decode cX9_among 100 = .ok (.iload 9, 2) := by decide +kernel
theorem dX9_among_102 : decode cX9_among 102 = .ok (.iconst 1, 1) := by decide +kernel
theorem dX9_among_103 : decode cX9_among 103 = .ok (.iadd, 1) := by decide +kernel
theorem dX9_among_104 : decode cX9_among 104 = .ok (.i2l, 1) := by decide +kernel
theorem dX9_among_105 : decode cX9_among 105 = .ok (.ldiv, 1) := by decide +kernel
theorem dX9_among_106 : decode cX9_among 106 = .ok (.lstore 7, 2) := by decide +kernel
theorem dX9_among_108 : decode cX9_among 108 = .ok (.iinc 9 1, 3) := by decide +kernel
theorem dX9_among_111 : decode cX9_among 111 = .ok (.goto (-63), 3) := by decide +kernel
theorem dX9_among_114 : decode cX9_among 114 = .ok (.lload 5, 2) := by decide +kernel
theorem dX9_among_116 : decode cX9_among 116 = .ok (.ldc2_w 256, 3) := by decide +kernel
theorem dX9_among_119 : decode cX9_among 119 = .ok (.iload_n 1, 1) := by decide +kernel
theorem dX9_among_120 : decode cX9_among 120 = .ok (.invokestatic 267, 3) := by decide +kernel
theorem dX9_among_123 : decode cX9_among 123 = .ok (.iload 4, 2) := by decide +kernel
theorem dX9_among_125 : decode cX9_among 125 = .ok (.invokestatic 273, 3) := by decide +kernel
theorem dX9_among_128 : decode cX9_among 128 = .ok (.lreturn, 1) := by decide +kernel
theorem dX9_rate_0 : decode cX9_rate 0 = .ok (.aload_n 0, 1) := by decide +kernel
theorem dX9_rate_1 : decode cX9_rate 1 = .ok (.iconst 0, 1) := by decide +kernel
theorem dX9_rate_2 : decode cX9_rate 2 = .ok (.putfield 108, 3) := by decide +kernel
theorem dX9_rate_5 : decode cX9_rate 5 = .ok (.iload_n 1, 1) := by decide +kernel
theorem dX9_rate_6 : decode cX9_rate 6 = .ok (.invokestatic 190, 3) := by decide +kernel
theorem dX9_rate_9 : decode cX9_rate 9 = .ok (.ifCond .ne 10, 3) := by decide +kernel
theorem dX9_rate_12 : decode cX9_rate 12 = .ok (.iload_n 2, 1) := by decide +kernel
theorem dX9_rate_13 : decode cX9_rate 13 = .ok (.invokestatic 190, 3) := by decide +kernel
theorem dX9_rate_16 : decode cX9_rate 16 = .ok (.ifCond .eq 5, 3) := by decide +kernel
theorem dX9_rate_19 : decode cX9_rate 19 = .ok (.iconst (-1), 1) := by decide +kernel
theorem dX9_rate_20 : decode cX9_rate 20 = .ok (.ireturn, 1) := by decide +kernel
theorem dX9_rate_21 : decode cX9_rate 21 = .ok (.iload_n 1, 1) := by decide +kernel
theorem dX9_rate_22 : decode cX9_rate 22 = .ok (.iload_n 2, 1) := by decide +kernel
theorem dX9_rate_23 : decode cX9_rate 23 = .ok (.if_icmp .eq 28, 3) := by decide +kernel
theorem dX9_rate_26 : decode cX9_rate 26 = .ok (.iload_n 3, 1) := by decide +kernel
theorem dX9_rate_27 : decode cX9_rate 27 = .ok (.i2l, 1) := by decide +kernel
theorem dX9_rate_28 : decode cX9_rate 28 = .ok (.lconst 1, 1) := by decide +kernel
theorem dX9_rate_29 : decode cX9_rate 29 = .ok (.ldc2_w 277, 3) := by decide +kernel
theorem dX9_rate_32 : decode cX9_rate 32 = .ok (.invokestatic 114, 3) := by decide +kernel
theorem dX9_rate_35 : decode cX9_rate 35 = .ok (.ifCond .eq 16, 3) := by decide +kernel
theorem dX9_rate_38 : decode cX9_rate 38 = .ok (.iload 4, 2) := by decide +kernel
theorem dX9_rate_40 : decode cX9_rate 40 = .ok (.i2l, 1) := by decide +kernel
theorem dX9_rate_41 : decode cX9_rate 41 = .ok (.lconst 1, 1) := by decide +kernel
theorem dX9_rate_42 : decode cX9_rate 42 = .ok (.ldc2_w 277, 3) := by decide +kernel
theorem dX9_rate_45 : decode cX9_rate 45 = .ok (.invokestatic 114, 3) := by decide +kernel
theorem dX9_rate_48 : decode cX9_rate 48 = .ok (.ifCond .ne 6, 3) := by decide +kernel
theorem dX9_rate_51 : decode cX9_rate 51 = .ok (.bipush (-2), 2) := by decide +kernel
theorem dX9_rate_53 : decode cX9_rate 53 = .ok (.ireturn, 1) := by decide +kernel
theorem dX9_rate_54 : decode cX9_rate 54 = .ok (.bipush 100, 2) := by decide +kernel
theorem dX9_rate_56 : decode cX9_rate 56 = .ok (.aload_n 0, 1) := by decide +kernel
theorem dX9_rate_57 : decode cX9_rate 57 = .ok (.getfield 75, 3) := by decide +kernel
theorem dX9_rate_60 : decode cX9_rate 60 = .ok (.iconst 4, 1) := by decide +kernel
theorem dX9_rate_61 : decode cX9_rate 61 = .ok (.iload_n 1, 1) := by decide +kernel
theorem dX9_rate_62 : decode cX9_rate 62 = .ok (.imul, 1) := by decide +kernel
theorem dX9_rate_63 : decode cX9_rate 63 = .ok (.iload_n 2, 1) := by decide +kernel
theorem dX9_rate_64 : decode cX9_rate 64 = .ok (.iadd, 1) := by decide +kernel
theorem dX9_rate_65 : decode cX9_rate 65 = .ok (.iaload, 1) := by decide +kernel
theorem dX9_rate_66 : decode cX9_rate 66 = .ok (.imul, 1) := by decide +kernel
theorem dX9_rate_67 : decode cX9_rate 67 = .ok (.aload_n 0, 1) := by decide +kernel
theorem dX9_rate_68 : decode cX9_rate 68 = .ok (.getfield 78, 3) := by decide +kernel
theorem dX9_rate_71 : decode cX9_rate 71 = .ok (.iconst 4, 1) := by decide +kernel
theorem dX9_rate_72 : decode cX9_rate 72 = .ok (.iload_n 1, 1) := by decide +kernel
theorem dX9_rate_73 : decode cX9_rate 73 = .ok (.imul, 1) := by decide +kernel
theorem dX9_rate_74 : decode cX9_rate 74 = .ok (.iload_n 2, 1) := by decide +kernel
theorem dX9_rate_75 : decode cX9_rate 75 = .ok (.iadd, 1) := by decide +kernel
theorem dX9_rate_76 : decode cX9_rate 76 = .ok (.iaload, 1) := by decide +kernel
theorem dX9_rate_77 : decode cX9_rate 77 = .ok (.iadd, 1) := by decide +kernel
theorem dX9_rate_78 : decode cX9_rate 78 = .ok (.istore 5, 2) := by decide +kernel
theorem dX9_rate_80 : decode cX9_rate 80 = .ok (.aload_n 0, 1) := by decide +kernel
theorem dX9_rate_81 : decode cX9_rate 81 = .ok (.getfield 75, 3) := by decide +kernel
theorem dX9_rate_84 : decode cX9_rate 84 = .ok (.iconst 4, 1) := by decide +kernel
theorem dX9_rate_85 : decode cX9_rate 85 = .ok (.iload_n 1, 1) := by decide +kernel
theorem dX9_rate_86 : decode cX9_rate 86 = .ok (.imul, 1) := by decide +kernel
theorem dX9_rate_87 : decode cX9_rate 87 = .ok (.iload_n 2, 1) := by decide +kernel
theorem dX9_rate_88 : decode cX9_rate 88 = .ok (.iadd, 1) := by decide +kernel
theorem dX9_rate_89 : decode cX9_rate 89 = .ok (.iload_n 3, 1) := by decide +kernel
theorem dX9_rate_90 : decode cX9_rate 90 = .ok (.iastore, 1) := by decide +kernel
theorem dX9_rate_91 : decode cX9_rate 91 = .ok (.aload_n 0, 1) := by decide +kernel
theorem dX9_rate_92 : decode cX9_rate 92 = .ok (.getfield 78, 3) := by decide +kernel
theorem dX9_rate_95 : decode cX9_rate 95 = .ok (.iconst 4, 1) := by decide +kernel
theorem dX9_rate_96 : decode cX9_rate 96 = .ok (.iload_n 1, 1) := by decide +kernel
theorem dX9_rate_97 : decode cX9_rate 97 = .ok (.imul, 1) := by decide +kernel
theorem dX9_rate_98 : decode cX9_rate 98 = .ok (.iload_n 2, 1) := by decide +kernel
theorem dX9_rate_99 : decode cX9_rate 99 = .ok (.iadd, 1) := by decide +kernel
theorem dX9_rate_100 : decode cX9_rate 100 = .ok (.iload 4, 2) := by decide +kernel
theorem dX9_rate_102 : decode cX9_rate 102 = .ok (.iastore, 1) := by decide +kernel
theorem dX9_rate_103 : decode cX9_rate 103 = .ok (.iload 5, 2) := by decide +kernel
theorem dX9_rate_105 : decode cX9_rate 105 = .ok (.ireturn, 1) := by decide +kernel
theorem dX9_layRing_0 : decode cX9_layRing 0 = .ok (.iload_n 1, 1) := by decide +kernel
theorem dX9_layRing_1 : decode cX9_layRing 1 = .ok (.istore_n 3, 1) := by decide +kernel
theorem dX9_layRing_2 : decode cX9_layRing 2 = .ok (.iconst 1, 1) := by decide +kernel
theorem dX9_layRing_3 : decode cX9_layRing 3 = .ok (.istore 4, 2) := by decide +kernel
theorem dX9_layRing_5 : decode cX9_layRing 5 = .ok (.iload_n 2, 1) := by decide +kernel
theorem dX9_layRing_6 : decode cX9_layRing 6 = .ok (.iconst 1, 1) := by decide +kernel
theorem dX9_layRing_7 : decode cX9_layRing 7 = .ok (.isub, 1) := by decide +kernel
theorem dX9_layRing_8 : decode cX9_layRing 8 = .ok (.istore 5, 2) := by decide +kernel
theorem dX9_layRing_10 : decode cX9_layRing 10 = .ok (.iload 5, 2) := by decide +kernel
theorem dX9_layRing_12 : decode cX9_layRing 12 = .ok (.ifCond .lt 23, 3) := by decide +kernel
theorem dX9_layRing_15 : decode cX9_layRing 15 = .ok (.aload_n 0, 1) := by decide +kernel
theorem dX9_layRing_16 : decode cX9_layRing 16 = .ok (.getfield 102, 3) := by decide +kernel
theorem dX9_layRing_19 : decode cX9_layRing 19 = .ok (.iload 5, 2) := by decide +kernel
theorem dX9_layRing_21 : decode cX9_layRing 21 = .ok (.iload_n 3, 1) := by decide +kernel
theorem dX9_layRing_22 : decode cX9_layRing 22 = .ok (.iconst 4, 1) := by decide +kernel
theorem dX9_layRing_23 : decode cX9_layRing 23 = .ok (.irem, 1) := by decide +kernel
theorem dX9_layRing_24 : decode cX9_layRing 24 = .ok (.iastore, 1) := by decide +kernel
theorem dX9_layRing_25 : decode cX9_layRing 25 = .ok (.iload_n 3, 1) := by decide +kernel
theorem dX9_layRing_26 : decode cX9_layRing 26 = .ok (.iconst 4, 1) := by decide +kernel
theorem dX9_layRing_27 : decode cX9_layRing 27 = .ok (.idiv, 1) := by decide +kernel
theorem dX9_layRing_28 : decode cX9_layRing 28 = .ok (.istore_n 3, 1) := by decide +kernel
theorem dX9_layRing_29 : decode cX9_layRing 29 = .ok (.iinc 5 (-1), 3) := by decide +kernel
theorem dX9_layRing_32 : decode cX9_layRing 32 = .ok (.goto (-22), 3) := by decide +kernel
theorem dX9_layRing_35 : decode cX9_layRing 35 = .ok (.iconst 0, 1) := by decide +kernel
theorem dX9_layRing_36 : decode cX9_layRing 36 = .ok (.istore 5, 2) := by decide +kernel
theorem dX9_layRing_38 : decode cX9_layRing 38 = .ok (.iload 5, 2) := by decide +kernel
theorem dX9_layRing_40 : decode cX9_layRing 40 = .ok (.iload_n 2, 1) := by decide +kernel
theorem dX9_layRing_41 : decode cX9_layRing 41 = .ok (.if_icmp .ge 87, 3) := by decide +kernel
theorem dX9_layRing_44 : decode cX9_layRing 44 = .ok (.iload 4, 2) := by decide +kernel
theorem dX9_layRing_46 : decode cX9_layRing 46 = .ok (.ifCond .eq 28, 3) := by decide +kernel
theorem dX9_layRing_49 : decode cX9_layRing 49 = .ok (.iload 5, 2) := by decide +kernel
theorem dX9_layRing_51 : decode cX9_layRing 51 = .ok (.ifCond .eq 19, 3) := by decide +kernel
theorem dX9_layRing_54 : decode cX9_layRing 54 = .ok (.aload_n 0, 1) := by decide +kernel
theorem dX9_layRing_55 : decode cX9_layRing 55 = .ok (.getfield 102, 3) := by decide +kernel
theorem dX9_layRing_58 : decode cX9_layRing 58 = .ok (.iload 5, 2) := by decide +kernel
theorem dX9_layRing_60 : decode cX9_layRing 60 = .ok (.iaload, 1) := by decide +kernel
theorem dX9_layRing_61 : decode cX9_layRing 61 = .ok (.aload_n 0, 1) := by decide +kernel
theorem dX9_layRing_62 : decode cX9_layRing 62 = .ok (.getfield 102, 3) := by decide +kernel
theorem dX9_layRing_65 : decode cX9_layRing 65 = .ok (.iconst 0, 1) := by decide +kernel
theorem dX9_layRing_66 : decode cX9_layRing 66 = .ok (.iaload, 1) := by decide +kernel
theorem dX9_layRing_67 : decode cX9_layRing 67 = .ok (.if_icmp .le 7, 3) := by decide +kernel
theorem dX9_layRing_70 : decode cX9_layRing 70 = .ok (.iconst 1, 1) := by decide +kernel
theorem dX9_layRing_71 : decode cX9_layRing 71 = .ok (.goto 4, 3) := by decide +kernel
theorem dX9_layRing_74 : decode cX9_layRing 74 = .ok (.iconst 0, 1) := by decide +kernel
theorem dX9_layRing_75 : decode cX9_layRing 75 = .ok (.istore 4, 2) := by decide +kernel
theorem dX9_layRing_77 : decode cX9_layRing 77 = .ok (.iconst 0, 1) := by decide +kernel
theorem dX9_layRing_78 : decode cX9_layRing 78 = .ok (.istore 6, 2) := by decide +kernel
theorem dX9_layRing_80 : decode cX9_layRing 80 = .ok (.iload 6, 2) := by decide +kernel
theorem dX9_layRing_82 : decode cX9_layRing 82 = .ok (.iload 5, 2) := by decide +kernel
theorem dX9_layRing_84 : decode cX9_layRing 84 = .ok (.if_icmp .ge 38, 3) := by decide +kernel
theorem dX9_layRing_87 : decode cX9_layRing 87 = .ok (.iload 4, 2) := by decide +kernel
theorem dX9_layRing_89 : decode cX9_layRing 89 = .ok (.ifCond .eq 24, 3) := by decide +kernel
theorem dX9_layRing_92 : decode cX9_layRing 92 = .ok (.aload_n 0, 1) := by decide +kernel
theorem dX9_layRing_93 : decode cX9_layRing 93 = .ok (.getfield 102, 3) := by decide +kernel
theorem dX9_layRing_96 : decode cX9_layRing 96 = .ok (.iload 6, 2) := by decide +kernel
theorem dX9_layRing_98 : decode cX9_layRing 98 = .ok (.iaload, 1) := by decide +kernel
theorem dX9_layRing_99 : decode cX9_layRing 99 = .ok (.aload_n 0, 1) := by decide +kernel
theorem dX9_layRing_100 : decode cX9_layRing 100 = .ok (.getfield 102, 3) := by decide +kernel
theorem dX9_layRing_103 : decode cX9_layRing 103 = .ok (.iload 5, 2) := by decide +kernel
theorem dX9_layRing_105 : decode cX9_layRing 105 = .ok (.iaload, 1) := by decide +kernel
theorem dX9_layRing_106 : decode cX9_layRing 106 = .ok (.if_icmp .eq 7, 3) := by decide +kernel
theorem dX9_layRing_109 : decode cX9_layRing 109 = .ok (.iconst 1, 1) := by decide +kernel
theorem dX9_layRing_110 : decode cX9_layRing 110 = .ok (.goto 4, 3) := by decide +kernel
theorem dX9_layRing_113 : decode cX9_layRing 113 = .ok (.iconst 0, 1) := by decide +kernel
theorem dX9_layRing_114 : decode cX9_layRing 114 = .ok (.istore 4, 2) := by decide +kernel
theorem dX9_layRing_116 : decode cX9_layRing 116 = .ok (.iinc 6 1, 3) := by decide +kernel
theorem dX9_layRing_119 : decode cX9_layRing 119 = .ok (.goto (-39), 3) := by decide +kernel
theorem dX9_layRing_122 : decode cX9_layRing 122 = .ok (.iinc 5 1, 3) := by decide +kernel
theorem dX9_layRing_125 : decode cX9_layRing 125 = .ok (.goto (-87), 3) := by decide +kernel
theorem dX9_layRing_128 : decode cX9_layRing 128 = .ok (.iload 4, 2) := by decide +kernel
theorem dX9_layRing_130 : decode cX9_layRing 130 = .ok (.ireturn, 1) := by decide +kernel
theorem dX9_findRing_0 : decode cX9_findRing 0 = .ok (.aload_n 0, 1) := by decide +kernel
theorem dX9_findRing_1 : decode cX9_findRing 1 = .ok (.lconst 0, 1) := by decide +kernel
theorem dX9_findRing_2 : decode cX9_findRing 2 = .ok (.putfield 279, 3) := by decide +kernel
theorem dX9_findRing_5 : decode cX9_findRing 5 = .ok (.aload_n 0, 1) := by decide +kernel
theorem dX9_findRing_6 : decode cX9_findRing 6 = .ok (.lconst 1, 1) := by decide +kernel
theorem dX9_findRing_7 : decode cX9_findRing 7 = .ok (.putfield 283, 3) := by decide +kernel
theorem dX9_findRing_10 : decode cX9_findRing 10 = .ok (.iconst 2, 1) := by decide +kernel
theorem dX9_findRing_11 : decode cX9_findRing 11 = .ok (.istore_n 1, 1) := by decide +kernel
theorem dX9_findRing_12 : decode cX9_findRing 12 = .ok (.iload_n 1, 1) := by decide +kernel
theorem dX9_findRing_13 : decode cX9_findRing 13 = .ok (.iconst 5, 1) := by decide +kernel
theorem dX9_findRing_14 : decode cX9_findRing 14 = .ok (.if_icmp .ge 164, 3) := by decide +kernel
theorem dX9_findRing_17 : decode cX9_findRing 17 = .ok (.iconst 0, 1) := by decide +kernel
theorem dX9_findRing_18 : decode cX9_findRing 18 = .ok (.istore_n 2, 1) := by decide +kernel
theorem dX9_findRing_19 : decode cX9_findRing 19 = .ok (.iload_n 2, 1) := by decide +kernel
theorem dX9_findRing_20 : decode cX9_findRing 20 = .ok (.iconst 1, 1) := by decide +kernel
theorem dX9_findRing_21 : decode cX9_findRing 21 = .ok (.iconst 2, 1) := by decide +kernel
theorem dX9_findRing_22 : decode cX9_findRing 22 = .ok (.iload_n 1, 1) := by decide +kernel
theorem dX9_findRing_23 : decode cX9_findRing 23 = .ok (.imul, 1) := by decide +kernel
theorem dX9_findRing_24 : decode cX9_findRing 24 = .ok (.ishl, 1) := by decide +kernel
theorem dX9_findRing_25 : decode cX9_findRing 25 = .ok (.if_icmp .ge 147, 3) := by decide +kernel
theorem dX9_findRing_28 : decode cX9_findRing 28 = .ok (.aload_n 0, 1) := by decide +kernel
theorem dX9_findRing_29 : decode cX9_findRing 29 = .ok (.iload_n 2, 1) := by decide +kernel
theorem dX9_findRing_30 : decode cX9_findRing 30 = .ok (.iload_n 1, 1) := by decide +kernel
theorem dX9_findRing_31 : decode cX9_findRing 31 = .ok (.invokevirtual 286, 3) := by decide +kernel
theorem dX9_findRing_34 : decode cX9_findRing 34 = .ok (.ifCond .eq 132, 3) := by decide +kernel
theorem dX9_findRing_37 : decode cX9_findRing 37 = .ok (.lconst 1, 1) := by decide +kernel
theorem dX9_findRing_38 : decode cX9_findRing 38 = .ok (.lstore_n 3, 1) := by decide +kernel
theorem dX9_findRing_39 : decode cX9_findRing 39 = .ok (.lconst 1, 1) := by decide +kernel
theorem dX9_findRing_40 : decode cX9_findRing 40 = .ok (.lstore 5, 2) := by decide +kernel
theorem dX9_findRing_42 : decode cX9_findRing 42 = .ok (.iconst 0, 1) := by decide +kernel
theorem dX9_findRing_43 : decode cX9_findRing 43 = .ok (.istore 7, 2) := by decide +kernel
theorem dX9_findRing_45 : decode cX9_findRing 45 = .ok (.iload 7, 2) := by decide +kernel
theorem dX9_findRing_47 : decode cX9_findRing 47 = .ok (.iload_n 1, 1) := by decide +kernel
theorem dX9_findRing_48 : decode cX9_findRing 48 = .ok (.if_icmp .ge 56, 3) := by decide +kernel
theorem dX9_findRing_51 : decode cX9_findRing 51 = .ok (.iconst 4, 1) := by decide +kernel
theorem dX9_findRing_52 : decode cX9_findRing 52 = .ok (.aload_n 0, 1) := by decide +kernel
theorem dX9_findRing_53 : decode cX9_findRing 53 = .ok (.getfield 102, 3) := by decide +kernel
theorem dX9_findRing_56 : decode cX9_findRing 56 = .ok (.iload 7, 2) := by decide +kernel
theorem dX9_findRing_58 : decode cX9_findRing 58 = .ok (.iaload, 1) := by decide +kernel
theorem dX9_findRing_59 : decode cX9_findRing 59 = .ok (.imul, 1) := by decide +kernel
theorem dX9_findRing_60 : decode cX9_findRing 60 = .ok (.aload_n 0, 1) := by decide +kernel
theorem dX9_findRing_61 : decode cX9_findRing 61 = .ok (.getfield 102, 3) := by decide +kernel
theorem dX9_findRing_64 : decode cX9_findRing 64 = .ok (.iload 7, 2) := by decide +kernel
theorem dX9_findRing_66 : decode cX9_findRing 66 = .ok (.iconst 1, 1) := by decide +kernel
theorem dX9_findRing_67 : decode cX9_findRing 67 = .ok (.iadd, 1) := by decide +kernel
theorem dX9_findRing_68 : decode cX9_findRing 68 = .ok (.iload_n 1, 1) := by decide +kernel
theorem dX9_findRing_69 : decode cX9_findRing 69 = .ok (.irem, 1) := by decide +kernel
theorem dX9_findRing_70 : decode cX9_findRing 70 = .ok (.iaload, 1) := by decide +kernel
theorem dX9_findRing_71 : decode cX9_findRing 71 = .ok (.iadd, 1) := by decide +kernel
theorem dX9_findRing_72 : decode cX9_findRing 72 = .ok (.istore 8, 2) := by decide +kernel
theorem dX9_findRing_74 : decode cX9_findRing 74 = .ok (.lload_n 3, 1) := by decide +kernel
theorem dX9_findRing_75 : decode cX9_findRing 75 = .ok (.aload_n 0, 1) := by decide +kernel
theorem dX9_findRing_76 : decode cX9_findRing 76 = .ok (.getfield 75, 3) := by decide +kernel
theorem dX9_findRing_79 : decode cX9_findRing 79 = .ok (.iload 8, 2) := by decide +kernel
theorem dX9_findRing_81 : decode cX9_findRing 81 = .ok (.iaload, 1) := by decide +kernel
theorem dX9_findRing_82 : decode cX9_findRing 82 = .ok (.i2l, 1) := by decide +kernel
theorem dX9_findRing_83 : decode cX9_findRing 83 = .ok (.lmul, 1) := by decide +kernel
theorem dX9_findRing_84 : decode cX9_findRing 84 = .ok (.lstore_n 3, 1) := by decide +kernel
theorem dX9_findRing_85 : decode cX9_findRing 85 = .ok (.lload 5, 2) := by decide +kernel
theorem dX9_findRing_87 : decode cX9_findRing 87 = .ok (.aload_n 0, 1) := by decide +kernel
theorem dX9_findRing_88 : decode cX9_findRing 88 = .ok (.getfield 78, 3) := by decide +kernel
theorem dX9_findRing_91 : decode cX9_findRing 91 = .ok (.iload 8, 2) := by decide +kernel
theorem dX9_findRing_93 : decode cX9_findRing 93 = .ok (.iaload, 1) := by decide +kernel
theorem dX9_findRing_94 : decode cX9_findRing 94 = .ok (.i2l, 1) := by decide +kernel
theorem dX9_findRing_95 : decode cX9_findRing 95 = .ok (.lmul, 1) := by decide +kernel
theorem dX9_findRing_96 : decode cX9_findRing 96 = .ok (.lstore 5, 2) := by decide +kernel
theorem dX9_findRing_98 : decode cX9_findRing 98 = .ok (.iinc 7 1, 3) := by decide +kernel
theorem dX9_findRing_101 : decode cX9_findRing 101 = .ok (.goto (-56), 3) := by decide +kernel
theorem dX9_findRing_104 : decode cX9_findRing 104 = .ok (.lload_n 3, 1) := by decide +kernel
theorem dX9_findRing_105 : decode cX9_findRing 105 = .ok (.aload_n 0, 1) := by decide +kernel
theorem dX9_findRing_106 : decode cX9_findRing 106 = .ok (.getfield 283, 3) := by decide +kernel
theorem dX9_findRing_109 : decode cX9_findRing 109 = .ok (.lmul, 1) := by decide +kernel
theorem dX9_findRing_110 : decode cX9_findRing 110 = .ok (.aload_n 0, 1) := by decide +kernel
theorem dX9_findRing_111 : decode cX9_findRing 111 = .ok (.getfield 279, 3) := by decide +kernel
theorem dX9_findRing_114 : decode cX9_findRing 114 = .ok (.lload 5, 2) := by decide +kernel
theorem dX9_findRing_116 : decode cX9_findRing 116 = .ok (.lmul, 1) := by decide +kernel
theorem dX9_findRing_117 : decode cX9_findRing 117 = .ok (.lcmp, 1) := by decide +kernel
theorem dX9_findRing_118 : decode cX9_findRing 118 = .ok (.ifCond .le 48, 3) := by decide +kernel
theorem dX9_findRing_121 : decode cX9_findRing 121 = .ok (.aload_n 0, 1) := by decide +kernel
theorem dX9_findRing_122 : decode cX9_findRing 122 = .ok (.lload_n 3, 1) := by decide +kernel
theorem dX9_findRing_123 : decode cX9_findRing 123 = .ok (.putfield 279, 3) := by decide +kernel
theorem dX9_findRing_126 : decode cX9_findRing 126 = .ok (.aload_n 0, 1) := by decide +kernel
theorem dX9_findRing_127 : decode cX9_findRing 127 = .ok (.lload 5, 2) := by decide +kernel
theorem dX9_findRing_129 : decode cX9_findRing 129 = .ok (.putfield 283, 3) := by decide +kernel
theorem dX9_findRing_132 : decode cX9_findRing 132 = .ok (.aload_n 0, 1) := by decide +kernel
theorem dX9_findRing_133 : decode cX9_findRing 133 = .ok (.iload_n 1, 1) := by decide +kernel
theorem dX9_findRing_134 : decode cX9_findRing 134 = .ok (.putfield 289, 3) := by decide +kernel
theorem dX9_findRing_137 : decode cX9_findRing 137 = .ok (.iconst 0, 1) := by decide +kernel
theorem dX9_findRing_138 : decode cX9_findRing 138 = .ok (.istore 7, 2) := by decide +kernel
theorem dX9_findRing_140 : decode cX9_findRing 140 = .ok (.iload 7, 2) := by decide +kernel
theorem dX9_findRing_142 : decode cX9_findRing 142 = .ok (.iload_n 1, 1) := by decide +kernel
theorem dX9_findRing_143 : decode cX9_findRing 143 = .ok (.if_icmp .ge 23, 3) := by decide +kernel
theorem dX9_findRing_146 : decode cX9_findRing 146 = .ok (.aload_n 0, 1) := by decide +kernel
theorem dX9_findRing_147 : decode cX9_findRing 147 = .ok (.getfield 99, 3) := by decide +kernel
theorem dX9_findRing_150 : decode cX9_findRing 150 = .ok (.iload 7, 2) := by decide +kernel
theorem dX9_findRing_152 : decode cX9_findRing 152 = .ok (.aload_n 0, 1) := by decide +kernel
theorem dX9_findRing_153 : decode cX9_findRing 153 = .ok (.getfield 102, 3) := by decide +kernel
theorem dX9_findRing_156 : decode cX9_findRing 156 = .ok (.iload 7, 2) := by decide +kernel
theorem dX9_findRing_158 : decode cX9_findRing 158 = .ok (.iaload, 1) := by decide +kernel
theorem dX9_findRing_159 : decode cX9_findRing 159 = .ok (.iastore, 1) := by decide +kernel
theorem dX9_findRing_160 : decode cX9_findRing 160 = .ok (.iinc 7 1, 3) := by decide +kernel
theorem dX9_findRing_163 : decode cX9_findRing 163 = .ok (.goto (-23), 3) := by decide +kernel
theorem dX9_findRing_166 : decode cX9_findRing 166 = .ok (.iinc 2 1, 3) := by decide +kernel
theorem dX9_findRing_169 : decode cX9_findRing 169 = .ok (.goto (-150), 3) := by decide +kernel
theorem dX9_findRing_172 : decode cX9_findRing 172 = .ok (.iinc 1 1, 3) := by decide +kernel
theorem dX9_findRing_175 : decode cX9_findRing 175 = .ok (.goto (-163), 3) := by decide +kernel
theorem dX9_findRing_178 : decode cX9_findRing 178 = .ok (.return_, 1) := by decide +kernel
theorem dX9_ring_0 : decode cX9_ring 0 = .ok (.aload_n 0, 1) := by decide +kernel
theorem dX9_ring_1 : decode cX9_ring 1 = .ok (.iconst 0, 1) := by decide +kernel
theorem dX9_ring_2 : decode cX9_ring 2 = .ok (.putfield 108, 3) := by decide +kernel
theorem dX9_ring_5 : decode cX9_ring 5 = .ok (.aload_n 0, 1) := by decide +kernel
theorem dX9_ring_6 : decode cX9_ring 6 = .ok (.invokevirtual 292, 3) := by decide +kernel
theorem dX9_ring_9 : decode cX9_ring 9 = .ok (.aload_n 0, 1) := by decide +kernel
theorem dX9_ring_10 : decode cX9_ring 10 = .ok (.getfield 279, 3) := by decide +kernel
theorem dX9_ring_13 : decode cX9_ring 13 = .ok (.aload_n 0, 1) := by decide +kernel
theorem dX9_ring_14 : decode cX9_ring 14 = .ok (.getfield 283, 3) := by decide +kernel
theorem dX9_ring_17 : decode cX9_ring 17 = .ok (.iload_n 1, 1) := by decide +kernel
theorem dX9_ring_18 : decode cX9_ring 18 = .ok (.invokestatic 273, 3) := by decide +kernel
theorem dX9_ring_21 : decode cX9_ring 21 = .ok (.lreturn, 1) := by decide +kernel
theorem dX9_ringAt_0 : decode cX9_ringAt 0 = .ok (.aload_n 0, 1) := by decide +kernel
theorem dX9_ringAt_1 : decode cX9_ringAt 1 = .ok (.iconst 0, 1) := by decide +kernel
theorem dX9_ringAt_2 : decode cX9_ringAt 2 = .ok (.putfield 108, 3) := by decide +kernel
theorem dX9_ringAt_5 : decode cX9_ringAt 5 = .ok (.aload_n 0, 1) := by decide +kernel
theorem dX9_ringAt_6 : decode cX9_ringAt 6 = .ok (.invokevirtual 292, 3) := by decide +kernel
theorem dX9_ringAt_9 : decode cX9_ringAt 9 = .ok (.iload_n 1, 1) := by decide +kernel
theorem dX9_ringAt_10 : decode cX9_ringAt 10 = .ok (.i2l, 1) := by decide +kernel
theorem dX9_ringAt_11 : decode cX9_ringAt 11 = .ok (.lconst 0, 1) := by decide +kernel
theorem dX9_ringAt_12 : decode cX9_ringAt 12 = .ok (.aload_n 0, 1) := by decide +kernel
theorem dX9_ringAt_13 : decode cX9_ringAt 13 = .ok (.getfield 289, 3) := by decide +kernel
theorem dX9_ringAt_16 : decode cX9_ringAt 16 = .ok (.iconst 1, 1) := by decide +kernel
theorem dX9_ringAt_17 : decode cX9_ringAt 17 = .ok (.isub, 1) := by decide +kernel
theorem dX9_ringAt_18 : decode cX9_ringAt 18 = .ok (.i2l, 1) := by decide +kernel
theorem dX9_ringAt_19 : decode cX9_ringAt 19 = .ok (.invokestatic 114, 3) := by decide +kernel
theorem dX9_ringAt_22 : decode cX9_ringAt 22 = .ok (.ifCond .eq 12, 3) := by decide +kernel
theorem dX9_ringAt_25 : decode cX9_ringAt 25 = .ok (.aload_n 0, 1) := by decide +kernel
theorem dX9_ringAt_26 : decode cX9_ringAt 26 = .ok (.getfield 99, 3) := by decide +kernel
theorem dX9_ringAt_29 : decode cX9_ringAt 29 = .ok (.iload_n 1, 1) := by decide +kernel
theorem dX9_ringAt_30 : decode cX9_ringAt 30 = .ok (.iaload, 1) := by decide +kernel
theorem dX9_ringAt_31 : decode cX9_ringAt 31 = .ok (.goto 5, 3) := by decide +kernel
theorem dX9_ringAt_34 : decode cX9_ringAt 34 = .ok (.bipush (-9), 2) := by decide +kernel
theorem dX9_ringAt_36 : decode cX9_ringAt 36 = .ok (.ireturn, 1) := by decide +kernel
theorem dX9_should_0 : decode cX9_should 0 = .ok (.aload_n 0, 1) := by decide +kernel
theorem dX9_should_1 : decode cX9_should 1 = .ok (.iconst 0, 1) := by decide +kernel
theorem dX9_should_2 : decode cX9_should 2 = .ok (.putfield 108, 3) := by decide +kernel
theorem dX9_should_5 : decode cX9_should 5 = .ok (.aload_n 0, 1) := by decide +kernel
theorem dX9_should_6 : decode cX9_should 6 = .ok (.iload_n 1, 1) := by decide +kernel
theorem dX9_should_7 : decode cX9_should 7 = .ok (.invokevirtual 178, 3) := by decide +kernel
theorem dX9_should_10 : decode cX9_should 10 = .ok (.ifCond .eq 5, 3) := by decide +kernel
theorem dX9_should_13 : decode cX9_should 13 = .ok (.iconst (-1), 1) := by decide +kernel
theorem dX9_should_14 : decode cX9_should 14 = .ok (.ireturn, 1) := by decide +kernel
theorem dX9_should_15 : decode cX9_should 15 = .ok (.iload_n 2, 1) := by decide +kernel
theorem dX9_should_16 : decode cX9_should 16 = .ok (.i2l, 1) := by decide +kernel
theorem dX9_should_17 : decode cX9_should 17 = .ok (.lconst 0, 1) := by decide +kernel
theorem dX9_should_18 : decode cX9_should 18 = .ok (.ldc2_w 277, 3) := by decide +kernel
theorem dX9_should_21 : decode cX9_should 21 = .ok (.invokestatic 114, 3) := by decide +kernel
theorem dX9_should_24 : decode cX9_should 24 = .ok (.ifCond .ne 6, 3) := by decide +kernel
theorem dX9_should_27 : decode cX9_should 27 = .ok (.bipush (-2), 2) := by decide +kernel
theorem dX9_should_29 : decode cX9_should 29 = .ok (.ireturn, 1) := by decide +kernel
theorem dX9_should_30 : decode cX9_should 30 = .ok (.aload_n 0, 1) := by decide +kernel
theorem dX9_should_31 : decode cX9_should 31 = .ok (.getfield 36, 3) := by decide +kernel
theorem dX9_should_34 : decode cX9_should 34 = .ok (.iload_n 1, 1) := by decide +kernel
theorem dX9_should_35 : decode cX9_should 35 = .ok (.iaload, 1) := by decide +kernel
theorem dX9_should_36 : decode cX9_should 36 = .ok (.istore_n 3, 1) := by decide +kernel
theorem dX9_should_37 : decode cX9_should 37 = .ok (.aload_n 0, 1) := by decide +kernel
theorem dX9_should_38 : decode cX9_should 38 = .ok (.getfield 36, 3) := by decide +kernel
theorem dX9_should_41 : decode cX9_should 41 = .ok (.iload_n 1, 1) := by decide +kernel
theorem dX9_should_42 : decode cX9_should 42 = .ok (.iload_n 2, 1) := by decide +kernel
theorem dX9_should_43 : decode cX9_should 43 = .ok (.iastore, 1) := by decide +kernel
theorem dX9_should_44 : decode cX9_should 44 = .ok (.iload_n 3, 1) := by decide +kernel
theorem dX9_should_45 : decode cX9_should 45 = .ok (.ireturn, 1) := by decide +kernel
theorem dX9_stolenSet_0 : decode cX9_stolenSet 0 = .ok (.iconst 0, 1) := by decide +kernel
theorem dX9_stolenSet_1 : decode cX9_stolenSet 1 = .ok (.istore_n 1, 1) := by decide +kernel
theorem dX9_stolenSet_2 : decode cX9_stolenSet 2 = .ok (.iconst 0, 1) := by decide +kernel
theorem dX9_stolenSet_3 : decode cX9_stolenSet 3 = .ok (.istore_n 2, 1) := by decide +kernel
theorem dX9_stolenSet_4 : decode cX9_stolenSet 4 = .ok (.iload_n 2, 1) := by decide +kernel
theorem dX9_stolenSet_5 : decode cX9_stolenSet 5 = .ok (.aload_n 0, 1) := by decide +kernel
theorem dX9_stolenSet_6 : decode cX9_stolenSet 6 = .ok (.getfield 111, 3) := by decide +kernel
theorem dX9_stolenSet_9 : decode cX9_stolenSet 9 = .ok (.if_icmp .ge 34, 3) := by decide +kernel
theorem dX9_stolenSet_12 : decode cX9_stolenSet 12 = .ok (.iload_n 1, 1) := by decide +kernel
theorem dX9_stolenSet_13 : decode cX9_stolenSet 13 = .ok (.aload_n 0, 1) := by decide +kernel
theorem dX9_stolenSet_14 : decode cX9_stolenSet 14 = .ok (.getfield 27, 3) := by decide +kernel
theorem dX9_stolenSet_17 : decode cX9_stolenSet 17 = .ok (.iload_n 2, 1) := by decide +kernel
theorem dX9_stolenSet_18 : decode cX9_stolenSet 18 = .ok (.iaload, 1) := by decide +kernel
theorem dX9_stolenSet_19 : decode cX9_stolenSet 19 = .ok (.aload_n 0, 1) := by decide +kernel
theorem dX9_stolenSet_20 : decode cX9_stolenSet 20 = .ok (.getfield 36, 3) := by decide +kernel
theorem dX9_stolenSet_23 : decode cX9_stolenSet 23 = .ok (.iload_n 2, 1) := by decide +kernel
theorem dX9_stolenSet_24 : decode cX9_stolenSet 24 = .ok (.iaload, 1) := by decide +kernel
theorem dX9_stolenSet_25 : decode cX9_stolenSet 25 = .ok (.if_icmp .le 9, 3) := by decide +kernel
theorem dX9_stolenSet_28 : decode cX9_stolenSet 28 = .ok (.iconst 1, 1) := by decide +kernel
theorem dX9_stolenSet_29 : decode cX9_stolenSet 29 = .ok (.iload_n 2, 1) := by decide +kernel
theorem dX9_stolenSet_30 : decode cX9_stolenSet 30 = .ok (.ishl, 1) := by decide +kernel
theorem dX9_stolenSet_31 : decode cX9_stolenSet 31 = .ok (.goto 4, 3) := by decide +kernel
theorem dX9_stolenSet_34 : decode cX9_stolenSet 34 = .ok (.iconst 0, 1) := by decide +kernel
theorem dX9_stolenSet_35 : decode cX9_stolenSet 35 = .ok (.ior, 1) := by decide +kernel
theorem dX9_stolenSet_36 : decode cX9_stolenSet 36 = .ok (.istore_n 1, 1) := by decide +kernel
theorem dX9_stolenSet_37 : decode cX9_stolenSet 37 = .ok (.iinc 2 1, 3) := by decide +kernel
theorem dX9_stolenSet_40 : decode cX9_stolenSet 40 = .ok (.goto (-36), 3) := by decide +kernel
theorem dX9_stolenSet_43 : decode cX9_stolenSet 43 = .ok (.iload_n 1, 1) := by decide +kernel
theorem dX9_stolenSet_44 : decode cX9_stolenSet 44 = .ok (.ireturn, 1) := by decide +kernel
theorem dX9_stolen_0 : decode cX9_stolen 0 = .ok (.aload_n 0, 1) := by decide +kernel
theorem dX9_stolen_1 : decode cX9_stolen 1 = .ok (.iconst 0, 1) := by decide +kernel
theorem dX9_stolen_2 : decode cX9_stolen 2 = .ok (.putfield 108, 3) := by decide +kernel
theorem dX9_stolen_5 : decode cX9_stolen 5 = .ok (.aload_n 0, 1) := by decide +kernel
theorem dX9_stolen_6 : decode cX9_stolen 6 = .ok (.invokevirtual 295, 3) := by decide +kernel
theorem dX9_stolen_9 : decode cX9_stolen 9 = .ok (.ireturn, 1) := by decide +kernel
theorem dX9_thief_0 : decode cX9_thief 0 = .ok (.aload_n 0, 1) := by decide +kernel
theorem dX9_thief_1 : decode cX9_thief 1 = .ok (.iconst 0, 1) := by decide +kernel
theorem dX9_thief_2 : decode cX9_thief 2 = .ok (.putfield 108, 3) := by decide +kernel
theorem dX9_thief_5 : decode cX9_thief 5 = .ok (.aload_n 0, 1) := by decide +kernel
theorem dX9_thief_6 : decode cX9_thief 6 = .ok (.invokevirtual 295, 3) := by decide +kernel
theorem dX9_thief_9 : decode cX9_thief 9 = .ok (.istore_n 1, 1) := by decide +kernel
theorem dX9_thief_10 : decode cX9_thief 10 = .ok (.bipush (-9), 2) := by decide +kernel
theorem dX9_thief_12 : decode cX9_thief 12 = .ok (.istore_n 2, 1) := by decide +kernel
theorem dX9_thief_13 : decode cX9_thief 13 = .ok (.iconst 0, 1) := by decide +kernel
theorem dX9_thief_14 : decode cX9_thief 14 = .ok (.istore_n 3, 1) := by decide +kernel
theorem dX9_thief_15 : decode cX9_thief 15 = .ok (.iconst 0, 1) := by decide +kernel
theorem dX9_thief_16 : decode cX9_thief 16 = .ok (.istore 4, 2) := by decide +kernel
theorem dX9_thief_18 : decode cX9_thief 18 = .ok (.iload 4, 2) := by decide +kernel
theorem dX9_thief_20 : decode cX9_thief 20 = .ok (.iconst 4, 1) := by decide +kernel
theorem dX9_thief_21 : decode cX9_thief 21 = .ok (.if_icmp .ge 101, 3) := by decide +kernel
theorem dX9_thief_24 : decode cX9_thief 24 = .ok (.iconst 0, 1) := by decide +kernel
theorem dX9_thief_25 : decode cX9_thief 25 = .ok (.istore 5, 2) := by decide +kernel
theorem dX9_thief_27 : decode cX9_thief 27 = .ok (.iconst 0, 1) := by decide +kernel
theorem dX9_thief_28 : decode cX9_thief 28 = .ok (.istore 6, 2) := by decide +kernel
theorem dX9_thief_30 : decode cX9_thief 30 = .ok (.iload 6, 2) := by decide +kernel
theorem dX9_thief_32 : decode cX9_thief 32 = .ok (.aload_n 0, 1) := by decide +kernel
theorem dX9_thief_33 : decode cX9_thief 33 = .ok (.getfield 111, 3) := by decide +kernel
theorem dX9_thief_36 : decode cX9_thief 36 = .ok (.if_icmp .ge 54, 3) := by decide +kernel
theorem dX9_thief_39 : decode cX9_thief 39 = .ok (.iload 5, 2) := by decide +kernel
theorem dX9_thief_41 : decode cX9_thief 41 = .ok (.iload_n 1, 1) := by decide +kernel
theorem dX9_thief_42 : decode cX9_thief 42 = .ok (.iload 6, 2) := by decide +kernel
theorem dX9_thief_44 : decode cX9_thief 44 = .ok (.invokestatic 186, 3) := by decide +kernel
theorem dX9_thief_47 : decode cX9_thief 47 = .ok (.ifCond .eq 33, 3) := by decide +kernel
theorem dX9_thief_50 : decode cX9_thief 50 = .ok (.aload_n 0, 1) := by decide +kernel
theorem dX9_thief_51 : decode cX9_thief 51 = .ok (.getfield 30, 3) := by decide +kernel
theorem dX9_thief_54 : decode cX9_thief 54 = .ok (.iload 6, 2) := by decide +kernel
theorem dX9_thief_56 : decode cX9_thief 56 = .ok (.iaload, 1) := by decide +kernel
theorem dX9_thief_57 : decode cX9_thief 57 = .ok (.iload 4, 2) := by decide +kernel
theorem dX9_thief_59 : decode cX9_thief 59 = .ok (.if_icmp .ne 21, 3) := by decide +kernel
theorem dX9_thief_62 : decode cX9_thief 62 = .ok (.aload_n 0, 1) := by decide +kernel
theorem dX9_thief_63 : decode cX9_thief 63 = .ok (.getfield 27, 3) := by decide +kernel
theorem dX9_thief_66 : decode cX9_thief 66 = .ok (.iload 6, 2) := by decide +kernel
theorem dX9_thief_68 : decode cX9_thief 68 = .ok (.iaload, 1) := by decide +kernel
theorem dX9_thief_69 : decode cX9_thief 69 = .ok (.aload_n 0, 1) := by decide +kernel
theorem dX9_thief_70 : decode cX9_thief 70 = .ok (.getfield 36, 3) := by decide +kernel
theorem dX9_thief_73 : decode cX9_thief 73 = .ok (.iload 6, 2) := by decide +kernel
theorem dX9_thief_75 : decode cX9_thief 75 = .ok (.iaload, 1) := by decide +kernel
theorem dX9_thief_76 : decode cX9_thief 76 = .ok (.isub, 1) := by decide +kernel
theorem dX9_thief_77 : decode cX9_thief 77 = .ok (.goto 4, 3) := by decide +kernel
theorem dX9_thief_80 : decode cX9_thief 80 = .ok (.iconst 0, 1) := by decide +kernel
theorem dX9_thief_81 : decode cX9_thief 81 = .ok (.iadd, 1) := by decide +kernel
theorem dX9_thief_82 : decode cX9_thief 82 = .ok (.istore 5, 2) := by decide +kernel
theorem dX9_thief_84 : decode cX9_thief 84 = .ok (.iinc 6 1, 3) := by decide +kernel
theorem dX9_thief_87 : decode cX9_thief 87 = .ok (.goto (-57), 3) := by decide +kernel
theorem dX9_thief_90 : decode cX9_thief 90 = .ok (.iload 5, 2) := by decide +kernel
theorem dX9_thief_92 : decode cX9_thief 92 = .ok (.iload_n 3, 1) := by decide +kernel
theorem dX9_thief_93 : decode cX9_thief 93 = .ok (.if_icmp .le 8, 3) := by decide +kernel
theorem dX9_thief_96 : decode cX9_thief 96 = .ok (.iload 4, 2) := by decide +kernel
theorem dX9_thief_98 : decode cX9_thief 98 = .ok (.goto 4, 3) := by decide +kernel
theorem dX9_thief_101 : decode cX9_thief 101 = .ok (.iload_n 2, 1) := by decide +kernel
theorem dX9_thief_102 : decode cX9_thief 102 = .ok (.istore_n 2, 1) := by decide +kernel
theorem dX9_thief_103 : decode cX9_thief 103 = .ok (.iload 5, 2) := by decide +kernel
theorem dX9_thief_105 : decode cX9_thief 105 = .ok (.iload_n 3, 1) := by decide +kernel
theorem dX9_thief_106 : decode cX9_thief 106 = .ok (.if_icmp .le 8, 3) := by decide +kernel
theorem dX9_thief_109 : decode cX9_thief 109 = .ok (.iload 5, 2) := by decide +kernel
theorem dX9_thief_111 : decode cX9_thief 111 = .ok (.goto 4, 3) := by decide +kernel
theorem dX9_thief_114 : decode cX9_thief 114 = .ok (.iload_n 3, 1) := by decide +kernel
theorem dX9_thief_115 : decode cX9_thief 115 = .ok (.istore_n 3, 1) := by decide +kernel
theorem dX9_thief_116 : decode cX9_thief 116 = .ok (.iinc 4 1, 3) := by decide +kernel
theorem dX9_thief_119 : decode cX9_thief 119 = .ok (.goto (-101), 3) := by decide +kernel
theorem dX9_thief_122 : decode cX9_thief 122 = .ok (.iload_n 2, 1) := by decide +kernel
theorem dX9_thief_123 : decode cX9_thief 123 = .ok (.ireturn, 1) := by decide +kernel
theorem dX9_keep_0 : decode cX9_keep 0 = .ok (.aload_n 0, 1) := by decide +kernel
theorem dX9_keep_1 : decode cX9_keep 1 = .ok (.iconst 0, 1) := by decide +kernel
theorem dX9_keep_2 : decode cX9_keep 2 = .ok (.putfield 108, 3) := by decide +kernel
theorem dX9_keep_5 : decode cX9_keep 5 = .ok (.iload_n 1, 1) := by decide +kernel
theorem dX9_keep_6 : decode cX9_keep 6 = .ok (.i2l, 1) := by decide +kernel
theorem dX9_keep_7 : decode cX9_keep 7 = .ok (.lconst 0, 1) := by decide +kernel
theorem dX9_keep_8 : decode cX9_keep 8 = .ok (.lconst 1, 1) := by decide +kernel
theorem dX9_keep_9 : decode cX9_keep 9 = .ok (.invokestatic 114, 3) := by decide +kernel
theorem dX9_keep_12 : decode cX9_keep 12 = .ok (.ifCond .ne 5, 3) := by decide +kernel
theorem dX9_keep_15 : decode cX9_keep 15 = .ok (.iconst (-1), 1) := by decide +kernel
theorem dX9_keep_16 : decode cX9_keep 16 = .ok (.ireturn, 1) := by decide +kernel
theorem dX9_keep_17 : decode cX9_keep 17 = .ok (.aload_n 0, 1) := by decide +kernel
theorem dX9_keep_18 : decode cX9_keep 18 = .ok (.getfield 93, 3) := by decide +kernel
theorem dX9_keep_21 : decode cX9_keep 21 = .ok (.iload_n 1, 1) := by decide +kernel
theorem dX9_keep_22 : decode cX9_keep 22 = .ok (.iconst 1, 1) := by decide +kernel
theorem dX9_keep_23 : decode cX9_keep 23 = .ok (.bastore, 1) := by decide +kernel
theorem dX9_keep_24 : decode cX9_keep 24 = .ok (.aload_n 0, 1) := by decide +kernel
theorem dX9_keep_25 : decode cX9_keep 25 = .ok (.aload_n 0, 1) := by decide +kernel
theorem dX9_keep_26 : decode cX9_keep 26 = .ok (.getfield 81, 3) := by decide +kernel
theorem dX9_keep_29 : decode cX9_keep 29 = .ok (.bipush 121, 2) := by decide +kernel
theorem dX9_keep_31 : decode cX9_keep 31 = .ok (.iload_n 1, 1) := by decide +kernel
theorem dX9_keep_32 : decode cX9_keep 32 = .ok (.imul, 1) := by decide +kernel
theorem dX9_keep_33 : decode cX9_keep 33 = .ok (.invokevirtual 223, 3) := by decide +kernel
theorem dX9_keep_36 : decode cX9_keep 36 = .ok (.iconst 0, 1) := by decide +kernel
theorem dX9_keep_37 : decode cX9_keep 37 = .ok (.istore_n 2, 1) := by decide +kernel
theorem dX9_keep_38 : decode cX9_keep 38 = .ok (.iload_n 2, 1) := by decide +kernel
theorem dX9_keep_39 : decode cX9_keep 39 = .ok (.bipush 10, 2) := by decide +kernel
theorem dX9_keep_41 : decode cX9_keep 41 = .ok (.if_icmp .ge 82, 3) := by decide +kernel
theorem dX9_keep_44 : decode cX9_keep 44 = .ok (.aload_n 0, 1) := by decide +kernel
theorem dX9_keep_45 : decode cX9_keep 45 = .ok (.getfield 84, 3) := by decide +kernel
theorem dX9_keep_48 : decode cX9_keep 48 = .ok (.bipush 30, 2) := by decide +kernel
theorem dX9_keep_50 : decode cX9_keep 50 = .ok (.iload_n 1, 1) := by decide +kernel
theorem dX9_keep_51 : decode cX9_keep 51 = .ok (.imul, 1) := by decide +kernel
theorem dX9_keep_52 : decode cX9_keep 52 = .ok (.iload_n 2, 1) := by decide +kernel
theorem dX9_keep_53 : decode cX9_keep 53 = .ok (.iadd, 1) := by decide +kernel
theorem dX9_keep_54 : decode cX9_keep 54 = .ok (.aload_n 0, 1) := by decide +kernel
theorem dX9_keep_55 : decode cX9_keep 55 = .ok (.getfield 36, 3) := by decide +kernel
theorem dX9_keep_58 : decode cX9_keep 58 = .ok (.iload_n 2, 1) := by decide +kernel
theorem dX9_keep_59 : decode cX9_keep 59 = .ok (.iaload, 1) := by decide +kernel
theorem dX9_keep_60 : decode cX9_keep 60 = .ok (.iastore, 1) := by decide +kernel
theorem dX9_keep_61 : decode cX9_keep 61 = .ok (.aload_n 0, 1) := by decide +kernel
theorem dX9_keep_62 : decode cX9_keep 62 = .ok (.getfield 84, 3) := by decide +kernel
theorem dX9_keep_65 : decode cX9_keep 65 = .ok (.bipush 30, 2) := by decide +kernel
theorem dX9_keep_67 : decode cX9_keep 67 = .ok (.iload_n 1, 1) := by decide +kernel
theorem dX9_keep_68 : decode cX9_keep 68 = .ok (.imul, 1) := by decide +kernel
theorem dX9_keep_69 : decode cX9_keep 69 = .ok (.bipush 10, 2) := by decide +kernel
theorem dX9_keep_71 : decode cX9_keep 71 = .ok (.iadd, 1) := by decide +kernel
theorem dX9_keep_72 : decode cX9_keep 72 = .ok (.iload_n 2, 1) := by decide +kernel
theorem dX9_keep_73 : decode cX9_keep 73 = .ok (.iadd, 1) := by decide +kernel
theorem dX9_keep_74 : decode cX9_keep 74 = .ok (.aload_n 0, 1) := by decide +kernel
theorem dX9_keep_75 : decode cX9_keep 75 = .ok (.getfield 23, 3) := by decide +kernel
theorem dX9_keep_78 : decode cX9_keep 78 = .ok (.iload_n 2, 1) := by decide +kernel
theorem dX9_keep_79 : decode cX9_keep 79 = .ok (.baload, 1) := by decide +kernel
theorem dX9_keep_80 : decode cX9_keep 80 = .ok (.ifCond .eq 7, 3) := by decide +kernel
theorem dX9_keep_83 : decode cX9_keep 83 = .ok (.iconst 1, 1) := by decide +kernel
theorem dX9_keep_84 : decode cX9_keep 84 = .ok (.goto 4, 3) := by decide +kernel
theorem dX9_keep_87 : decode cX9_keep 87 = .ok (.iconst 0, 1) := by decide +kernel
theorem dX9_keep_88 : decode cX9_keep 88 = .ok (.iastore, 1) := by decide +kernel
theorem dX9_keep_89 : decode cX9_keep 89 = .ok (.aload_n 0, 1) := by decide +kernel
theorem dX9_keep_90 : decode cX9_keep 90 = .ok (.getfield 84, 3) := by decide +kernel
theorem dX9_keep_93 : decode cX9_keep 93 = .ok (.bipush 30, 2) := by decide +kernel
theorem dX9_keep_95 : decode cX9_keep 95 = .ok (.iload_n 1, 1) := by decide +kernel
theorem dX9_keep_96 : decode cX9_keep 96 = .ok (.imul, 1) := by decide +kernel
theorem dX9_keep_97 : decode cX9_keep 97 = .ok (.bipush 20, 2) := by decide +kernel
theorem dX9_keep_99 : decode cX9_keep 99 = .ok (.iadd, 1) := by decide +kernel
theorem dX9_keep_100 : decode cX9_keep 100 = .ok (.iload_n 2, 1) := by decide +kernel
theorem dX9_keep_101 : decode cX9_keep 101 = .ok (.iadd, 1) := by decide +kernel
theorem dX9_keep_102 : decode cX9_keep 102 = .ok (.aload_n 0, 1) := by decide +kernel
theorem dX9_keep_103 : decode cX9_keep 103 = .ok (.getfield 33, 3) := by decide +kernel
theorem dX9_keep_106 : decode cX9_keep 106 = .ok (.iload_n 2, 1) := by decide +kernel
theorem dX9_keep_107 : decode cX9_keep 107 = .ok (.baload, 1) := by decide +kernel
theorem dX9_keep_108 : decode cX9_keep 108 = .ok (.ifCond .eq 7, 3) := by decide +kernel
theorem dX9_keep_111 : decode cX9_keep 111 = .ok (.iconst 1, 1) := by decide +kernel
theorem dX9_keep_112 : decode cX9_keep 112 = .ok (.goto 4, 3) := by decide +kernel
theorem dX9_keep_115 : decode cX9_keep 115 = .ok (.iconst 0, 1) := by decide +kernel
theorem dX9_keep_116 : decode cX9_keep 116 = .ok (.iastore, 1) := by decide +kernel
theorem dX9_keep_117 : decode cX9_keep 117 = .ok (.iinc 2 1, 3) := by decide +kernel
theorem dX9_keep_120 : decode cX9_keep 120 = .ok (.goto (-82), 3) := by decide +kernel
theorem dX9_keep_123 : decode cX9_keep 123 = .ok (.iconst 0, 1) := by decide +kernel
theorem dX9_keep_124 : decode cX9_keep 124 = .ok (.istore_n 2, 1) := by decide +kernel
theorem dX9_keep_125 : decode cX9_keep 125 = .ok (.iload_n 2, 1) := by decide +kernel
theorem dX9_keep_126 : decode cX9_keep 126 = .ok (.sipush 968, 3) := by decide +kernel
theorem dX9_keep_129 : decode cX9_keep 129 = .ok (.if_icmp .ge 27, 3) := by decide +kernel
theorem dX9_keep_132 : decode cX9_keep 132 = .ok (.aload_n 0, 1) := by decide +kernel
theorem dX9_keep_133 : decode cX9_keep 133 = .ok (.getfield 87, 3) := by decide +kernel
theorem dX9_keep_136 : decode cX9_keep 136 = .ok (.sipush 968, 3) := by decide +kernel
theorem dX9_keep_139 : decode cX9_keep 139 = .ok (.iload_n 1, 1) := by decide +kernel
theorem dX9_keep_140 : decode cX9_keep 140 = .ok (.imul, 1) := by decide +kernel
theorem dX9_keep_141 : decode cX9_keep 141 = .ok (.iload_n 2, 1) := by decide +kernel
theorem dX9_keep_142 : decode cX9_keep 142 = .ok (.iadd, 1) := by decide +kernel
theorem dX9_keep_143 : decode cX9_keep 143 = .ok (.aload_n 0, 1) := by decide +kernel
theorem dX9_keep_144 : decode cX9_keep 144 = .ok (.getfield 72, 3) := by decide +kernel
theorem dX9_keep_147 : decode cX9_keep 147 = .ok (.iload_n 2, 1) := by decide +kernel
theorem dX9_keep_148 : decode cX9_keep 148 = .ok (.iaload, 1) := by decide +kernel
theorem dX9_keep_149 : decode cX9_keep 149 = .ok (.iastore, 1) := by decide +kernel
theorem dX9_keep_150 : decode cX9_keep 150 = .ok (.iinc 2 1, 3) := by decide +kernel
theorem dX9_keep_153 : decode cX9_keep 153 = .ok (.goto (-28), 3) := by decide +kernel
theorem dX9_keep_156 : decode cX9_keep 156 = .ok (.iconst 0, 1) := by decide +kernel
theorem dX9_keep_157 : decode cX9_keep 157 = .ok (.istore_n 2, 1) := by decide +kernel
theorem dX9_keep_158 : decode cX9_keep 158 = .ok (.iload_n 2, 1) := by decide +kernel
theorem dX9_keep_159 : decode cX9_keep 159 = .ok (.bipush 16, 2) := by decide +kernel
theorem dX9_keep_161 : decode cX9_keep 161 = .ok (.if_icmp .ge 46, 3) := by decide +kernel
theorem dX9_keep_164 : decode cX9_keep 164 = .ok (.aload_n 0, 1) := by decide +kernel
theorem dX9_keep_165 : decode cX9_keep 165 = .ok (.getfield 90, 3) := by decide +kernel
theorem dX9_keep_168 : decode cX9_keep 168 = .ok (.bipush 32, 2) := by decide +kernel
theorem dX9_keep_170 : decode cX9_keep 170 = .ok (.iload_n 1, 1) := by decide +kernel
theorem dX9_keep_171 : decode cX9_keep 171 = .ok (.imul, 1) := by decide +kernel
theorem dX9_keep_172 : decode cX9_keep 172 = .ok (.iload_n 2, 1) := by decide +kernel
theorem dX9_keep_173 : decode cX9_keep 173 = .ok (.iadd, 1) := by decide +kernel
theorem dX9_keep_174 : decode cX9_keep 174 = .ok (.aload_n 0, 1) := by decide +kernel
theorem dX9_keep_175 : decode cX9_keep 175 = .ok (.getfield 75, 3) := by decide +kernel
theorem dX9_keep_178 : decode cX9_keep 178 = .ok (.iload_n 2, 1) := by decide +kernel
theorem dX9_keep_179 : decode cX9_keep 179 = .ok (.iaload, 1) := by decide +kernel
theorem dX9_keep_180 : decode cX9_keep 180 = .ok (.iastore, 1) := by decide +kernel
theorem dX9_keep_181 : decode cX9_keep 181 = .ok (.aload_n 0, 1) := by decide +kernel
theorem dX9_keep_182 : decode cX9_keep 182 = .ok (.getfield 90, 3) := by decide +kernel
theorem dX9_keep_185 : decode cX9_keep 185 = .ok (.bipush 32, 2) := by decide +kernel
theorem dX9_keep_187 : decode cX9_keep 187 = .ok (.iload_n 1, 1) := by decide +kernel
theorem dX9_keep_188 : decode cX9_keep 188 = .ok (.imul, 1) := by decide +kernel
theorem dX9_keep_189 : decode cX9_keep 189 = .ok (.bipush 16, 2) := by decide +kernel
theorem dX9_keep_191 : decode cX9_keep 191 = .ok (.iadd, 1) := by decide +kernel
theorem dX9_keep_192 : decode cX9_keep 192 = .ok (.iload_n 2, 1) := by decide +kernel
theorem dX9_keep_193 : decode cX9_keep 193 = .ok (.iadd, 1) := by decide +kernel
theorem dX9_keep_194 : decode cX9_keep 194 = .ok (.aload_n 0, 1) := by decide +kernel
theorem dX9_keep_195 : decode cX9_keep 195 = .ok (.getfield 78, 3) := by decide +kernel
theorem dX9_keep_198 : decode cX9_keep 198 = .ok (.iload_n 2, 1) := by decide +kernel
theorem dX9_keep_199 : decode cX9_keep 199 = .ok (.iaload, 1) := by decide +kernel
theorem dX9_keep_200 : decode cX9_keep 200 = .ok (.iastore, 1) := by decide +kernel
theorem dX9_keep_201 : decode cX9_keep 201 = .ok (.iinc 2 1, 3) := by decide +kernel
theorem dX9_keep_204 : decode cX9_keep 204 = .ok (.goto (-46), 3) := by decide +kernel
theorem dX9_keep_207 : decode cX9_keep 207 = .ok (.aload_n 0, 1) := by decide +kernel
theorem dX9_keep_208 : decode cX9_keep 208 = .ok (.getfield 96, 3) := by decide +kernel
theorem dX9_keep_211 : decode cX9_keep 211 = .ok (.iload_n 1, 1) := by decide +kernel
theorem dX9_keep_212 : decode cX9_keep 212 = .ok (.aload_n 0, 1) := by decide +kernel
theorem dX9_keep_213 : decode cX9_keep 213 = .ok (.getfield 169, 3) := by decide +kernel
theorem dX9_keep_216 : decode cX9_keep 216 = .ok (.iastore, 1) := by decide +kernel
theorem dX9_keep_217 : decode cX9_keep 217 = .ok (.aload_n 0, 1) := by decide +kernel
theorem dX9_keep_218 : decode cX9_keep 218 = .ok (.getfield 111, 3) := by decide +kernel
theorem dX9_keep_221 : decode cX9_keep 221 = .ok (.ireturn, 1) := by decide +kernel
theorem dX9_again_0 : decode cX9_again 0 = .ok (.aload_n 0, 1) := by decide +kernel
theorem dX9_again_1 : decode cX9_again 1 = .ok (.iconst 0, 1) := by decide +kernel
theorem dX9_again_2 : decode cX9_again 2 = .ok (.putfield 108, 3) := by decide +kernel
theorem dX9_again_5 : decode cX9_again 5 = .ok (.iload_n 1, 1) := by decide +kernel
theorem dX9_again_6 : decode cX9_again 6 = .ok (.i2l, 1) := by decide +kernel
theorem dX9_again_7 : decode cX9_again 7 = .ok (.lconst 0, 1) := by decide +kernel
theorem dX9_again_8 : decode cX9_again 8 = .ok (.lconst 1, 1) := by decide +kernel
theorem dX9_again_9 : decode cX9_again 9 = .ok (.invokestatic 114, 3) := by decide +kernel
theorem dX9_again_12 : decode cX9_again 12 = .ok (.ifCond .ne 5, 3) := by decide +kernel
theorem dX9_again_15 : decode cX9_again 15 = .ok (.iconst (-1), 1) := by decide +kernel
theorem dX9_again_16 : decode cX9_again 16 = .ok (.ireturn, 1) := by decide +kernel
theorem dX9_again_17 : decode cX9_again 17 = .ok (.aload_n 0, 1) := by decide +kernel
theorem dX9_again_18 : decode cX9_again 18 = .ok (.getfield 93, 3) := by decide +kernel
theorem dX9_again_21 : decode cX9_again 21 = .ok (.iload_n 1, 1) := by decide +kernel
theorem dX9_again_22 : decode cX9_again 22 = .ok (.baload, 1) := by decide +kernel
theorem dX9_again_23 : decode cX9_again 23 = .ok (.ifCond .ne 6, 3) := by decide +kernel
theorem dX9_again_26 : decode cX9_again 26 = .ok (.bipush (-3), 2) := by decide +kernel
theorem dX9_again_28 : decode cX9_again 28 = .ok (.ireturn, 1) := by decide +kernel
theorem dX9_again_29 : decode cX9_again 29 = .ok (.aload_n 0, 1) := by decide +kernel
theorem dX9_again_30 : decode cX9_again 30 = .ok (.aload_n 0, 1) := by decide +kernel
theorem dX9_again_31 : decode cX9_again 31 = .ok (.getfield 81, 3) := by decide +kernel
theorem dX9_again_34 : decode cX9_again 34 = .ok (.bipush 121, 2) := by decide +kernel
theorem dX9_again_36 : decode cX9_again 36 = .ok (.iload_n 1, 1) := by decide +kernel
theorem dX9_again_37 : decode cX9_again 37 = .ok (.imul, 1) := by decide +kernel
theorem dX9_again_38 : decode cX9_again 38 = .ok (.iaload, 1) := by decide +kernel
theorem dX9_again_39 : decode cX9_again 39 = .ok (.putfield 111, 3) := by decide +kernel
theorem dX9_again_42 : decode cX9_again 42 = .ok (.aload_n 0, 1) := by decide +kernel
theorem dX9_again_43 : decode cX9_again 43 = .ok (.aload_n 0, 1) := by decide +kernel
theorem dX9_again_44 : decode cX9_again 44 = .ok (.getfield 81, 3) := by decide +kernel
theorem dX9_again_47 : decode cX9_again 47 = .ok (.bipush 121, 2) := by decide +kernel
theorem dX9_again_49 : decode cX9_again 49 = .ok (.iload_n 1, 1) := by decide +kernel
theorem dX9_again_50 : decode cX9_again 50 = .ok (.imul, 1) := by decide +kernel
theorem dX9_again_51 : decode cX9_again 51 = .ok (.invokevirtual 231, 3) := by decide +kernel
theorem dX9_again_54 : decode cX9_again 54 = .ok (.iconst 0, 1) := by decide +kernel
theorem dX9_again_55 : decode cX9_again 55 = .ok (.istore_n 2, 1) := by decide +kernel
theorem dX9_again_56 : decode cX9_again 56 = .ok (.iload_n 2, 1) := by decide +kernel
theorem dX9_again_57 : decode cX9_again 57 = .ok (.bipush 10, 2) := by decide +kernel
theorem dX9_again_59 : decode cX9_again 59 = .ok (.if_icmp .ge 84, 3) := by decide +kernel
theorem dX9_again_62 : decode cX9_again 62 = .ok (.aload_n 0, 1) := by decide +kernel
theorem dX9_again_63 : decode cX9_again 63 = .ok (.getfield 36, 3) := by decide +kernel
theorem dX9_again_66 : decode cX9_again 66 = .ok (.iload_n 2, 1) := by decide +kernel
theorem dX9_again_67 : decode cX9_again 67 = .ok (.aload_n 0, 1) := by decide +kernel
theorem dX9_again_68 : decode cX9_again 68 = .ok (.getfield 84, 3) := by decide +kernel
theorem dX9_again_71 : decode cX9_again 71 = .ok (.bipush 30, 2) := by decide +kernel
theorem dX9_again_73 : decode cX9_again 73 = .ok (.iload_n 1, 1) := by decide +kernel
theorem dX9_again_74 : decode cX9_again 74 = .ok (.imul, 1) := by decide +kernel
theorem dX9_again_75 : decode cX9_again 75 = .ok (.iload_n 2, 1) := by decide +kernel
theorem dX9_again_76 : decode cX9_again 76 = .ok (.iadd, 1) := by decide +kernel
theorem dX9_again_77 : decode cX9_again 77 = .ok (.iaload, 1) := by decide +kernel
theorem dX9_again_78 : decode cX9_again 78 = .ok (.iastore, 1) := by decide +kernel
theorem dX9_again_79 : decode cX9_again 79 = .ok (.aload_n 0, 1) := by decide +kernel
theorem dX9_again_80 : decode cX9_again 80 = .ok (.getfield 23, 3) := by decide +kernel
theorem dX9_again_83 : decode cX9_again 83 = .ok (.iload_n 2, 1) := by decide +kernel
theorem dX9_again_84 : decode cX9_again 84 = .ok (.aload_n 0, 1) := by decide +kernel
theorem dX9_again_85 : decode cX9_again 85 = .ok (.getfield 84, 3) := by decide +kernel
theorem dX9_again_88 : decode cX9_again 88 = .ok (.bipush 30, 2) := by decide +kernel
theorem dX9_again_90 : decode cX9_again 90 = .ok (.iload_n 1, 1) := by decide +kernel
theorem dX9_again_91 : decode cX9_again 91 = .ok (.imul, 1) := by decide +kernel
theorem dX9_again_92 : decode cX9_again 92 = .ok (.bipush 10, 2) := by decide +kernel
theorem dX9_again_94 : decode cX9_again 94 = .ok (.iadd, 1) := by decide +kernel
theorem dX9_again_95 : decode cX9_again 95 = .ok (.iload_n 2, 1) := by decide +kernel
theorem dX9_again_96 : decode cX9_again 96 = .ok (.iadd, 1) := by decide +kernel
theorem dX9_again_97 : decode cX9_again 97 = .ok (.iaload, 1) := by decide +kernel
theorem dX9_again_98 : decode cX9_again 98 = .ok (.iconst 1, 1) := by decide +kernel
theorem dX9_again_99 : decode cX9_again 99 = .ok (.if_icmp .ne 7, 3) := by decide +kernel
theorem dX9_again_102 : decode cX9_again 102 = .ok (.iconst 1, 1) := by decide +kernel
theorem dX9_again_103 : decode cX9_again 103 = .ok (.goto 4, 3) := by decide +kernel
theorem dX9_again_106 : decode cX9_again 106 = .ok (.iconst 0, 1) := by decide +kernel
theorem dX9_again_107 : decode cX9_again 107 = .ok (.bastore, 1) := by decide +kernel
theorem dX9_again_108 : decode cX9_again 108 = .ok (.aload_n 0, 1) := by decide +kernel
theorem dX9_again_109 : decode cX9_again 109 = .ok (.getfield 33, 3) := by decide +kernel
theorem dX9_again_112 : decode cX9_again 112 = .ok (.iload_n 2, 1) := by decide +kernel
theorem dX9_again_113 : decode cX9_again 113 = .ok (.aload_n 0, 1) := by decide +kernel
theorem dX9_again_114 : decode cX9_again 114 = .ok (.getfield 84, 3) := by decide +kernel
theorem dX9_again_117 : decode cX9_again 117 = .ok (.bipush 30, 2) := by decide +kernel
theorem dX9_again_119 : decode cX9_again 119 = .ok (.iload_n 1, 1) := by decide +kernel
theorem dX9_again_120 : decode cX9_again 120 = .ok (.imul, 1) := by decide +kernel
theorem dX9_again_121 : decode cX9_again 121 = .ok (.bipush 20, 2) := by decide +kernel
theorem dX9_again_123 : decode cX9_again 123 = .ok (.iadd, 1) := by decide +kernel
theorem dX9_again_124 : decode cX9_again 124 = .ok (.iload_n 2, 1) := by decide +kernel
theorem dX9_again_125 : decode cX9_again 125 = .ok (.iadd, 1) := by decide +kernel
theorem dX9_again_126 : decode cX9_again 126 = .ok (.iaload, 1) := by decide +kernel
theorem dX9_again_127 : decode cX9_again 127 = .ok (.iconst 1, 1) := by decide +kernel
theorem dX9_again_128 : decode cX9_again 128 = .ok (.if_icmp .ne 7, 3) := by decide +kernel
theorem dX9_again_131 : decode cX9_again 131 = .ok (.iconst 1, 1) := by decide +kernel
theorem dX9_again_132 : decode cX9_again 132 = .ok (.goto 4, 3) := by decide +kernel
theorem dX9_again_135 : decode cX9_again 135 = .ok (.iconst 0, 1) := by decide +kernel
theorem dX9_again_136 : decode cX9_again 136 = .ok (.bastore, 1) := by decide +kernel
theorem dX9_again_137 : decode cX9_again 137 = .ok (.iinc 2 1, 3) := by decide +kernel
theorem dX9_again_140 : decode cX9_again 140 = .ok (.goto (-84), 3) := by decide +kernel
theorem dX9_again_143 : decode cX9_again 143 = .ok (.iconst 0, 1) := by decide +kernel
theorem dX9_again_144 : decode cX9_again 144 = .ok (.istore_n 2, 1) := by decide +kernel
theorem dX9_again_145 : decode cX9_again 145 = .ok (.iload_n 2, 1) := by decide +kernel
theorem dX9_again_146 : decode cX9_again 146 = .ok (.sipush 968, 3) := by decide +kernel
theorem dX9_again_149 : decode cX9_again 149 = .ok (.if_icmp .ge 27, 3) := by decide +kernel
theorem dX9_again_152 : decode cX9_again 152 = .ok (.aload_n 0, 1) := by decide +kernel
theorem dX9_again_153 : decode cX9_again 153 = .ok (.getfield 72, 3) := by decide +kernel
theorem dX9_again_156 : decode cX9_again 156 = .ok (.iload_n 2, 1) := by decide +kernel
theorem dX9_again_157 : decode cX9_again 157 = .ok (.aload_n 0, 1) := by decide +kernel
theorem dX9_again_158 : decode cX9_again 158 = .ok (.getfield 87, 3) := by decide +kernel
theorem dX9_again_161 : decode cX9_again 161 = .ok (.sipush 968, 3) := by decide +kernel
theorem dX9_again_164 : decode cX9_again 164 = .ok (.iload_n 1, 1) := by decide +kernel
theorem dX9_again_165 : decode cX9_again 165 = .ok (.imul, 1) := by decide +kernel
theorem dX9_again_166 : decode cX9_again 166 = .ok (.iload_n 2, 1) := by decide +kernel
theorem dX9_again_167 : decode cX9_again 167 = .ok (.iadd, 1) := by decide +kernel
theorem dX9_again_168 : decode cX9_again 168 = .ok (.iaload, 1) := by decide +kernel
theorem dX9_again_169 : decode cX9_again 169 = .ok (.iastore, 1) := by decide +kernel
theorem dX9_again_170 : decode cX9_again 170 = .ok (.iinc 2 1, 3) := by decide +kernel
theorem dX9_again_173 : decode cX9_again 173 = .ok (.goto (-28), 3) := by decide +kernel
theorem dX9_again_176 : decode cX9_again 176 = .ok (.iconst 0, 1) := by decide +kernel
theorem dX9_again_177 : decode cX9_again 177 = .ok (.istore_n 2, 1) := by decide +kernel
theorem dX9_again_178 : decode cX9_again 178 = .ok (.iload_n 2, 1) := by decide +kernel
theorem dX9_again_179 : decode cX9_again 179 = .ok (.bipush 16, 2) := by decide +kernel
theorem dX9_again_181 : decode cX9_again 181 = .ok (.if_icmp .ge 46, 3) := by decide +kernel
theorem dX9_again_184 : decode cX9_again 184 = .ok (.aload_n 0, 1) := by decide +kernel
theorem dX9_again_185 : decode cX9_again 185 = .ok (.getfield 75, 3) := by decide +kernel
theorem dX9_again_188 : decode cX9_again 188 = .ok (.iload_n 2, 1) := by decide +kernel
theorem dX9_again_189 : decode cX9_again 189 = .ok (.aload_n 0, 1) := by decide +kernel
theorem dX9_again_190 : decode cX9_again 190 = .ok (.getfield 90, 3) := by decide +kernel
theorem dX9_again_193 : decode cX9_again 193 = .ok (.bipush 32, 2) := by decide +kernel
theorem dX9_again_195 : decode cX9_again 195 = .ok (.iload_n 1, 1) := by decide +kernel
theorem dX9_again_196 : decode cX9_again 196 = .ok (.imul, 1) := by decide +kernel
theorem dX9_again_197 : decode cX9_again 197 = .ok (.iload_n 2, 1) := by decide +kernel
theorem dX9_again_198 : decode cX9_again 198 = .ok (.iadd, 1) := by decide +kernel
theorem dX9_again_199 : decode cX9_again 199 = .ok (.iaload, 1) := by decide +kernel
theorem dX9_again_200 : decode cX9_again 200 = .ok (.iastore, 1) := by decide +kernel
theorem dX9_again_201 : decode cX9_again 201 = .ok (.aload_n 0, 1) := by decide +kernel
theorem dX9_again_202 : decode cX9_again 202 = .ok (.getfield 78, 3) := by decide +kernel
theorem dX9_again_205 : decode cX9_again 205 = .ok (.iload_n 2, 1) := by decide +kernel
theorem dX9_again_206 : decode cX9_again 206 = .ok (.aload_n 0, 1) := by decide +kernel
theorem dX9_again_207 : decode cX9_again 207 = .ok (.getfield 90, 3) := by decide +kernel
theorem dX9_again_210 : decode cX9_again 210 = .ok (.bipush 32, 2) := by decide +kernel
theorem dX9_again_212 : decode cX9_again 212 = .ok (.iload_n 1, 1) := by decide +kernel
theorem dX9_again_213 : decode cX9_again 213 = .ok (.imul, 1) := by decide +kernel
theorem dX9_again_214 : decode cX9_again 214 = .ok (.bipush 16, 2) := by decide +kernel
theorem dX9_again_216 : decode cX9_again 216 = .ok (.iadd, 1) := by decide +kernel
theorem dX9_again_217 : decode cX9_again 217 = .ok (.iload_n 2, 1) := by decide +kernel
theorem dX9_again_218 : decode cX9_again 218 = .ok (.iadd, 1) := by decide +kernel
theorem dX9_again_219 : decode cX9_again 219 = .ok (.iaload, 1) := by decide +kernel
theorem dX9_again_220 : decode cX9_again 220 = .ok (.iastore, 1) := by decide +kernel
theorem dX9_again_221 : decode cX9_again 221 = .ok (.iinc 2 1, 3) := by decide +kernel
theorem dX9_again_224 : decode cX9_again 224 = .ok (.goto (-46), 3) := by decide +kernel
theorem dX9_again_227 : decode cX9_again 227 = .ok (.aload_n 0, 1) := by decide +kernel
theorem dX9_again_228 : decode cX9_again 228 = .ok (.aload_n 0, 1) := by decide +kernel
theorem dX9_again_229 : decode cX9_again 229 = .ok (.getfield 96, 3) := by decide +kernel
theorem dX9_again_232 : decode cX9_again 232 = .ok (.iload_n 1, 1) := by decide +kernel
theorem dX9_again_233 : decode cX9_again 233 = .ok (.iaload, 1) := by decide +kernel
theorem dX9_again_234 : decode cX9_again 234 = .ok (.putfield 169, 3) := by decide +kernel
theorem dX9_again_237 : decode cX9_again 237 = .ok (.aload_n 0, 1) := by decide +kernel
theorem dX9_again_238 : decode cX9_again 238 = .ok (.getfield 111, 3) := by decide +kernel
theorem dX9_again_241 : decode cX9_again 241 = .ok (.ireturn, 1) := by decide +kernel
theorem kX9_in_0 {X : Scr} {M : Mem} {P : Option AV → Mem → Prop} {x0 x2 x4 : Int} (k1 : x0 < x2 → Runs X mX9_in 17 [] [] M P) (k2 : x2 ≤ x0 → Runs X mX9_in 6 [(0, vl x0), (4, vl x4)] [] M P) : Runs X mX9_in 0 [(0, vl x0), (2, vl x2), (4, vl x4)] [] M P := by
  refine Runs.lload_n (j := 0) dX9_in_0 rfl ?_
  refine Runs.lload_n (j := 1) dX9_in_1 rfl ?_
  refine Runs.lcmp_lt (tgt := 17) dX9_in_2 dX9_in_3 (by decide) (fun h => ?_) (fun h => ?_)
  · refine Runs.picks (loc' := []) [] rfl ?_
    exact k1 h
  · refine Runs.picks (loc' := [(0, vl x0), (4, vl x4)]) [0, 2] rfl ?_
    exact k2 h
theorem kX9_in_6 {X : Scr} {M : Mem} {P : Option AV → Mem → Prop} {x0 x4 : Int} (k1 : x4 < x0 → Runs X mX9_in 17 [] [] M P) (k2 : x0 ≤ x4 → Runs X mX9_in 13 [] [] M P) : Runs X mX9_in 6 [(0, vl x0), (4, vl x4)] [] M P := by
  refine Runs.lload_n (j := 0) dX9_in_6 rfl ?_
  refine Runs.lload (j := 1) dX9_in_7 rfl ?_
  refine Runs.lcmp_gt (tgt := 17) dX9_in_9 dX9_in_10 (by decide) (fun h => ?_) (fun h => ?_)
  · refine Runs.picks (loc' := []) [] rfl ?_
    exact k1 h
  · refine Runs.picks (loc' := []) [] rfl ?_
    exact k2 h
theorem kX9_in_13 {X : Scr} {M : Mem} {P : Option AV → Mem → Prop} (k : Runs X mX9_in 18 [] [vi (1 : Int)] M P) : Runs X mX9_in 13 [] [] M P := by
  refine Runs.iconst dX9_in_13 (by decide) ?_
  refine Runs.goto (tgt := 18) dX9_in_14 (by decide) ?_
  exact k
theorem kX9_in_17 {X : Scr} {M : Mem} {P : Option AV → Mem → Prop} (k : Runs X mX9_in 18 [] [vi (0 : Int)] M P) : Runs X mX9_in 17 [] [] M P := by
  refine Runs.iconst dX9_in_17 (by decide) ?_
  exact k
theorem kX9_in_18 {X : Scr} {M : Mem} {P : Option AV → Mem → Prop} {xs0 : Int} (k : P (some (vi xs0)) M) (h1 : 0 ≤ xs0 ∧ xs0 ≤ 1 := by omega) : Runs X mX9_in 18 [] [vi xs0] M P := by
  exact Runs.retz dX9_in_18 rfl h1 k
theorem kX9_has_0 {X : Scr} {M : Mem} {P : Option AV → Mem → Prop} {x0 x1 : Int} (k1 : (zand (zshr x0 x1) (1 : Int)) ≠ (1 : Int) → Runs X mX9_has 13 [] [] M P) (k2 : (zand (zshr x0 x1) (1 : Int)) = (1 : Int) → Runs X mX9_has 9 [] [] M P) : Runs X mX9_has 0 [(0, vi x0), (1, vi x1)] [] M P := by
  refine Runs.iload_n (j := 0) dX9_has_0 rfl ?_
  refine Runs.iload_n (j := 1) dX9_has_1 rfl ?_
  refine Runs.ishr dX9_has_2 ?_
  refine Runs.iconst dX9_has_3 (by decide) ?_
  refine Runs.iand dX9_has_4 ?_
  refine Runs.iconst dX9_has_5 (by decide) ?_
  refine Runs.icmp_ne (tgt := 13) dX9_has_6 (by decide) (fun h => ?_) (fun h => ?_)
  · refine Runs.picks (loc' := []) [] rfl ?_
    exact k1 h
  · refine Runs.picks (loc' := []) [] rfl ?_
    exact k2 h
theorem kX9_has_9 {X : Scr} {M : Mem} {P : Option AV → Mem → Prop} (k : Runs X mX9_has 14 [] [vi (1 : Int)] M P) : Runs X mX9_has 9 [] [] M P := by
  refine Runs.iconst dX9_has_9 (by decide) ?_
  refine Runs.goto (tgt := 14) dX9_has_10 (by decide) ?_
  exact k
theorem kX9_has_13 {X : Scr} {M : Mem} {P : Option AV → Mem → Prop} (k : Runs X mX9_has 14 [] [vi (0 : Int)] M P) : Runs X mX9_has 13 [] [] M P := by
  refine Runs.iconst dX9_has_13 (by decide) ?_
  exact k
theorem kX9_has_14 {X : Scr} {M : Mem} {P : Option AV → Mem → Prop} {xs0 : Int} (k : P (some (vi xs0)) M) (h1 : 0 ≤ xs0 ∧ xs0 ≤ 1 := by omega) : Runs X mX9_has 14 [] [vi xs0] M P := by
  exact Runs.retz dX9_has_14 rfl h1 k
theorem kX9_many_0 {X : Scr} {M : Mem} {P : Option AV → Mem → Prop} {x0 : Int} (k : Runs X mX9_many 4 [(0, vi x0), (1, vi (0 : Int)), (2, vi (0 : Int))] [] M P) : Runs X mX9_many 0 [(0, vi x0)] [] M P := by
  refine Runs.iconst dX9_many_0 (by decide) ?_
  refine Runs.istore_n (loc' := [(0, vi x0), (1, vi (0 : Int))]) dX9_many_1 rfl (by decide) rfl ?_
  refine Runs.iconst dX9_many_2 (by decide) ?_
  refine Runs.istore_n (loc' := [(0, vi x0), (1, vi (0 : Int)), (2, vi (0 : Int))]) dX9_many_3 rfl (by decide) rfl ?_
  exact k
theorem kX9_many_4 {X : Scr} {M : Mem} {P : Option AV → Mem → Prop} {x0 x1 x2 : Int} (k1 : (10 : Int) ≤ x2 → Runs X mX9_many 24 [(1, vi x1)] [] M P) (k2 : x2 < (10 : Int) → Runs X mX9_many 10 [(0, vi x0), (1, vi x1), (2, vi x2)] [] M P) : Runs X mX9_many 4 [(0, vi x0), (1, vi x1), (2, vi x2)] [] M P := by
  refine Runs.iload_n (j := 2) dX9_many_4 rfl ?_
  refine Runs.bipush dX9_many_5 (by decide) (by decide) ?_
  refine Runs.icmp_ge (tgt := 24) dX9_many_7 (by decide) (fun h => ?_) (fun h => ?_)
  · refine Runs.picks (loc' := [(1, vi x1)]) [1] rfl ?_
    exact k1 h
  · exact k2 h
theorem kX9_many_10 {X : Scr} {M : Mem} {P : Option AV → Mem → Prop} {x0 x1 x2 : Int} (k : Runs X mX9_many 4 [(0, vi x0), (1, vi (x1 + (zand (zshr x0 x2) (1 : Int)))), (2, vi (x2 + (1 : Int)))] [] M P) (h1 : -2147483648 ≤ (x1 + (zand (zshr x0 x2) (1 : Int))) ∧ (x1 + (zand (zshr x0 x2) (1 : Int))) ≤ 2147483647 := by omega) (h2 : -2147483648 ≤ (x2 + (1 : Int)) ∧ (x2 + (1 : Int)) ≤ 2147483647 := by omega) : Runs X mX9_many 10 [(0, vi x0), (1, vi x1), (2, vi x2)] [] M P := by
  refine Runs.iload_n (j := 1) dX9_many_10 rfl ?_
  refine Runs.iload_n (j := 0) dX9_many_11 rfl ?_
  refine Runs.iload_n (j := 2) dX9_many_12 rfl ?_
  refine Runs.ishr dX9_many_13 ?_
  refine Runs.iconst dX9_many_14 (by decide) ?_
  refine Runs.iand dX9_many_15 ?_
  refine Runs.iadd dX9_many_16 h1 ?_
  refine Runs.istore_n (loc' := [(0, vi x0), (1, vi (x1 + (zand (zshr x0 x2) (1 : Int)))), (2, vi x2)]) dX9_many_17 rfl (by decide) rfl ?_
  refine Runs.iinc (k := 2) (loc' := [(0, vi x0), (1, vi (x1 + (zand (zshr x0 x2) (1 : Int)))), (2, vi (x2 + (1 : Int)))]) dX9_many_18 rfl h2 (by decide) rfl ?_
  refine Runs.goto (tgt := 4) dX9_many_21 (by decide) ?_
  exact k
theorem kX9_many_24 {X : Scr} {M : Mem} {P : Option AV → Mem → Prop} {x1 : Int} (k : P (some (vi x1)) M) : Runs X mX9_many 24 [(1, vi x1)] [] M P := by
  refine Runs.iload_n (j := 0) dX9_many_24 rfl ?_
  exact Runs.reti dX9_many_25 rfl k
theorem kX9_noTooth_0 {X : Scr} {M : Mem} {P Q : Option AV → Mem → Prop} {x1 : Int} (hC : Call X mX9_in [vl x1, vl (0 : Int), vl ((M 200 6) - (1 : Int))] M Q) (k : ∀ (z : Int) (M1 : Mem), Q (some (vi z)) M1 → Runs X mX9_noTooth 13 [] [vi z] M1 P) (h1 : -2147483648 ≤ ((M 200 6) - (1 : Int)) ∧ ((M 200 6) - (1 : Int)) ≤ 2147483647 := by omega) : Runs X mX9_noTooth 0 [(0, vr 200), (1, vi x1)] [] M P := by
  refine Runs.iload_n (j := 1) dX9_noTooth_0 rfl ?_
  refine Runs.i2l dX9_noTooth_1 ?_
  refine Runs.lconst (z := 0) dX9_noTooth_2 rfl (by decide) ?_
  refine Runs.aload_n (j := 0) dX9_noTooth_3 rfl ?_
  refine Runs.geti (ci := 9) (j := 6) (C := RX9) (T := TX9) (N := 48) dX9_noTooth_4 rfl cls_X9 (by decide) rfl fl_X9_111 (Or.inl rfl) ?_
  refine Runs.iconst dX9_noTooth_7 (by decide) ?_
  refine Runs.isub dX9_noTooth_8 h1 ?_
  refine Runs.i2l dX9_noTooth_9 ?_
  refine Runs.callSi (y := mX9_in) (n := 3) (as := [vl x1, vl (0 : Int), vl ((M 200 6) - (1 : Int))]) (st := []) dX9_noTooth_10 oc_X9_in sm_X9_in ml_X9_114 rfl ⟨(Nat.le_of_ble_eq_true rfl), (Nat.le_of_ble_eq_true rfl)⟩ (Nat.le_of_ble_eq_true rfl) (Nat.le_of_ble_eq_true rfl) (Or.inr rfl) hC (fun z M1 hQ => ?_)
  refine Runs.picks (loc' := []) [] rfl ?_
  exact k z M1 hQ
theorem kX9_noTooth_13 {X : Scr} {M : Mem} {P : Option AV → Mem → Prop} {xs0 : Int} (k1 : xs0 ≠ 0 → Runs X mX9_noTooth 20 [] [] M P) (k2 : xs0 = 0 → Runs X mX9_noTooth 16 [] [] M P) : Runs X mX9_noTooth 13 [] [vi xs0] M P := by
  refine Runs.if_ne (tgt := 20) dX9_noTooth_13 (by decide) (fun h => ?_) (fun h => ?_)
  · exact k1 h
  · exact k2 h
theorem kX9_noTooth_16 {X : Scr} {M : Mem} {P : Option AV → Mem → Prop} (k : Runs X mX9_noTooth 21 [] [vi (1 : Int)] M P) : Runs X mX9_noTooth 16 [] [] M P := by
  refine Runs.iconst dX9_noTooth_16 (by decide) ?_
  refine Runs.goto (tgt := 21) dX9_noTooth_17 (by decide) ?_
  exact k
theorem kX9_noTooth_20 {X : Scr} {M : Mem} {P : Option AV → Mem → Prop} (k : Runs X mX9_noTooth 21 [] [vi (0 : Int)] M P) : Runs X mX9_noTooth 20 [] [] M P := by
  refine Runs.iconst dX9_noTooth_20 (by decide) ?_
  exact k
theorem kX9_noTooth_21 {X : Scr} {M : Mem} {P : Option AV → Mem → Prop} {xs0 : Int} (k : P (some (vi xs0)) M) (h1 : 0 ≤ xs0 ∧ xs0 ≤ 1 := by omega) : Runs X mX9_noTooth 21 [] [vi xs0] M P := by
  exact Runs.retz dX9_noTooth_21 rfl h1 k
theorem kX9_noOne_0 {X : Scr} {M : Mem} {P Q : Option AV → Mem → Prop} {x0 : Int} (hC : Call X mX9_in [vl x0, vl (0 : Int), vl (3 : Int)] M Q) (k : ∀ (z : Int) (M1 : Mem), Q (some (vi z)) M1 → Runs X mX9_noOne 9 [] [vi z] M1 P) : Runs X mX9_noOne 0 [(0, vi x0)] [] M P := by
  refine Runs.iload_n (j := 0) dX9_noOne_0 rfl ?_
  refine Runs.i2l dX9_noOne_1 ?_
  refine Runs.lconst (z := 0) dX9_noOne_2 rfl (by decide) ?_
  refine Runs.ldc2 (z := 3) dX9_noOne_3 w4_139 (by decide) (by decide) ?_
  refine Runs.callSi (y := mX9_in) (n := 3) (as := [vl x0, vl (0 : Int), vl (3 : Int)]) (st := []) dX9_noOne_6 oc_X9_in sm_X9_in ml_X9_114 rfl ⟨(Nat.le_of_ble_eq_true rfl), (Nat.le_of_ble_eq_true rfl)⟩ (Nat.le_of_ble_eq_true rfl) (Nat.le_of_ble_eq_true rfl) (Or.inr rfl) hC (fun z M1 hQ => ?_)
  refine Runs.picks (loc' := []) [] rfl ?_
  exact k z M1 hQ
theorem kX9_noOne_9 {X : Scr} {M : Mem} {P : Option AV → Mem → Prop} {xs0 : Int} (k1 : xs0 ≠ 0 → Runs X mX9_noOne 16 [] [] M P) (k2 : xs0 = 0 → Runs X mX9_noOne 12 [] [] M P) : Runs X mX9_noOne 9 [] [vi xs0] M P := by
  refine Runs.if_ne (tgt := 16) dX9_noOne_9 (by decide) (fun h => ?_) (fun h => ?_)
  · exact k1 h
  · exact k2 h
theorem kX9_noOne_12 {X : Scr} {M : Mem} {P : Option AV → Mem → Prop} (k : Runs X mX9_noOne 17 [] [vi (1 : Int)] M P) : Runs X mX9_noOne 12 [] [] M P := by
  refine Runs.iconst dX9_noOne_12 (by decide) ?_
  refine Runs.goto (tgt := 17) dX9_noOne_13 (by decide) ?_
  exact k
theorem kX9_noOne_16 {X : Scr} {M : Mem} {P : Option AV → Mem → Prop} (k : Runs X mX9_noOne 17 [] [vi (0 : Int)] M P) : Runs X mX9_noOne 16 [] [] M P := by
  refine Runs.iconst dX9_noOne_16 (by decide) ?_
  exact k
theorem kX9_noOne_17 {X : Scr} {M : Mem} {P : Option AV → Mem → Prop} {xs0 : Int} (k : P (some (vi xs0)) M) (h1 : 0 ≤ xs0 ∧ xs0 ≤ 1 := by omega) : Runs X mX9_noOne 17 [] [vi xs0] M P := by
  exact Runs.retz dX9_noOne_17 rfl h1 k
theorem kX9_write_0 {X : Scr} {M : Mem} {P Q : Option AV → Mem → Prop} {x1 x2 : Int} (hC : Call X mX9_in [vl x1, vl (1 : Int), vl (8 : Int)] (up2 M 200 0 (0 : Int)) Q) (k : ∀ (z : Int) (M1 : Mem), Q (some (vi z)) M1 → Runs X mX9_write 14 [(0, vr 200), (1, vi x1), (2, vl x2)] [vi z] M1 P) : Runs X mX9_write 0 [(0, vr 200), (1, vi x1), (2, vl x2)] [] M P := by
  refine Runs.aload_n (j := 0) dX9_write_0 rfl ?_
  refine Runs.iconst dX9_write_1 (by decide) ?_
  refine Runs.puti (ci := 9) (j := 0) (C := RX9) (T := TX9) (N := 48) dX9_write_2 rfl cls_X9 (by decide) rfl fl_X9_108 rfl rfl ?_
  refine Runs.iload_n (j := 1) dX9_write_5 rfl ?_
  refine Runs.i2l dX9_write_6 ?_
  refine Runs.lconst (z := 1) dX9_write_7 rfl (by decide) ?_
  refine Runs.ldc2 (z := 8) dX9_write_8 w4_60 (by decide) (by decide) ?_
  refine Runs.callSi (y := mX9_in) (n := 3) (as := [vl x1, vl (1 : Int), vl (8 : Int)]) (st := []) dX9_write_11 oc_X9_in sm_X9_in ml_X9_114 rfl ⟨(Nat.le_of_ble_eq_true rfl), (Nat.le_of_ble_eq_true rfl)⟩ (Nat.le_of_ble_eq_true rfl) (Nat.le_of_ble_eq_true rfl) (Or.inr rfl) hC (fun z M1 hQ => ?_)
  exact k z M1 hQ
theorem kX9_write_14 {X : Scr} {M : Mem} {P : Option AV → Mem → Prop} {x1 x2 xs0 : Int} (k1 : xs0 ≠ 0 → Runs X mX9_write 20 [(0, vr 200), (1, vi x1), (2, vl x2)] [] M P) (k2 : xs0 = 0 → Runs X mX9_write 17 [] [] M P) : Runs X mX9_write 14 [(0, vr 200), (1, vi x1), (2, vl x2)] [vi xs0] M P := by
  refine Runs.if_ne (tgt := 20) dX9_write_14 (by decide) (fun h => ?_) (fun h => ?_)
  · exact k1 h
  · refine Runs.picks (loc' := []) [] rfl ?_
    exact k2 h
theorem kX9_write_17 {X : Scr} {M : Mem} {P : Option AV → Mem → Prop} (k : P (some (vi (-2 : Int))) M) : Runs X mX9_write 17 [] [] M P := by
  refine Runs.bipush dX9_write_17 (by decide) (by decide) ?_
  exact Runs.reti dX9_write_19 rfl k
theorem kX9_write_20 {X : Scr} {M : Mem} {P : Option AV → Mem → Prop} {x1 x2 : Int} (k1 : ((M 200 2) + x1) ≤ (72 : Int) → Runs X mX9_write 34 [(0, vr 200), (1, vi x1), (2, vl x2)] [] M P) (k2 : (72 : Int) < ((M 200 2) + x1) → Runs X mX9_write 31 [] [] M P) (h1 : -2147483648 ≤ ((M 200 2) + x1) ∧ ((M 200 2) + x1) ≤ 2147483647 := by omega) : Runs X mX9_write 20 [(0, vr 200), (1, vi x1), (2, vl x2)] [] M P := by
  refine Runs.aload_n (j := 0) dX9_write_20 rfl ?_
  refine Runs.geti (ci := 9) (j := 2) (C := RX9) (T := TX9) (N := 48) dX9_write_21 rfl cls_X9 (by decide) rfl fl_X9_122 (Or.inl rfl) ?_
  refine Runs.iload_n (j := 1) dX9_write_24 rfl ?_
  refine Runs.iadd dX9_write_25 h1 ?_
  refine Runs.bipush dX9_write_26 (by decide) (by decide) ?_
  refine Runs.icmp_le (tgt := 34) dX9_write_28 (by decide) (fun h => ?_) (fun h => ?_)
  · exact k1 h
  · refine Runs.picks (loc' := []) [] rfl ?_
    exact k2 h
theorem kX9_write_31 {X : Scr} {M : Mem} {P : Option AV → Mem → Prop} (k : P (some (vi (-4 : Int))) M) : Runs X mX9_write 31 [] [] M P := by
  refine Runs.bipush dX9_write_31 (by decide) (by decide) ?_
  exact Runs.reti dX9_write_33 rfl k
theorem kX9_write_34 {X : Scr} {M : Mem} {P : Option AV → Mem → Prop} {x1 x2 : Int} (k : Runs X mX9_write 39 [(0, vr 200), (2, vl x2), (4, vi (x1 - (1 : Int)))] [] M P) (h1 : -2147483648 ≤ (x1 - (1 : Int)) ∧ (x1 - (1 : Int)) ≤ 2147483647 := by omega) : Runs X mX9_write 34 [(0, vr 200), (1, vi x1), (2, vl x2)] [] M P := by
  refine Runs.iload_n (j := 1) dX9_write_34 rfl ?_
  refine Runs.iconst dX9_write_35 (by decide) ?_
  refine Runs.isub dX9_write_36 h1 ?_
  refine Runs.istore (loc' := [(0, vr 200), (1, vi x1), (2, vl x2), (4, vi (x1 - (1 : Int)))]) dX9_write_37 (by decide) rfl ?_
  refine Runs.picks (loc' := [(0, vr 200), (2, vl x2), (4, vi (x1 - (1 : Int)))]) [0, 2, 3] rfl ?_
  exact k
theorem kX9_write_39 {X : Scr} {M : Mem} {P : Option AV → Mem → Prop} {x2 x4 : Int} (k1 : x4 < 0 → Runs X mX9_write 81 [(0, vr 200)] [] M P) (k2 : 0 ≤ x4 → Runs X mX9_write 44 [(0, vr 200), (2, vl x2), (4, vi x4)] [] M P) : Runs X mX9_write 39 [(0, vr 200), (2, vl x2), (4, vi x4)] [] M P := by
  refine Runs.iload (j := 2) dX9_write_39 rfl ?_
  refine Runs.if_lt (tgt := 81) dX9_write_41 (by decide) (fun h => ?_) (fun h => ?_)
  · refine Runs.picks (loc' := [(0, vr 200)]) [0] rfl ?_
    exact k1 h
  · exact k2 h
theorem kX9_write_44 {X : Scr} {M : Mem} {P : Option AV → Mem → Prop} {x2 x4 : Int} (k : Runs X mX9_write 39 [(0, vr 200), (2, vl x2), (4, vi (x4 + (-1 : Int)))] [] (up2 (up2 M 301 ((M 200 2)).toNat (zand (l2i (qshr x2 ((8 : Int) * x4))) (255 : Int))) 200 2 (((up2 M 301 ((M 200 2)).toNat (zand (l2i (qshr x2 ((8 : Int) * x4))) (255 : Int))) 200 2) + (1 : Int))) P) (h1 : -2147483648 ≤ ((8 : Int) * x4) ∧ ((8 : Int) * x4) ≤ 2147483647 := by omega) (h2 : 0 ≤ (M 200 2) := by omega) (h3 : (M 200 2) < ((72 : Nat) : Int) := by omega) (h4 : -2147483648 ≤ (((up2 M 301 ((M 200 2)).toNat (zand (l2i (qshr x2 ((8 : Int) * x4))) (255 : Int))) 200 2) + (1 : Int)) ∧ (((up2 M 301 ((M 200 2)).toNat (zand (l2i (qshr x2 ((8 : Int) * x4))) (255 : Int))) 200 2) + (1 : Int)) ≤ 2147483647 := by omega) (h5 : -2147483648 ≤ (x4 + (-1 : Int)) ∧ (x4 + (-1 : Int)) ≤ 2147483647 := by omega) : Runs X mX9_write 44 [(0, vr 200), (2, vl x2), (4, vi x4)] [] M P := by
  refine Runs.aload_n (j := 0) dX9_write_44 rfl ?_
  refine Runs.getr (o' := 301) (ci := 9) (j := 1) (C := RX9) (T := TX9) (N := 48) dX9_write_45 rfl cls_X9 (by decide) rfl fl_X9_7 rfl ⟨rfl, "", Or.inr ⟨_, rfl⟩⟩ ?_
  refine Runs.aload_n (j := 0) dX9_write_48 rfl ?_
  refine Runs.geti (ci := 9) (j := 2) (C := RX9) (T := TX9) (N := 48) dX9_write_49 rfl cls_X9 (by decide) rfl fl_X9_122 (Or.inl rfl) ?_
  refine Runs.lload_n (j := 1) dX9_write_52 rfl ?_
  refine Runs.bipush dX9_write_53 (by decide) (by decide) ?_
  refine Runs.iload (j := 2) dX9_write_55 rfl ?_
  refine Runs.imul dX9_write_57 h1 ?_
  refine Runs.lshr dX9_write_58 ?_
  refine Runs.l2i dX9_write_59 ?_
  refine Runs.sipush dX9_write_60 (by decide) (by decide) ?_
  refine Runs.iand dX9_write_63 ?_
  refine Runs.iast dX9_write_64 rfl h2 h3 ?_
  refine Runs.aload_n (j := 0) dX9_write_65 rfl ?_
  refine Runs.dup dX9_write_66 (by intro z h; cases h) ?_
  refine Runs.geti (ci := 9) (j := 2) (C := RX9) (T := TX9) (N := 48) dX9_write_67 rfl cls_X9 (by decide) rfl fl_X9_122 (Or.inl rfl) ?_
  refine Runs.iconst dX9_write_70 (by decide) ?_
  refine Runs.iadd dX9_write_71 h4 ?_
  refine Runs.puti (ci := 9) (j := 2) (C := RX9) (T := TX9) (N := 48) dX9_write_72 rfl cls_X9 (by decide) rfl fl_X9_122 rfl rfl ?_
  refine Runs.iinc (k := 2) (loc' := [(0, vr 200), (2, vl x2), (4, vi (x4 + (-1 : Int)))]) dX9_write_75 rfl h5 (by decide) rfl ?_
  refine Runs.goto (tgt := 39) dX9_write_78 (by decide) ?_
  exact k
theorem kX9_write_81 {X : Scr} {M : Mem} {P : Option AV → Mem → Prop} (k : P (some (vi (M 200 2))) M) : Runs X mX9_write 81 [(0, vr 200)] [] M P := by
  refine Runs.aload_n (j := 0) dX9_write_81 rfl ?_
  refine Runs.geti (ci := 9) (j := 2) (C := RX9) (T := TX9) (N := 48) dX9_write_82 rfl cls_X9 (by decide) rfl fl_X9_122 (Or.inl rfl) ?_
  exact Runs.reti dX9_write_85 rfl k
theorem kX9_wipe_0 {X : Scr} {M : Mem} {P : Option AV → Mem → Prop} (k : P (some (vi ((up2 M 200 0 (0 : Int)) 200 2))) (up2 (up2 M 200 0 (0 : Int)) 200 2 (0 : Int))) : Runs X mX9_wipe 0 [(0, vr 200)] [] M P := by
  refine Runs.aload_n (j := 0) dX9_wipe_0 rfl ?_
  refine Runs.iconst dX9_wipe_1 (by decide) ?_
  refine Runs.puti (ci := 9) (j := 0) (C := RX9) (T := TX9) (N := 48) dX9_wipe_2 rfl cls_X9 (by decide) rfl fl_X9_108 rfl rfl ?_
  refine Runs.aload_n (j := 0) dX9_wipe_5 rfl ?_
  refine Runs.geti (ci := 9) (j := 2) (C := RX9) (T := TX9) (N := 48) dX9_wipe_6 rfl cls_X9 (by decide) rfl fl_X9_122 (Or.inl rfl) ?_
  refine Runs.istore_n (loc' := [(0, vr 200), (1, vi ((up2 M 200 0 (0 : Int)) 200 2))]) dX9_wipe_9 rfl (by decide) rfl ?_
  refine Runs.aload_n (j := 0) dX9_wipe_10 rfl ?_
  refine Runs.iconst dX9_wipe_11 (by decide) ?_
  refine Runs.puti (ci := 9) (j := 2) (C := RX9) (T := TX9) (N := 48) dX9_wipe_12 rfl cls_X9 (by decide) rfl fl_X9_122 rfl rfl ?_
  refine Runs.iload_n (j := 1) dX9_wipe_15 rfl ?_
  exact Runs.reti dX9_wipe_16 rfl k
theorem kX9_figure_0 {X : Scr} {M : Mem} {P : Option AV → Mem → Prop} {x1 x2 : Int} (k1 : (M 200 3) = (M 200 2) → Runs X mX9_figure 34 [] [] M P) (k2 : (M 200 3) ≠ (M 200 2) → Runs X mX9_figure 11 [(0, vr 200), (1, vi x1), (2, vi x2)] [] M P) : Runs X mX9_figure 0 [(0, vr 200), (1, vi x1), (2, vi x2)] [] M P := by
  refine Runs.aload_n (j := 0) dX9_figure_0 rfl ?_
  refine Runs.geti (ci := 9) (j := 3) (C := RX9) (T := TX9) (N := 48) dX9_figure_1 rfl cls_X9 (by decide) rfl fl_X9_125 (Or.inl rfl) ?_
  refine Runs.aload_n (j := 0) dX9_figure_4 rfl ?_
  refine Runs.geti (ci := 9) (j := 2) (C := RX9) (T := TX9) (N := 48) dX9_figure_5 rfl cls_X9 (by decide) rfl fl_X9_122 (Or.inl rfl) ?_
  refine Runs.icmp_eq (tgt := 34) dX9_figure_8 (by decide) (fun h => ?_) (fun h => ?_)
  · refine Runs.picks (loc' := []) [] rfl ?_
    exact k1 h
  · exact k2 h
theorem kX9_figure_11 {X : Scr} {M : Mem} {P Q : Option AV → Mem → Prop} {x1 x2 : Int} (hC : Call X mX9_in [vl ((M 301 ((M 200 3)).toNat) - (48 : Int)), vl x1, vl x2] M Q) (k : ∀ (z : Int) (M1 : Mem), Q (some (vi z)) M1 → Runs X mX9_figure 31 [(0, vr 200)] [vi z] M1 P) (h1 : 0 ≤ (M 200 3) := by omega) (h2 : (M 200 3) < ((72 : Nat) : Int) := by omega) (h3 : -2147483648 ≤ ((M 301 ((M 200 3)).toNat) - (48 : Int)) ∧ ((M 301 ((M 200 3)).toNat) - (48 : Int)) ≤ 2147483647 := by omega) : Runs X mX9_figure 11 [(0, vr 200), (1, vi x1), (2, vi x2)] [] M P := by
  refine Runs.aload_n (j := 0) dX9_figure_11 rfl ?_
  refine Runs.getr (o' := 301) (ci := 9) (j := 1) (C := RX9) (T := TX9) (N := 48) dX9_figure_12 rfl cls_X9 (by decide) rfl fl_X9_7 rfl ⟨rfl, "", Or.inr ⟨_, rfl⟩⟩ ?_
  refine Runs.aload_n (j := 0) dX9_figure_15 rfl ?_
  refine Runs.geti (ci := 9) (j := 3) (C := RX9) (T := TX9) (N := 48) dX9_figure_16 rfl cls_X9 (by decide) rfl fl_X9_125 (Or.inl rfl) ?_
  refine Runs.iald dX9_figure_19 rfl h1 h2 ?_
  refine Runs.bipush dX9_figure_20 (by decide) (by decide) ?_
  refine Runs.isub dX9_figure_22 h3 ?_
  refine Runs.i2l dX9_figure_23 ?_
  refine Runs.iload_n (j := 1) dX9_figure_24 rfl ?_
  refine Runs.i2l dX9_figure_25 ?_
  refine Runs.iload_n (j := 2) dX9_figure_26 rfl ?_
  refine Runs.i2l dX9_figure_27 ?_
  refine Runs.callSi (y := mX9_in) (n := 3) (as := [vl ((M 301 ((M 200 3)).toNat) - (48 : Int)), vl x1, vl x2]) (st := []) dX9_figure_28 oc_X9_in sm_X9_in ml_X9_114 rfl ⟨(Nat.le_of_ble_eq_true rfl), (Nat.le_of_ble_eq_true rfl)⟩ (Nat.le_of_ble_eq_true rfl) (Nat.le_of_ble_eq_true rfl) (Or.inr rfl) hC (fun z M1 hQ => ?_)
  refine Runs.picks (loc' := [(0, vr 200)]) [0] rfl ?_
  exact k z M1 hQ
theorem kX9_figure_31 {X : Scr} {M : Mem} {P : Option AV → Mem → Prop} {xs0 : Int} (k1 : xs0 ≠ 0 → Runs X mX9_figure 37 [(0, vr 200)] [] M P) (k2 : xs0 = 0 → Runs X mX9_figure 34 [] [] M P) : Runs X mX9_figure 31 [(0, vr 200)] [vi xs0] M P := by
  refine Runs.if_ne (tgt := 37) dX9_figure_31 (by decide) (fun h => ?_) (fun h => ?_)
  · exact k1 h
  · refine Runs.picks (loc' := []) [] rfl ?_
    exact k2 h
theorem kX9_figure_34 {X : Scr} {M : Mem} {P : Option AV → Mem → Prop} (k : P (some (vi (-9 : Int))) M) : Runs X mX9_figure 34 [] [] M P := by
  refine Runs.bipush dX9_figure_34 (by decide) (by decide) ?_
  exact Runs.reti dX9_figure_36 rfl k
theorem kX9_figure_37 {X : Scr} {M : Mem} {P : Option AV → Mem → Prop} (k : P (some (vi (((up2 M 200 3 ((M 200 3) + (1 : Int))) 301 ((((up2 M 200 3 ((M 200 3) + (1 : Int))) 200 3) - (1 : Int))).toNat) - (48 : Int)))) (up2 M 200 3 ((M 200 3) + (1 : Int)))) (h1 : -2147483648 ≤ ((M 200 3) + (1 : Int)) ∧ ((M 200 3) + (1 : Int)) ≤ 2147483647 := by omega) (h2 : -2147483648 ≤ (((up2 M 200 3 ((M 200 3) + (1 : Int))) 200 3) - (1 : Int)) ∧ (((up2 M 200 3 ((M 200 3) + (1 : Int))) 200 3) - (1 : Int)) ≤ 2147483647 := by omega) (h3 : 0 ≤ (((up2 M 200 3 ((M 200 3) + (1 : Int))) 200 3) - (1 : Int)) := by omega) (h4 : (((up2 M 200 3 ((M 200 3) + (1 : Int))) 200 3) - (1 : Int)) < ((72 : Nat) : Int) := by omega) (h5 : -2147483648 ≤ (((up2 M 200 3 ((M 200 3) + (1 : Int))) 301 ((((up2 M 200 3 ((M 200 3) + (1 : Int))) 200 3) - (1 : Int))).toNat) - (48 : Int)) ∧ (((up2 M 200 3 ((M 200 3) + (1 : Int))) 301 ((((up2 M 200 3 ((M 200 3) + (1 : Int))) 200 3) - (1 : Int))).toNat) - (48 : Int)) ≤ 2147483647 := by omega) : Runs X mX9_figure 37 [(0, vr 200)] [] M P := by
  refine Runs.aload_n (j := 0) dX9_figure_37 rfl ?_
  refine Runs.dup dX9_figure_38 (by intro z h; cases h) ?_
  refine Runs.geti (ci := 9) (j := 3) (C := RX9) (T := TX9) (N := 48) dX9_figure_39 rfl cls_X9 (by decide) rfl fl_X9_125 (Or.inl rfl) ?_
  refine Runs.iconst dX9_figure_42 (by decide) ?_
  refine Runs.iadd dX9_figure_43 h1 ?_
  refine Runs.puti (ci := 9) (j := 3) (C := RX9) (T := TX9) (N := 48) dX9_figure_44 rfl cls_X9 (by decide) rfl fl_X9_125 rfl rfl ?_
  refine Runs.aload_n (j := 0) dX9_figure_47 rfl ?_
  refine Runs.getr (o' := 301) (ci := 9) (j := 1) (C := RX9) (T := TX9) (N := 48) dX9_figure_48 rfl cls_X9 (by decide) rfl fl_X9_7 rfl ⟨rfl, "", Or.inr ⟨_, rfl⟩⟩ ?_
  refine Runs.aload_n (j := 0) dX9_figure_51 rfl ?_
  refine Runs.geti (ci := 9) (j := 3) (C := RX9) (T := TX9) (N := 48) dX9_figure_52 rfl cls_X9 (by decide) rfl fl_X9_125 (Or.inl rfl) ?_
  refine Runs.iconst dX9_figure_55 (by decide) ?_
  refine Runs.isub dX9_figure_56 h2 ?_
  refine Runs.iald dX9_figure_57 rfl h3 h4 ?_
  refine Runs.bipush dX9_figure_58 (by decide) (by decide) ?_
  refine Runs.isub dX9_figure_60 h5 ?_
  exact Runs.reti dX9_figure_61 rfl k
theorem kX9_side_0 {X : Scr} {M : Mem} {P : Option AV → Mem → Prop} (k1 : (M 200 3) = (M 200 2) → Runs X mX9_side 39 [] [] M P) (k2 : (M 200 3) ≠ (M 200 2) → Runs X mX9_side 11 [(0, vr 200)] [] M P) : Runs X mX9_side 0 [(0, vr 200)] [] M P := by
  refine Runs.aload_n (j := 0) dX9_side_0 rfl ?_
  refine Runs.geti (ci := 9) (j := 3) (C := RX9) (T := TX9) (N := 48) dX9_side_1 rfl cls_X9 (by decide) rfl fl_X9_125 (Or.inl rfl) ?_
  refine Runs.aload_n (j := 0) dX9_side_4 rfl ?_
  refine Runs.geti (ci := 9) (j := 2) (C := RX9) (T := TX9) (N := 48) dX9_side_5 rfl cls_X9 (by decide) rfl fl_X9_122 (Or.inl rfl) ?_
  refine Runs.icmp_eq (tgt := 39) dX9_side_8 (by decide) (fun h => ?_) (fun h => ?_)
  · refine Runs.picks (loc' := []) [] rfl ?_
    exact k1 h
  · exact k2 h
theorem kX9_side_11 {X : Scr} {M : Mem} {P : Option AV → Mem → Prop} (k1 : (M 301 ((M 200 3)).toNat) = (76 : Int) → Runs X mX9_side 42 [(0, vr 200)] [] M P) (k2 : (M 301 ((M 200 3)).toNat) ≠ (76 : Int) → Runs X mX9_side 25 [(0, vr 200)] [] M P) (h1 : 0 ≤ (M 200 3) := by omega) (h2 : (M 200 3) < ((72 : Nat) : Int) := by omega) : Runs X mX9_side 11 [(0, vr 200)] [] M P := by
  refine Runs.aload_n (j := 0) dX9_side_11 rfl ?_
  refine Runs.getr (o' := 301) (ci := 9) (j := 1) (C := RX9) (T := TX9) (N := 48) dX9_side_12 rfl cls_X9 (by decide) rfl fl_X9_7 rfl ⟨rfl, "", Or.inr ⟨_, rfl⟩⟩ ?_
  refine Runs.aload_n (j := 0) dX9_side_15 rfl ?_
  refine Runs.geti (ci := 9) (j := 3) (C := RX9) (T := TX9) (N := 48) dX9_side_16 rfl cls_X9 (by decide) rfl fl_X9_125 (Or.inl rfl) ?_
  refine Runs.iald dX9_side_19 rfl h1 h2 ?_
  refine Runs.bipush dX9_side_20 (by decide) (by decide) ?_
  refine Runs.icmp_eq (tgt := 42) dX9_side_22 (by decide) (fun h => ?_) (fun h => ?_)
  · exact k1 h
  · exact k2 h
theorem kX9_side_25 {X : Scr} {M : Mem} {P : Option AV → Mem → Prop} (k1 : (M 301 ((M 200 3)).toNat) = (82 : Int) → Runs X mX9_side 42 [(0, vr 200)] [] M P) (k2 : (M 301 ((M 200 3)).toNat) ≠ (82 : Int) → Runs X mX9_side 39 [] [] M P) (h1 : 0 ≤ (M 200 3) := by omega) (h2 : (M 200 3) < ((72 : Nat) : Int) := by omega) : Runs X mX9_side 25 [(0, vr 200)] [] M P := by
  refine Runs.aload_n (j := 0) dX9_side_25 rfl ?_
  refine Runs.getr (o' := 301) (ci := 9) (j := 1) (C := RX9) (T := TX9) (N := 48) dX9_side_26 rfl cls_X9 (by decide) rfl fl_X9_7 rfl ⟨rfl, "", Or.inr ⟨_, rfl⟩⟩ ?_
  refine Runs.aload_n (j := 0) dX9_side_29 rfl ?_
  refine Runs.geti (ci := 9) (j := 3) (C := RX9) (T := TX9) (N := 48) dX9_side_30 rfl cls_X9 (by decide) rfl fl_X9_125 (Or.inl rfl) ?_
  refine Runs.iald dX9_side_33 rfl h1 h2 ?_
  refine Runs.bipush dX9_side_34 (by decide) (by decide) ?_
  refine Runs.icmp_eq (tgt := 42) dX9_side_36 (by decide) (fun h => ?_) (fun h => ?_)
  · exact k1 h
  · refine Runs.picks (loc' := []) [] rfl ?_
    exact k2 h
theorem kX9_side_39 {X : Scr} {M : Mem} {P : Option AV → Mem → Prop} (k : P (some (vi (-9 : Int))) M) : Runs X mX9_side 39 [] [] M P := by
  refine Runs.bipush dX9_side_39 (by decide) (by decide) ?_
  exact Runs.reti dX9_side_41 rfl k
theorem kX9_side_42 {X : Scr} {M : Mem} {P : Option AV → Mem → Prop} (k1 : ((up2 M 200 3 ((M 200 3) + (1 : Int))) 301 ((((up2 M 200 3 ((M 200 3) + (1 : Int))) 200 3) - (1 : Int))).toNat) ≠ (76 : Int) → Runs X mX9_side 72 [] [] (up2 M 200 3 ((M 200 3) + (1 : Int))) P) (k2 : ((up2 M 200 3 ((M 200 3) + (1 : Int))) 301 ((((up2 M 200 3 ((M 200 3) + (1 : Int))) 200 3) - (1 : Int))).toNat) = (76 : Int) → Runs X mX9_side 68 [] [] (up2 M 200 3 ((M 200 3) + (1 : Int))) P) (h1 : -2147483648 ≤ ((M 200 3) + (1 : Int)) ∧ ((M 200 3) + (1 : Int)) ≤ 2147483647 := by omega) (h2 : -2147483648 ≤ (((up2 M 200 3 ((M 200 3) + (1 : Int))) 200 3) - (1 : Int)) ∧ (((up2 M 200 3 ((M 200 3) + (1 : Int))) 200 3) - (1 : Int)) ≤ 2147483647 := by omega) (h3 : 0 ≤ (((up2 M 200 3 ((M 200 3) + (1 : Int))) 200 3) - (1 : Int)) := by omega) (h4 : (((up2 M 200 3 ((M 200 3) + (1 : Int))) 200 3) - (1 : Int)) < ((72 : Nat) : Int) := by omega) : Runs X mX9_side 42 [(0, vr 200)] [] M P := by
  refine Runs.aload_n (j := 0) dX9_side_42 rfl ?_
  refine Runs.dup dX9_side_43 (by intro z h; cases h) ?_
  refine Runs.geti (ci := 9) (j := 3) (C := RX9) (T := TX9) (N := 48) dX9_side_44 rfl cls_X9 (by decide) rfl fl_X9_125 (Or.inl rfl) ?_
  refine Runs.iconst dX9_side_47 (by decide) ?_
  refine Runs.iadd dX9_side_48 h1 ?_
  refine Runs.puti (ci := 9) (j := 3) (C := RX9) (T := TX9) (N := 48) dX9_side_49 rfl cls_X9 (by decide) rfl fl_X9_125 rfl rfl ?_
  refine Runs.aload_n (j := 0) dX9_side_52 rfl ?_
  refine Runs.getr (o' := 301) (ci := 9) (j := 1) (C := RX9) (T := TX9) (N := 48) dX9_side_53 rfl cls_X9 (by decide) rfl fl_X9_7 rfl ⟨rfl, "", Or.inr ⟨_, rfl⟩⟩ ?_
  refine Runs.aload_n (j := 0) dX9_side_56 rfl ?_
  refine Runs.geti (ci := 9) (j := 3) (C := RX9) (T := TX9) (N := 48) dX9_side_57 rfl cls_X9 (by decide) rfl fl_X9_125 (Or.inl rfl) ?_
  refine Runs.iconst dX9_side_60 (by decide) ?_
  refine Runs.isub dX9_side_61 h2 ?_
  refine Runs.iald dX9_side_62 rfl h3 h4 ?_
  refine Runs.bipush dX9_side_63 (by decide) (by decide) ?_
  refine Runs.icmp_ne (tgt := 72) dX9_side_65 (by decide) (fun h => ?_) (fun h => ?_)
  · refine Runs.picks (loc' := []) [] rfl ?_
    exact k1 h
  · refine Runs.picks (loc' := []) [] rfl ?_
    exact k2 h
theorem kX9_side_68 {X : Scr} {M : Mem} {P : Option AV → Mem → Prop} (k : Runs X mX9_side 73 [] [vi (1 : Int)] M P) : Runs X mX9_side 68 [] [] M P := by
  refine Runs.iconst dX9_side_68 (by decide) ?_
  refine Runs.goto (tgt := 73) dX9_side_69 (by decide) ?_
  exact k
theorem kX9_side_72 {X : Scr} {M : Mem} {P : Option AV → Mem → Prop} (k : Runs X mX9_side 73 [] [vi (0 : Int)] M P) : Runs X mX9_side 72 [] [] M P := by
  refine Runs.iconst dX9_side_72 (by decide) ?_
  exact k
theorem kX9_side_73 {X : Scr} {M : Mem} {P : Option AV → Mem → Prop} {xs0 : Int} (k : P (some (vi xs0)) M) : Runs X mX9_side 73 [] [vi xs0] M P := by
  exact Runs.reti dX9_side_73 rfl k
theorem kX9_readTooth_0 {X : Scr} {M : Mem} {P Q : Option AV → Mem → Prop} {x1 : Int} (hC : Call X mX9_figure [vr 200, vi (1 : Int), vi (9 : Int)] M Q) (k : ∀ (z : Int) (M1 : Mem), Q (some (vi z)) M1 → Runs X mX9_readTooth 7 [(0, vr 200), (1, vi x1)] [vi z] M1 P) : Runs X mX9_readTooth 0 [(0, vr 200), (1, vi x1)] [] M P := by
  refine Runs.aload_n (j := 0) dX9_readTooth_0 rfl ?_
  refine Runs.iconst dX9_readTooth_1 (by decide) ?_
  refine Runs.bipush dX9_readTooth_2 (by decide) (by decide) ?_
  refine Runs.callVi (y := mX9_figure) (n := 2) (as := [vi (1 : Int), vi (9 : Int)]) (st := []) (q := (RX9, TX9, 48)) dX9_readTooth_4 oc_X9_figure im_X9_figure se_X9_figure ml_X9_128 rfl ⟨(Nat.le_of_ble_eq_true rfl), (Nat.le_of_ble_eq_true rfl)⟩ (Nat.le_of_ble_eq_true rfl) (Nat.le_of_ble_eq_true rfl) rfl rfl rfl (Or.inl rfl) hC (fun z M1 hQ => ?_)
  exact k z M1 hQ
theorem kX9_readTooth_7 {X : Scr} {M : Mem} {P : Option AV → Mem → Prop} {x1 xs0 : Int} (k1 : xs0 ≠ (-9 : Int) → Runs X mX9_readTooth 19 [(0, vr 200), (1, vi x1), (2, vi xs0)] [] M P) (k2 : xs0 = (-9 : Int) → Runs X mX9_readTooth 14 [(0, vr 200), (1, vi x1), (2, vi xs0)] [] M P) : Runs X mX9_readTooth 7 [(0, vr 200), (1, vi x1)] [vi xs0] M P := by
  refine Runs.istore_n (loc' := [(0, vr 200), (1, vi x1), (2, vi xs0)]) dX9_readTooth_7 rfl (by decide) rfl ?_
  refine Runs.iload_n (j := 2) dX9_readTooth_8 rfl ?_
  refine Runs.bipush dX9_readTooth_9 (by decide) (by decide) ?_
  refine Runs.icmp_ne (tgt := 19) dX9_readTooth_11 (by decide) (fun h => ?_) (fun h => ?_)
  · exact k1 h
  · exact k2 h
theorem kX9_readTooth_14 {X : Scr} {M : Mem} {P : Option AV → Mem → Prop} {x1 x2 : Int} (k : Runs X mX9_readTooth 23 [(0, vr 200), (1, vi x1), (2, vi x2)] [vi (-9 : Int)] M P) : Runs X mX9_readTooth 14 [(0, vr 200), (1, vi x1), (2, vi x2)] [] M P := by
  refine Runs.bipush dX9_readTooth_14 (by decide) (by decide) ?_
  refine Runs.goto (tgt := 23) dX9_readTooth_16 (by decide) ?_
  exact k
theorem kX9_readTooth_19 {X : Scr} {M : Mem} {P Q : Option AV → Mem → Prop} {x1 x2 : Int} (hC : Call X mX9_side [vr 200] M Q) (k : ∀ (z : Int) (M1 : Mem), Q (some (vi z)) M1 → Runs X mX9_readTooth 23 [(0, vr 200), (1, vi x1), (2, vi x2)] [vi z] M1 P) : Runs X mX9_readTooth 19 [(0, vr 200), (1, vi x1), (2, vi x2)] [] M P := by
  refine Runs.aload_n (j := 0) dX9_readTooth_19 rfl ?_
  refine Runs.callVi (y := mX9_side) (n := 0) (as := []) (st := []) (q := (RX9, TX9, 48)) dX9_readTooth_20 oc_X9_side im_X9_side se_X9_side ml_X9_132 rfl ⟨(Nat.le_of_ble_eq_true rfl), (Nat.le_of_ble_eq_true rfl)⟩ (Nat.le_of_ble_eq_true rfl) (Nat.le_of_ble_eq_true rfl) rfl rfl rfl (Or.inl rfl) hC (fun z M1 hQ => ?_)
  exact k z M1 hQ
theorem kX9_readTooth_23 {X : Scr} {M : Mem} {P : Option AV → Mem → Prop} {x1 x2 xs0 : Int} (k1 : xs0 ≠ (-9 : Int) → Runs X mX9_readTooth 35 [(0, vr 200), (1, vi x1), (2, vi x2), (3, vi xs0)] [] M P) (k2 : xs0 = (-9 : Int) → Runs X mX9_readTooth 30 [(0, vr 200), (1, vi x1), (2, vi x2), (3, vi xs0)] [] M P) : Runs X mX9_readTooth 23 [(0, vr 200), (1, vi x1), (2, vi x2)] [vi xs0] M P := by
  refine Runs.istore_n (loc' := [(0, vr 200), (1, vi x1), (2, vi x2), (3, vi xs0)]) dX9_readTooth_23 rfl (by decide) rfl ?_
  refine Runs.iload_n (j := 3) dX9_readTooth_24 rfl ?_
  refine Runs.bipush dX9_readTooth_25 (by decide) (by decide) ?_
  refine Runs.icmp_ne (tgt := 35) dX9_readTooth_27 (by decide) (fun h => ?_) (fun h => ?_)
  · exact k1 h
  · exact k2 h
theorem kX9_readTooth_30 {X : Scr} {M : Mem} {P : Option AV → Mem → Prop} {x1 x2 x3 : Int} (k : Runs X mX9_readTooth 42 [(0, vr 200), (1, vi x1), (2, vi x2), (3, vi x3)] [vi (-9 : Int)] M P) : Runs X mX9_readTooth 30 [(0, vr 200), (1, vi x1), (2, vi x2), (3, vi x3)] [] M P := by
  refine Runs.bipush dX9_readTooth_30 (by decide) (by decide) ?_
  refine Runs.goto (tgt := 42) dX9_readTooth_32 (by decide) ?_
  exact k
theorem kX9_readTooth_35 {X : Scr} {M : Mem} {P Q : Option AV → Mem → Prop} {x1 x2 x3 : Int} (hC : Call X mX9_figure [vr 200, vi (0 : Int), vi (9 : Int)] M Q) (k : ∀ (z : Int) (M1 : Mem), Q (some (vi z)) M1 → Runs X mX9_readTooth 42 [(0, vr 200), (1, vi x1), (2, vi x2), (3, vi x3)] [vi z] M1 P) : Runs X mX9_readTooth 35 [(0, vr 200), (1, vi x1), (2, vi x2), (3, vi x3)] [] M P := by
  refine Runs.aload_n (j := 0) dX9_readTooth_35 rfl ?_
  refine Runs.iconst dX9_readTooth_36 (by decide) ?_
  refine Runs.bipush dX9_readTooth_37 (by decide) (by decide) ?_
  refine Runs.callVi (y := mX9_figure) (n := 2) (as := [vi (0 : Int), vi (9 : Int)]) (st := []) (q := (RX9, TX9, 48)) dX9_readTooth_39 oc_X9_figure im_X9_figure se_X9_figure ml_X9_128 rfl ⟨(Nat.le_of_ble_eq_true rfl), (Nat.le_of_ble_eq_true rfl)⟩ (Nat.le_of_ble_eq_true rfl) (Nat.le_of_ble_eq_true rfl) rfl rfl rfl (Or.inl rfl) hC (fun z M1 hQ => ?_)
  exact k z M1 hQ
theorem kX9_readTooth_42 {X : Scr} {M : Mem} {P : Option AV → Mem → Prop} {x1 x2 x3 xs0 : Int} (k1 : xs0 ≠ (-9 : Int) → Runs X mX9_readTooth 56 [(0, vr 200), (1, vi x1), (2, vi x2), (3, vi x3), (4, vi xs0)] [] M P) (k2 : xs0 = (-9 : Int) → Runs X mX9_readTooth 51 [(0, vr 200), (1, vi x1), (2, vi x2), (3, vi x3), (4, vi xs0)] [] M P) : Runs X mX9_readTooth 42 [(0, vr 200), (1, vi x1), (2, vi x2), (3, vi x3)] [vi xs0] M P := by
  refine Runs.istore (loc' := [(0, vr 200), (1, vi x1), (2, vi x2), (3, vi x3), (4, vi xs0)]) dX9_readTooth_42 (by decide) rfl ?_
  refine Runs.iload (j := 4) dX9_readTooth_44 rfl ?_
  refine Runs.bipush dX9_readTooth_46 (by decide) (by decide) ?_
  refine Runs.icmp_ne (tgt := 56) dX9_readTooth_48 (by decide) (fun h => ?_) (fun h => ?_)
  · exact k1 h
  · exact k2 h
theorem kX9_readTooth_51 {X : Scr} {M : Mem} {P : Option AV → Mem → Prop} {x1 x2 x3 x4 : Int} (k : Runs X mX9_readTooth 62 [(0, vr 200), (1, vi x1), (2, vi x2), (3, vi x3), (4, vi x4)] [vi (-9 : Int)] M P) : Runs X mX9_readTooth 51 [(0, vr 200), (1, vi x1), (2, vi x2), (3, vi x3), (4, vi x4)] [] M P := by
  refine Runs.bipush dX9_readTooth_51 (by decide) (by decide) ?_
  refine Runs.goto (tgt := 62) dX9_readTooth_53 (by decide) ?_
  exact k
theorem kX9_readTooth_56 {X : Scr} {M : Mem} {P Q : Option AV → Mem → Prop} {x1 x2 x3 x4 : Int} (hC : Call X mX9_figure [vr 200, vi (0 : Int), vi (3 : Int)] M Q) (k : ∀ (z : Int) (M1 : Mem), Q (some (vi z)) M1 → Runs X mX9_readTooth 62 [(0, vr 200), (1, vi x1), (2, vi x2), (3, vi x3), (4, vi x4)] [vi z] M1 P) : Runs X mX9_readTooth 56 [(0, vr 200), (1, vi x1), (2, vi x2), (3, vi x3), (4, vi x4)] [] M P := by
  refine Runs.aload_n (j := 0) dX9_readTooth_56 rfl ?_
  refine Runs.iconst dX9_readTooth_57 (by decide) ?_
  refine Runs.iconst dX9_readTooth_58 (by decide) ?_
  refine Runs.callVi (y := mX9_figure) (n := 2) (as := [vi (0 : Int), vi (3 : Int)]) (st := []) (q := (RX9, TX9, 48)) dX9_readTooth_59 oc_X9_figure im_X9_figure se_X9_figure ml_X9_128 rfl ⟨(Nat.le_of_ble_eq_true rfl), (Nat.le_of_ble_eq_true rfl)⟩ (Nat.le_of_ble_eq_true rfl) (Nat.le_of_ble_eq_true rfl) rfl rfl rfl (Or.inl rfl) hC (fun z M1 hQ => ?_)
  exact k z M1 hQ
theorem kX9_readTooth_62 {X : Scr} {M : Mem} {P : Option AV → Mem → Prop} {x1 x2 x3 x4 xs0 : Int} (k1 : xs0 ≠ (-9 : Int) → Runs X mX9_readTooth 73 [(0, vr 200), (1, vi x1), (2, vi x2), (3, vi x3), (4, vi x4), (5, vi xs0)] [] M P) (k2 : xs0 = (-9 : Int) → Runs X mX9_readTooth 71 [] [] M P) : Runs X mX9_readTooth 62 [(0, vr 200), (1, vi x1), (2, vi x2), (3, vi x3), (4, vi x4)] [vi xs0] M P := by
  refine Runs.istore (loc' := [(0, vr 200), (1, vi x1), (2, vi x2), (3, vi x3), (4, vi x4), (5, vi xs0)]) dX9_readTooth_62 (by decide) rfl ?_
  refine Runs.iload (j := 5) dX9_readTooth_64 rfl ?_
  refine Runs.bipush dX9_readTooth_66 (by decide) (by decide) ?_
  refine Runs.icmp_ne (tgt := 73) dX9_readTooth_68 (by decide) (fun h => ?_) (fun h => ?_)
  · exact k1 h
  · refine Runs.picks (loc' := []) [] rfl ?_
    exact k2 h
theorem kX9_readTooth_71 {X : Scr} {M : Mem} {P : Option AV → Mem → Prop} (k : P (some (vi (0 : Int))) M) (h1 : 0 ≤ (0 : Int) ∧ (0 : Int) ≤ 1 := by omega) : Runs X mX9_readTooth 71 [] [] M P := by
  refine Runs.iconst dX9_readTooth_71 (by decide) ?_
  exact Runs.retz dX9_readTooth_72 rfl h1 k
theorem kX9_readTooth_73 {X : Scr} {M : Mem} {P : Option AV → Mem → Prop} {x1 x2 x3 x4 x5 : Int} (k1 : x3 ≠ (1 : Int) → Runs X mX9_readTooth 100 [(0, vr 200), (1, vi x1), (4, vi x4), (5, vi x5)] [vi ((up2 M 322 ((M 200 20)).toNat x2) 200 20), vr 323] (up2 M 322 ((M 200 20)).toNat x2) P) (k2 : x3 = (1 : Int) → Runs X mX9_readTooth 96 [(0, vr 200), (1, vi x1), (4, vi x4), (5, vi x5)] [vi ((up2 M 322 ((M 200 20)).toNat x2) 200 20), vr 323] (up2 M 322 ((M 200 20)).toNat x2) P) (h1 : 0 ≤ (M 200 20) := by omega) (h2 : (M 200 20) < ((10 : Nat) : Int) := by omega) : Runs X mX9_readTooth 73 [(0, vr 200), (1, vi x1), (2, vi x2), (3, vi x3), (4, vi x4), (5, vi x5)] [] M P := by
  refine Runs.aload_n (j := 0) dX9_readTooth_73 rfl ?_
  refine Runs.getr (o' := 322) (ci := 9) (j := 22) (C := RX9) (T := TX9) (N := 48) dX9_readTooth_74 rfl cls_X9 (by decide) rfl fl_X9_51 rfl ⟨rfl, "", Or.inr ⟨_, rfl⟩⟩ ?_
  refine Runs.aload_n (j := 0) dX9_readTooth_77 rfl ?_
  refine Runs.geti (ci := 9) (j := 20) (C := RX9) (T := TX9) (N := 48) dX9_readTooth_78 rfl cls_X9 (by decide) rfl fl_X9_136 (Or.inl rfl) ?_
  refine Runs.iload_n (j := 2) dX9_readTooth_81 rfl ?_
  refine Runs.iast dX9_readTooth_82 rfl h1 h2 ?_
  refine Runs.aload_n (j := 0) dX9_readTooth_83 rfl ?_
  refine Runs.getr (o' := 323) (ci := 9) (j := 23) (C := RX9) (T := TX9) (N := 48) dX9_readTooth_84 rfl cls_X9 (by decide) rfl fl_X9_54 rfl ⟨rfl, "", Or.inr ⟨_, rfl⟩⟩ ?_
  refine Runs.aload_n (j := 0) dX9_readTooth_87 rfl ?_
  refine Runs.geti (ci := 9) (j := 20) (C := RX9) (T := TX9) (N := 48) dX9_readTooth_88 rfl cls_X9 (by decide) rfl fl_X9_136 (Or.inl rfl) ?_
  refine Runs.iload_n (j := 3) dX9_readTooth_91 rfl ?_
  refine Runs.iconst dX9_readTooth_92 (by decide) ?_
  refine Runs.icmp_ne (tgt := 100) dX9_readTooth_93 (by decide) (fun h => ?_) (fun h => ?_)
  · refine Runs.picks (loc' := [(0, vr 200), (1, vi x1), (4, vi x4), (5, vi x5)]) [0, 1, 4, 5] rfl ?_
    exact k1 h
  · refine Runs.picks (loc' := [(0, vr 200), (1, vi x1), (4, vi x4), (5, vi x5)]) [0, 1, 4, 5] rfl ?_
    exact k2 h
theorem kX9_readTooth_96 {X : Scr} {M : Mem} {P : Option AV → Mem → Prop} {x1 x4 x5 xs1 : Int} (k : Runs X mX9_readTooth 101 [(0, vr 200), (1, vi x1), (4, vi x4), (5, vi x5)] [vi (1 : Int), vi xs1, vr 323] M P) : Runs X mX9_readTooth 96 [(0, vr 200), (1, vi x1), (4, vi x4), (5, vi x5)] [vi xs1, vr 323] M P := by
  refine Runs.iconst dX9_readTooth_96 (by decide) ?_
  refine Runs.goto (tgt := 101) dX9_readTooth_97 (by decide) ?_
  exact k
theorem kX9_readTooth_100 {X : Scr} {M : Mem} {P : Option AV → Mem → Prop} {x1 x4 x5 xs1 : Int} (k : Runs X mX9_readTooth 101 [(0, vr 200), (1, vi x1), (4, vi x4), (5, vi x5)] [vi (0 : Int), vi xs1, vr 323] M P) : Runs X mX9_readTooth 100 [(0, vr 200), (1, vi x1), (4, vi x4), (5, vi x5)] [vi xs1, vr 323] M P := by
  refine Runs.iconst dX9_readTooth_100 (by decide) ?_
  exact k
theorem kX9_readTooth_101 {X : Scr} {M : Mem} {P : Option AV → Mem → Prop} {x1 x4 x5 xs1 xs2 : Int} (k : P (some (vi (1 : Int))) (up2 (up2 (up2 (up2 (up2 M 323 (xs1).toNat xs2) 324 (((up2 M 323 (xs1).toNat xs2) 200 20)).toNat x4) 325 (((up2 (up2 M 323 (xs1).toNat xs2) 324 (((up2 M 323 (xs1).toNat xs2) 200 20)).toNat x4) 200 20)).toNat x5) 326 (((up2 (up2 (up2 M 323 (xs1).toNat xs2) 324 (((up2 M 323 (xs1).toNat xs2) 200 20)).toNat x4) 325 (((up2 (up2 M 323 (xs1).toNat xs2) 324 (((up2 M 323 (xs1).toNat xs2) 200 20)).toNat x4) 200 20)).toNat x5) 200 20)).toNat x1) 200 20 (((up2 (up2 (up2 (up2 M 323 (xs1).toNat xs2) 324 (((up2 M 323 (xs1).toNat xs2) 200 20)).toNat x4) 325 (((up2 (up2 M 323 (xs1).toNat xs2) 324 (((up2 M 323 (xs1).toNat xs2) 200 20)).toNat x4) 200 20)).toNat x5) 326 (((up2 (up2 (up2 M 323 (xs1).toNat xs2) 324 (((up2 M 323 (xs1).toNat xs2) 200 20)).toNat x4) 325 (((up2 (up2 M 323 (xs1).toNat xs2) 324 (((up2 M 323 (xs1).toNat xs2) 200 20)).toNat x4) 200 20)).toNat x5) 200 20)).toNat x1) 200 20) + (1 : Int)))) (h1 : 0 ≤ xs1 := by omega) (h2 : xs1 < ((10 : Nat) : Int) := by omega) (h3 : 0 ≤ xs2 ∧ xs2 ≤ 1 := by omega) (h4 : 0 ≤ ((up2 M 323 (xs1).toNat xs2) 200 20) := by omega) (h5 : ((up2 M 323 (xs1).toNat xs2) 200 20) < ((10 : Nat) : Int) := by omega) (h6 : 0 ≤ ((up2 (up2 M 323 (xs1).toNat xs2) 324 (((up2 M 323 (xs1).toNat xs2) 200 20)).toNat x4) 200 20) := by omega) (h7 : ((up2 (up2 M 323 (xs1).toNat xs2) 324 (((up2 M 323 (xs1).toNat xs2) 200 20)).toNat x4) 200 20) < ((10 : Nat) : Int) := by omega) (h8 : 0 ≤ ((up2 (up2 (up2 M 323 (xs1).toNat xs2) 324 (((up2 M 323 (xs1).toNat xs2) 200 20)).toNat x4) 325 (((up2 (up2 M 323 (xs1).toNat xs2) 324 (((up2 M 323 (xs1).toNat xs2) 200 20)).toNat x4) 200 20)).toNat x5) 200 20) := by omega) (h9 : ((up2 (up2 (up2 M 323 (xs1).toNat xs2) 324 (((up2 M 323 (xs1).toNat xs2) 200 20)).toNat x4) 325 (((up2 (up2 M 323 (xs1).toNat xs2) 324 (((up2 M 323 (xs1).toNat xs2) 200 20)).toNat x4) 200 20)).toNat x5) 200 20) < ((10 : Nat) : Int) := by omega) (h10 : 0 ≤ x1 ∧ x1 ≤ 1 := by omega) (h11 : -2147483648 ≤ (((up2 (up2 (up2 (up2 M 323 (xs1).toNat xs2) 324 (((up2 M 323 (xs1).toNat xs2) 200 20)).toNat x4) 325 (((up2 (up2 M 323 (xs1).toNat xs2) 324 (((up2 M 323 (xs1).toNat xs2) 200 20)).toNat x4) 200 20)).toNat x5) 326 (((up2 (up2 (up2 M 323 (xs1).toNat xs2) 324 (((up2 M 323 (xs1).toNat xs2) 200 20)).toNat x4) 325 (((up2 (up2 M 323 (xs1).toNat xs2) 324 (((up2 M 323 (xs1).toNat xs2) 200 20)).toNat x4) 200 20)).toNat x5) 200 20)).toNat x1) 200 20) + (1 : Int)) ∧ (((up2 (up2 (up2 (up2 M 323 (xs1).toNat xs2) 324 (((up2 M 323 (xs1).toNat xs2) 200 20)).toNat x4) 325 (((up2 (up2 M 323 (xs1).toNat xs2) 324 (((up2 M 323 (xs1).toNat xs2) 200 20)).toNat x4) 200 20)).toNat x5) 326 (((up2 (up2 (up2 M 323 (xs1).toNat xs2) 324 (((up2 M 323 (xs1).toNat xs2) 200 20)).toNat x4) 325 (((up2 (up2 M 323 (xs1).toNat xs2) 324 (((up2 M 323 (xs1).toNat xs2) 200 20)).toNat x4) 200 20)).toNat x5) 200 20)).toNat x1) 200 20) + (1 : Int)) ≤ 2147483647 := by omega) (h12 : 0 ≤ (1 : Int) ∧ (1 : Int) ≤ 1 := by omega) : Runs X mX9_readTooth 101 [(0, vr 200), (1, vi x1), (4, vi x4), (5, vi x5)] [vi xs2, vi xs1, vr 323] M P := by
  refine Runs.zast dX9_readTooth_101 rfl h1 h2 h3 ?_
  refine Runs.aload_n (j := 0) dX9_readTooth_102 rfl ?_
  refine Runs.getr (o' := 324) (ci := 9) (j := 24) (C := RX9) (T := TX9) (N := 48) dX9_readTooth_103 rfl cls_X9 (by decide) rfl fl_X9_57 rfl ⟨rfl, "", Or.inr ⟨_, rfl⟩⟩ ?_
  refine Runs.aload_n (j := 0) dX9_readTooth_106 rfl ?_
  refine Runs.geti (ci := 9) (j := 20) (C := RX9) (T := TX9) (N := 48) dX9_readTooth_107 rfl cls_X9 (by decide) rfl fl_X9_136 (Or.inl rfl) ?_
  refine Runs.iload (j := 2) dX9_readTooth_110 rfl ?_
  refine Runs.iast dX9_readTooth_112 rfl h4 h5 ?_
  refine Runs.aload_n (j := 0) dX9_readTooth_113 rfl ?_
  refine Runs.getr (o' := 325) (ci := 9) (j := 25) (C := RX9) (T := TX9) (N := 48) dX9_readTooth_114 rfl cls_X9 (by decide) rfl fl_X9_60 rfl ⟨rfl, "", Or.inr ⟨_, rfl⟩⟩ ?_
  refine Runs.aload_n (j := 0) dX9_readTooth_117 rfl ?_
  refine Runs.geti (ci := 9) (j := 20) (C := RX9) (T := TX9) (N := 48) dX9_readTooth_118 rfl cls_X9 (by decide) rfl fl_X9_136 (Or.inl rfl) ?_
  refine Runs.iload (j := 3) dX9_readTooth_121 rfl ?_
  refine Runs.iast dX9_readTooth_123 rfl h6 h7 ?_
  refine Runs.aload_n (j := 0) dX9_readTooth_124 rfl ?_
  refine Runs.getr (o' := 326) (ci := 9) (j := 26) (C := RX9) (T := TX9) (N := 48) dX9_readTooth_125 rfl cls_X9 (by decide) rfl fl_X9_63 rfl ⟨rfl, "", Or.inr ⟨_, rfl⟩⟩ ?_
  refine Runs.aload_n (j := 0) dX9_readTooth_128 rfl ?_
  refine Runs.geti (ci := 9) (j := 20) (C := RX9) (T := TX9) (N := 48) dX9_readTooth_129 rfl cls_X9 (by decide) rfl fl_X9_136 (Or.inl rfl) ?_
  refine Runs.iload_n (j := 1) dX9_readTooth_132 rfl ?_
  refine Runs.zast dX9_readTooth_133 rfl h8 h9 h10 ?_
  refine Runs.aload_n (j := 0) dX9_readTooth_134 rfl ?_
  refine Runs.dup dX9_readTooth_135 (by intro z h; cases h) ?_
  refine Runs.geti (ci := 9) (j := 20) (C := RX9) (T := TX9) (N := 48) dX9_readTooth_136 rfl cls_X9 (by decide) rfl fl_X9_136 (Or.inl rfl) ?_
  refine Runs.iconst dX9_readTooth_139 (by decide) ?_
  refine Runs.iadd dX9_readTooth_140 h11 ?_
  refine Runs.puti (ci := 9) (j := 20) (C := RX9) (T := TX9) (N := 48) dX9_readTooth_141 rfl cls_X9 (by decide) rfl fl_X9_136 rfl rfl ?_
  refine Runs.iconst dX9_readTooth_144 (by decide) ?_
  exact Runs.retz dX9_readTooth_145 rfl h12 k
theorem kX9_readGood_0 {X : Scr} {M : Mem} {P Q : Option AV → Mem → Prop} (hC : Call X mX9_figure [vr 200, vi (0 : Int), vi (9 : Int)] M Q) (k : ∀ (z : Int) (M1 : Mem), Q (some (vi z)) M1 → Runs X mX9_readGood 7 [(0, vr 200)] [vi z] M1 P) : Runs X mX9_readGood 0 [(0, vr 200)] [] M P := by
  refine Runs.aload_n (j := 0) dX9_readGood_0 rfl ?_
  refine Runs.iconst dX9_readGood_1 (by decide) ?_
  refine Runs.bipush dX9_readGood_2 (by decide) (by decide) ?_
  refine Runs.callVi (y := mX9_figure) (n := 2) (as := [vi (0 : Int), vi (9 : Int)]) (st := []) (q := (RX9, TX9, 48)) dX9_readGood_4 oc_X9_figure im_X9_figure se_X9_figure ml_X9_128 rfl ⟨(Nat.le_of_ble_eq_true rfl), (Nat.le_of_ble_eq_true rfl)⟩ (Nat.le_of_ble_eq_true rfl) (Nat.le_of_ble_eq_true rfl) rfl rfl rfl (Or.inl rfl) hC (fun z M1 hQ => ?_)
  exact k z M1 hQ
theorem kX9_readGood_7 {X : Scr} {M : Mem} {P : Option AV → Mem → Prop} {xs0 : Int} (k1 : xs0 ≠ (-9 : Int) → Runs X mX9_readGood 19 [(0, vr 200), (1, vi xs0)] [] M P) (k2 : xs0 = (-9 : Int) → Runs X mX9_readGood 14 [(0, vr 200), (1, vi xs0)] [] M P) : Runs X mX9_readGood 7 [(0, vr 200)] [vi xs0] M P := by
  refine Runs.istore_n (loc' := [(0, vr 200), (1, vi xs0)]) dX9_readGood_7 rfl (by decide) rfl ?_
  refine Runs.iload_n (j := 1) dX9_readGood_8 rfl ?_
  refine Runs.bipush dX9_readGood_9 (by decide) (by decide) ?_
  refine Runs.icmp_ne (tgt := 19) dX9_readGood_11 (by decide) (fun h => ?_) (fun h => ?_)
  · exact k1 h
  · exact k2 h
theorem kX9_readGood_14 {X : Scr} {M : Mem} {P : Option AV → Mem → Prop} {x1 : Int} (k : Runs X mX9_readGood 34 [(0, vr 200), (1, vi x1)] [vi (-9 : Int)] M P) : Runs X mX9_readGood 14 [(0, vr 200), (1, vi x1)] [] M P := by
  refine Runs.bipush dX9_readGood_14 (by decide) (by decide) ?_
  refine Runs.goto (tgt := 34) dX9_readGood_16 (by decide) ?_
  exact k
theorem kX9_readGood_19 {X : Scr} {M : Mem} {P : Option AV → Mem → Prop} {x1 : Int} (k1 : x1 ≠ 0 → Runs X mX9_readGood 28 [(0, vr 200), (1, vi x1)] [vr 200] M P) (k2 : x1 = 0 → Runs X mX9_readGood 24 [(0, vr 200), (1, vi x1)] [vr 200] M P) : Runs X mX9_readGood 19 [(0, vr 200), (1, vi x1)] [] M P := by
  refine Runs.aload_n (j := 0) dX9_readGood_19 rfl ?_
  refine Runs.iload_n (j := 1) dX9_readGood_20 rfl ?_
  refine Runs.if_ne (tgt := 28) dX9_readGood_21 (by decide) (fun h => ?_) (fun h => ?_)
  · exact k1 h
  · exact k2 h
theorem kX9_readGood_24 {X : Scr} {M : Mem} {P : Option AV → Mem → Prop} {x1 : Int} (k : Runs X mX9_readGood 29 [(0, vr 200), (1, vi x1)] [vi (1 : Int), vr 200] M P) : Runs X mX9_readGood 24 [(0, vr 200), (1, vi x1)] [vr 200] M P := by
  refine Runs.iconst dX9_readGood_24 (by decide) ?_
  refine Runs.goto (tgt := 29) dX9_readGood_25 (by decide) ?_
  exact k
theorem kX9_readGood_28 {X : Scr} {M : Mem} {P : Option AV → Mem → Prop} {x1 : Int} (k : Runs X mX9_readGood 29 [(0, vr 200), (1, vi x1)] [vi (0 : Int), vr 200] M P) : Runs X mX9_readGood 28 [(0, vr 200), (1, vi x1)] [vr 200] M P := by
  refine Runs.iconst dX9_readGood_28 (by decide) ?_
  exact k
theorem kX9_readGood_29 {X : Scr} {M : Mem} {P Q : Option AV → Mem → Prop} {x1 xs1 : Int} (hC : Call X mX9_figure [vr 200, vi xs1, vi (9 : Int)] M Q) (k : ∀ (z : Int) (M1 : Mem), Q (some (vi z)) M1 → Runs X mX9_readGood 34 [(0, vr 200), (1, vi x1)] [vi z] M1 P) : Runs X mX9_readGood 29 [(0, vr 200), (1, vi x1)] [vi xs1, vr 200] M P := by
  refine Runs.bipush dX9_readGood_29 (by decide) (by decide) ?_
  refine Runs.callVi (y := mX9_figure) (n := 2) (as := [vi xs1, vi (9 : Int)]) (st := []) (q := (RX9, TX9, 48)) dX9_readGood_31 oc_X9_figure im_X9_figure se_X9_figure ml_X9_128 rfl ⟨(Nat.le_of_ble_eq_true rfl), (Nat.le_of_ble_eq_true rfl)⟩ (Nat.le_of_ble_eq_true rfl) (Nat.le_of_ble_eq_true rfl) rfl rfl rfl (Or.inl rfl) hC (fun z M1 hQ => ?_)
  exact k z M1 hQ
theorem kX9_readGood_34 {X : Scr} {M : Mem} {P : Option AV → Mem → Prop} {x1 xs0 : Int} (k1 : xs0 ≠ (-9 : Int) → Runs X mX9_readGood 46 [(0, vr 200), (1, vi x1), (2, vi xs0)] [] M P) (k2 : xs0 = (-9 : Int) → Runs X mX9_readGood 41 [(0, vr 200), (1, vi x1), (2, vi xs0)] [] M P) : Runs X mX9_readGood 34 [(0, vr 200), (1, vi x1)] [vi xs0] M P := by
  refine Runs.istore_n (loc' := [(0, vr 200), (1, vi x1), (2, vi xs0)]) dX9_readGood_34 rfl (by decide) rfl ?_
  refine Runs.iload_n (j := 2) dX9_readGood_35 rfl ?_
  refine Runs.bipush dX9_readGood_36 (by decide) (by decide) ?_
  refine Runs.icmp_ne (tgt := 46) dX9_readGood_38 (by decide) (fun h => ?_) (fun h => ?_)
  · exact k1 h
  · exact k2 h
theorem kX9_readGood_41 {X : Scr} {M : Mem} {P : Option AV → Mem → Prop} {x1 x2 : Int} (k : Runs X mX9_readGood 53 [(0, vr 200), (1, vi x1), (2, vi x2)] [vi (-9 : Int)] M P) : Runs X mX9_readGood 41 [(0, vr 200), (1, vi x1), (2, vi x2)] [] M P := by
  refine Runs.bipush dX9_readGood_41 (by decide) (by decide) ?_
  refine Runs.goto (tgt := 53) dX9_readGood_43 (by decide) ?_
  exact k
theorem kX9_readGood_46 {X : Scr} {M : Mem} {P Q : Option AV → Mem → Prop} {x1 x2 : Int} (hC : Call X mX9_figure [vr 200, vi (0 : Int), vi (9 : Int)] M Q) (k : ∀ (z : Int) (M1 : Mem), Q (some (vi z)) M1 → Runs X mX9_readGood 53 [(0, vr 200), (1, vi x1), (2, vi x2)] [vi z] M1 P) : Runs X mX9_readGood 46 [(0, vr 200), (1, vi x1), (2, vi x2)] [] M P := by
  refine Runs.aload_n (j := 0) dX9_readGood_46 rfl ?_
  refine Runs.iconst dX9_readGood_47 (by decide) ?_
  refine Runs.bipush dX9_readGood_48 (by decide) (by decide) ?_
  refine Runs.callVi (y := mX9_figure) (n := 2) (as := [vi (0 : Int), vi (9 : Int)]) (st := []) (q := (RX9, TX9, 48)) dX9_readGood_50 oc_X9_figure im_X9_figure se_X9_figure ml_X9_128 rfl ⟨(Nat.le_of_ble_eq_true rfl), (Nat.le_of_ble_eq_true rfl)⟩ (Nat.le_of_ble_eq_true rfl) (Nat.le_of_ble_eq_true rfl) rfl rfl rfl (Or.inl rfl) hC (fun z M1 hQ => ?_)
  exact k z M1 hQ
theorem kX9_readGood_53 {X : Scr} {M : Mem} {P : Option AV → Mem → Prop} {x1 x2 xs0 : Int} (k1 : xs0 ≠ (-9 : Int) → Runs X mX9_readGood 62 [(0, vr 200), (1, vi x1), (2, vi x2), (3, vi xs0)] [] M P) (k2 : xs0 = (-9 : Int) → Runs X mX9_readGood 60 [] [] M P) : Runs X mX9_readGood 53 [(0, vr 200), (1, vi x1), (2, vi x2)] [vi xs0] M P := by
  refine Runs.istore_n (loc' := [(0, vr 200), (1, vi x1), (2, vi x2), (3, vi xs0)]) dX9_readGood_53 rfl (by decide) rfl ?_
  refine Runs.iload_n (j := 3) dX9_readGood_54 rfl ?_
  refine Runs.bipush dX9_readGood_55 (by decide) (by decide) ?_
  refine Runs.icmp_ne (tgt := 62) dX9_readGood_57 (by decide) (fun h => ?_) (fun h => ?_)
  · exact k1 h
  · refine Runs.picks (loc' := []) [] rfl ?_
    exact k2 h
theorem kX9_readGood_60 {X : Scr} {M : Mem} {P : Option AV → Mem → Prop} (k : P (some (vi (0 : Int))) M) (h1 : 0 ≤ (0 : Int) ∧ (0 : Int) ≤ 1 := by omega) : Runs X mX9_readGood 60 [] [] M P := by
  refine Runs.iconst dX9_readGood_60 (by decide) ?_
  exact Runs.retz dX9_readGood_61 rfl h1 k
theorem kX9_readGood_62 {X : Scr} {M : Mem} {P : Option AV → Mem → Prop} {x1 x2 x3 : Int} (k : P (some (vi (1 : Int))) (up2 (up2 (up2 M 327 ((M 200 21)).toNat (((10 : Int) * x1) + x2)) 328 (((up2 M 327 ((M 200 21)).toNat (((10 : Int) * x1) + x2)) 200 21)).toNat x3) 200 21 (((up2 (up2 M 327 ((M 200 21)).toNat (((10 : Int) * x1) + x2)) 328 (((up2 M 327 ((M 200 21)).toNat (((10 : Int) * x1) + x2)) 200 21)).toNat x3) 200 21) + (1 : Int)))) (h1 : -2147483648 ≤ ((10 : Int) * x1) ∧ ((10 : Int) * x1) ≤ 2147483647 := by omega) (h2 : -2147483648 ≤ (((10 : Int) * x1) + x2) ∧ (((10 : Int) * x1) + x2) ≤ 2147483647 := by omega) (h3 : 0 ≤ (M 200 21) := by omega) (h4 : (M 200 21) < ((4 : Nat) : Int) := by omega) (h5 : 0 ≤ ((up2 M 327 ((M 200 21)).toNat (((10 : Int) * x1) + x2)) 200 21) := by omega) (h6 : ((up2 M 327 ((M 200 21)).toNat (((10 : Int) * x1) + x2)) 200 21) < ((4 : Nat) : Int) := by omega) (h7 : -2147483648 ≤ (((up2 (up2 M 327 ((M 200 21)).toNat (((10 : Int) * x1) + x2)) 328 (((up2 M 327 ((M 200 21)).toNat (((10 : Int) * x1) + x2)) 200 21)).toNat x3) 200 21) + (1 : Int)) ∧ (((up2 (up2 M 327 ((M 200 21)).toNat (((10 : Int) * x1) + x2)) 328 (((up2 M 327 ((M 200 21)).toNat (((10 : Int) * x1) + x2)) 200 21)).toNat x3) 200 21) + (1 : Int)) ≤ 2147483647 := by omega) (h8 : 0 ≤ (1 : Int) ∧ (1 : Int) ≤ 1 := by omega) : Runs X mX9_readGood 62 [(0, vr 200), (1, vi x1), (2, vi x2), (3, vi x3)] [] M P := by
  refine Runs.aload_n (j := 0) dX9_readGood_62 rfl ?_
  refine Runs.getr (o' := 327) (ci := 9) (j := 27) (C := RX9) (T := TX9) (N := 48) dX9_readGood_63 rfl cls_X9 (by decide) rfl fl_X9_66 rfl ⟨rfl, "", Or.inr ⟨_, rfl⟩⟩ ?_
  refine Runs.aload_n (j := 0) dX9_readGood_66 rfl ?_
  refine Runs.geti (ci := 9) (j := 21) (C := RX9) (T := TX9) (N := 48) dX9_readGood_67 rfl cls_X9 (by decide) rfl fl_X9_139 (Or.inl rfl) ?_
  refine Runs.bipush dX9_readGood_70 (by decide) (by decide) ?_
  refine Runs.iload_n (j := 1) dX9_readGood_72 rfl ?_
  refine Runs.imul dX9_readGood_73 h1 ?_
  refine Runs.iload_n (j := 2) dX9_readGood_74 rfl ?_
  refine Runs.iadd dX9_readGood_75 h2 ?_
  refine Runs.iast dX9_readGood_76 rfl h3 h4 ?_
  refine Runs.aload_n (j := 0) dX9_readGood_77 rfl ?_
  refine Runs.getr (o' := 328) (ci := 9) (j := 28) (C := RX9) (T := TX9) (N := 48) dX9_readGood_78 rfl cls_X9 (by decide) rfl fl_X9_69 rfl ⟨rfl, "", Or.inr ⟨_, rfl⟩⟩ ?_
  refine Runs.aload_n (j := 0) dX9_readGood_81 rfl ?_
  refine Runs.geti (ci := 9) (j := 21) (C := RX9) (T := TX9) (N := 48) dX9_readGood_82 rfl cls_X9 (by decide) rfl fl_X9_139 (Or.inl rfl) ?_
  refine Runs.iload_n (j := 3) dX9_readGood_85 rfl ?_
  refine Runs.iast dX9_readGood_86 rfl h5 h6 ?_
  refine Runs.aload_n (j := 0) dX9_readGood_87 rfl ?_
  refine Runs.dup dX9_readGood_88 (by intro z h; cases h) ?_
  refine Runs.geti (ci := 9) (j := 21) (C := RX9) (T := TX9) (N := 48) dX9_readGood_89 rfl cls_X9 (by decide) rfl fl_X9_139 (Or.inl rfl) ?_
  refine Runs.iconst dX9_readGood_92 (by decide) ?_
  refine Runs.iadd dX9_readGood_93 h7 ?_
  refine Runs.puti (ci := 9) (j := 21) (C := RX9) (T := TX9) (N := 48) dX9_readGood_94 rfl cls_X9 (by decide) rfl fl_X9_139 rfl rfl ?_
  refine Runs.iconst dX9_readGood_97 (by decide) ?_
  exact Runs.retz dX9_readGood_98 rfl h8 k
theorem kX9_readPart_0 {X : Scr} {M : Mem} {P : Option AV → Mem → Prop} (k1 : (M 301 ((M 200 3)).toNat) = (84 : Int) → Runs X mX9_readPart 22 [(0, vr 200), (1, vi (M 301 ((M 200 3)).toNat))] [] M P) (k2 : (M 301 ((M 200 3)).toNat) ≠ (84 : Int) → Runs X mX9_readPart 16 [(0, vr 200), (1, vi (M 301 ((M 200 3)).toNat))] [] M P) (h1 : 0 ≤ (M 200 3) := by omega) (h2 : (M 200 3) < ((72 : Nat) : Int) := by omega) : Runs X mX9_readPart 0 [(0, vr 200)] [] M P := by
  refine Runs.aload_n (j := 0) dX9_readPart_0 rfl ?_
  refine Runs.getr (o' := 301) (ci := 9) (j := 1) (C := RX9) (T := TX9) (N := 48) dX9_readPart_1 rfl cls_X9 (by decide) rfl fl_X9_7 rfl ⟨rfl, "", Or.inr ⟨_, rfl⟩⟩ ?_
  refine Runs.aload_n (j := 0) dX9_readPart_4 rfl ?_
  refine Runs.geti (ci := 9) (j := 3) (C := RX9) (T := TX9) (N := 48) dX9_readPart_5 rfl cls_X9 (by decide) rfl fl_X9_125 (Or.inl rfl) ?_
  refine Runs.iald dX9_readPart_8 rfl h1 h2 ?_
  refine Runs.istore_n (loc' := [(0, vr 200), (1, vi (M 301 ((M 200 3)).toNat))]) dX9_readPart_9 rfl (by decide) rfl ?_
  refine Runs.iload_n (j := 1) dX9_readPart_10 rfl ?_
  refine Runs.bipush dX9_readPart_11 (by decide) (by decide) ?_
  refine Runs.icmp_eq (tgt := 22) dX9_readPart_13 (by decide) (fun h => ?_) (fun h => ?_)
  · exact k1 h
  · exact k2 h
theorem kX9_readPart_16 {X : Scr} {M : Mem} {P : Option AV → Mem → Prop} {x1 : Int} (k1 : x1 ≠ (66 : Int) → Runs X mX9_readPart 35 [(0, vr 200), (1, vi x1)] [] M P) (k2 : x1 = (66 : Int) → Runs X mX9_readPart 22 [(0, vr 200), (1, vi x1)] [] M P) : Runs X mX9_readPart 16 [(0, vr 200), (1, vi x1)] [] M P := by
  refine Runs.iload_n (j := 1) dX9_readPart_16 rfl ?_
  refine Runs.bipush dX9_readPart_17 (by decide) (by decide) ?_
  refine Runs.icmp_ne (tgt := 35) dX9_readPart_19 (by decide) (fun h => ?_) (fun h => ?_)
  · exact k1 h
  · exact k2 h
theorem kX9_readPart_22 {X : Scr} {M : Mem} {P : Option AV → Mem → Prop} {x1 : Int} (k1 : (10 : Int) ≤ (M 200 20) → Runs X mX9_readPart 35 [(0, vr 200), (1, vi x1)] [] M P) (k2 : (M 200 20) < (10 : Int) → Runs X mX9_readPart 31 [(0, vr 200), (1, vi x1)] [] M P) : Runs X mX9_readPart 22 [(0, vr 200), (1, vi x1)] [] M P := by
  refine Runs.aload_n (j := 0) dX9_readPart_22 rfl ?_
  refine Runs.geti (ci := 9) (j := 20) (C := RX9) (T := TX9) (N := 48) dX9_readPart_23 rfl cls_X9 (by decide) rfl fl_X9_136 (Or.inl rfl) ?_
  refine Runs.bipush dX9_readPart_26 (by decide) (by decide) ?_
  refine Runs.icmp_ge (tgt := 35) dX9_readPart_28 (by decide) (fun h => ?_) (fun h => ?_)
  · exact k1 h
  · exact k2 h
theorem kX9_readPart_31 {X : Scr} {M : Mem} {P : Option AV → Mem → Prop} {x1 : Int} (k : Runs X mX9_readPart 36 [(0, vr 200), (1, vi x1)] [vi (1 : Int)] M P) : Runs X mX9_readPart 31 [(0, vr 200), (1, vi x1)] [] M P := by
  refine Runs.iconst dX9_readPart_31 (by decide) ?_
  refine Runs.goto (tgt := 36) dX9_readPart_32 (by decide) ?_
  exact k
theorem kX9_readPart_35 {X : Scr} {M : Mem} {P : Option AV → Mem → Prop} {x1 : Int} (k : Runs X mX9_readPart 36 [(0, vr 200), (1, vi x1)] [vi (0 : Int)] M P) : Runs X mX9_readPart 35 [(0, vr 200), (1, vi x1)] [] M P := by
  refine Runs.iconst dX9_readPart_35 (by decide) ?_
  exact k
theorem kX9_readPart_36 {X : Scr} {M : Mem} {P : Option AV → Mem → Prop} {x1 xs0 : Int} (k1 : x1 ≠ (71 : Int) → Runs X mX9_readPart 55 [(0, vr 200), (1, vi x1), (2, vi xs0)] [] M P) (k2 : x1 = (71 : Int) → Runs X mX9_readPart 43 [(0, vr 200), (1, vi x1), (2, vi xs0)] [] M P) : Runs X mX9_readPart 36 [(0, vr 200), (1, vi x1)] [vi xs0] M P := by
  refine Runs.istore_n (loc' := [(0, vr 200), (1, vi x1), (2, vi xs0)]) dX9_readPart_36 rfl (by decide) rfl ?_
  refine Runs.iload_n (j := 1) dX9_readPart_37 rfl ?_
  refine Runs.bipush dX9_readPart_38 (by decide) (by decide) ?_
  refine Runs.icmp_ne (tgt := 55) dX9_readPart_40 (by decide) (fun h => ?_) (fun h => ?_)
  · exact k1 h
  · exact k2 h
theorem kX9_readPart_43 {X : Scr} {M : Mem} {P : Option AV → Mem → Prop} {x1 x2 : Int} (k1 : (4 : Int) ≤ (M 200 21) → Runs X mX9_readPart 55 [(0, vr 200), (1, vi x1), (2, vi x2)] [] M P) (k2 : (M 200 21) < (4 : Int) → Runs X mX9_readPart 51 [(0, vr 200), (1, vi x1), (2, vi x2)] [] M P) : Runs X mX9_readPart 43 [(0, vr 200), (1, vi x1), (2, vi x2)] [] M P := by
  refine Runs.aload_n (j := 0) dX9_readPart_43 rfl ?_
  refine Runs.geti (ci := 9) (j := 21) (C := RX9) (T := TX9) (N := 48) dX9_readPart_44 rfl cls_X9 (by decide) rfl fl_X9_139 (Or.inl rfl) ?_
  refine Runs.iconst dX9_readPart_47 (by decide) ?_
  refine Runs.icmp_ge (tgt := 55) dX9_readPart_48 (by decide) (fun h => ?_) (fun h => ?_)
  · exact k1 h
  · exact k2 h
theorem kX9_readPart_51 {X : Scr} {M : Mem} {P : Option AV → Mem → Prop} {x1 x2 : Int} (k : Runs X mX9_readPart 56 [(0, vr 200), (1, vi x1), (2, vi x2)] [vi (1 : Int)] M P) : Runs X mX9_readPart 51 [(0, vr 200), (1, vi x1), (2, vi x2)] [] M P := by
  refine Runs.iconst dX9_readPart_51 (by decide) ?_
  refine Runs.goto (tgt := 56) dX9_readPart_52 (by decide) ?_
  exact k
theorem kX9_readPart_55 {X : Scr} {M : Mem} {P : Option AV → Mem → Prop} {x1 x2 : Int} (k : Runs X mX9_readPart 56 [(0, vr 200), (1, vi x1), (2, vi x2)] [vi (0 : Int)] M P) : Runs X mX9_readPart 55 [(0, vr 200), (1, vi x1), (2, vi x2)] [] M P := by
  refine Runs.iconst dX9_readPart_55 (by decide) ?_
  exact k
theorem kX9_readPart_56 {X : Scr} {M : Mem} {P : Option AV → Mem → Prop} {x1 x2 xs0 : Int} (k1 : x2 ≠ 0 → Runs X mX9_readPart 67 [(0, vr 200), (1, vi x1), (2, vi x2)] [] M P) (k2 : x2 = 0 → Runs X mX9_readPart 61 [(0, vr 200), (1, vi x1), (2, vi x2), (3, vi xs0)] [] M P) : Runs X mX9_readPart 56 [(0, vr 200), (1, vi x1), (2, vi x2)] [vi xs0] M P := by
  refine Runs.istore_n (loc' := [(0, vr 200), (1, vi x1), (2, vi x2), (3, vi xs0)]) dX9_readPart_56 rfl (by decide) rfl ?_
  refine Runs.iload_n (j := 2) dX9_readPart_57 rfl ?_
  refine Runs.if_ne (tgt := 67) dX9_readPart_58 (by decide) (fun h => ?_) (fun h => ?_)
  · refine Runs.picks (loc' := [(0, vr 200), (1, vi x1), (2, vi x2)]) [0, 1, 2] rfl ?_
    exact k1 h
  · exact k2 h
theorem kX9_readPart_61 {X : Scr} {M : Mem} {P : Option AV → Mem → Prop} {x1 x2 x3 : Int} (k1 : x3 ≠ 0 → Runs X mX9_readPart 67 [(0, vr 200), (1, vi x1), (2, vi x2)] [] M P) (k2 : x3 = 0 → Runs X mX9_readPart 65 [] [] M P) : Runs X mX9_readPart 61 [(0, vr 200), (1, vi x1), (2, vi x2), (3, vi x3)] [] M P := by
  refine Runs.iload_n (j := 3) dX9_readPart_61 rfl ?_
  refine Runs.if_ne (tgt := 67) dX9_readPart_62 (by decide) (fun h => ?_) (fun h => ?_)
  · refine Runs.picks (loc' := [(0, vr 200), (1, vi x1), (2, vi x2)]) [0, 1, 2] rfl ?_
    exact k1 h
  · refine Runs.picks (loc' := []) [] rfl ?_
    exact k2 h
theorem kX9_readPart_65 {X : Scr} {M : Mem} {P : Option AV → Mem → Prop} (k : P (some (vi (0 : Int))) M) (h1 : 0 ≤ (0 : Int) ∧ (0 : Int) ≤ 1 := by omega) : Runs X mX9_readPart 65 [] [] M P := by
  refine Runs.iconst dX9_readPart_65 (by decide) ?_
  exact Runs.retz dX9_readPart_66 rfl h1 k
theorem kX9_readPart_67 {X : Scr} {M : Mem} {P : Option AV → Mem → Prop} {x1 x2 : Int} (k1 : x2 = 0 → Runs X mX9_readPart 99 [(0, vr 200)] [] (up2 M 200 3 ((M 200 3) + (1 : Int))) P) (k2 : x2 ≠ 0 → Runs X mX9_readPart 81 [(0, vr 200), (1, vi x1)] [] (up2 M 200 3 ((M 200 3) + (1 : Int))) P) (h1 : -2147483648 ≤ ((M 200 3) + (1 : Int)) ∧ ((M 200 3) + (1 : Int)) ≤ 2147483647 := by omega) : Runs X mX9_readPart 67 [(0, vr 200), (1, vi x1), (2, vi x2)] [] M P := by
  refine Runs.aload_n (j := 0) dX9_readPart_67 rfl ?_
  refine Runs.dup dX9_readPart_68 (by intro z h; cases h) ?_
  refine Runs.geti (ci := 9) (j := 3) (C := RX9) (T := TX9) (N := 48) dX9_readPart_69 rfl cls_X9 (by decide) rfl fl_X9_125 (Or.inl rfl) ?_
  refine Runs.iconst dX9_readPart_72 (by decide) ?_
  refine Runs.iadd dX9_readPart_73 h1 ?_
  refine Runs.puti (ci := 9) (j := 3) (C := RX9) (T := TX9) (N := 48) dX9_readPart_74 rfl cls_X9 (by decide) rfl fl_X9_125 rfl rfl ?_
  refine Runs.iload_n (j := 2) dX9_readPart_77 rfl ?_
  refine Runs.if_eq (tgt := 99) dX9_readPart_78 (by decide) (fun h => ?_) (fun h => ?_)
  · refine Runs.picks (loc' := [(0, vr 200)]) [0] rfl ?_
    exact k1 h
  · refine Runs.picks (loc' := [(0, vr 200), (1, vi x1)]) [0, 1] rfl ?_
    exact k2 h
theorem kX9_readPart_81 {X : Scr} {M : Mem} {P : Option AV → Mem → Prop} {x1 : Int} (k1 : x1 ≠ (66 : Int) → Runs X mX9_readPart 92 [] [vr 200] M P) (k2 : x1 = (66 : Int) → Runs X mX9_readPart 88 [] [vr 200] M P) : Runs X mX9_readPart 81 [(0, vr 200), (1, vi x1)] [] M P := by
  refine Runs.aload_n (j := 0) dX9_readPart_81 rfl ?_
  refine Runs.iload_n (j := 1) dX9_readPart_82 rfl ?_
  refine Runs.bipush dX9_readPart_83 (by decide) (by decide) ?_
  refine Runs.icmp_ne (tgt := 92) dX9_readPart_85 (by decide) (fun h => ?_) (fun h => ?_)
  · refine Runs.picks (loc' := []) [] rfl ?_
    exact k1 h
  · refine Runs.picks (loc' := []) [] rfl ?_
    exact k2 h
theorem kX9_readPart_88 {X : Scr} {M : Mem} {P : Option AV → Mem → Prop} (k : Runs X mX9_readPart 93 [] [vi (1 : Int), vr 200] M P) : Runs X mX9_readPart 88 [] [vr 200] M P := by
  refine Runs.iconst dX9_readPart_88 (by decide) ?_
  refine Runs.goto (tgt := 93) dX9_readPart_89 (by decide) ?_
  exact k
theorem kX9_readPart_92 {X : Scr} {M : Mem} {P : Option AV → Mem → Prop} (k : Runs X mX9_readPart 93 [] [vi (0 : Int), vr 200] M P) : Runs X mX9_readPart 92 [] [vr 200] M P := by
  refine Runs.iconst dX9_readPart_92 (by decide) ?_
  exact k
theorem kX9_readPart_93 {X : Scr} {M : Mem} {P Q : Option AV → Mem → Prop} {xs1 : Int} (hC : Call X mX9_readTooth [vr 200, vi xs1] M Q) (k : ∀ (z : Int) (M1 : Mem), Q (some (vi z)) M1 → Runs X mX9_readPart 96 [] [vi z] M1 P) : Runs X mX9_readPart 93 [] [vi xs1, vr 200] M P := by
  refine Runs.callVi (y := mX9_readTooth) (n := 1) (as := [vi xs1]) (st := []) (q := (RX9, TX9, 48)) dX9_readPart_93 oc_X9_readTooth im_X9_readTooth se_X9_readTooth ml_X9_142 rfl ⟨(Nat.le_of_ble_eq_true rfl), (Nat.le_of_ble_eq_true rfl)⟩ (Nat.le_of_ble_eq_true rfl) (Nat.le_of_ble_eq_true rfl) rfl rfl rfl (Or.inr rfl) hC (fun z M1 hQ => ?_)
  exact k z M1 hQ
theorem kX9_readPart_96 {X : Scr} {M : Mem} {P : Option AV → Mem → Prop} {xs0 : Int} (k : Runs X mX9_readPart 103 [] [vi xs0] M P) : Runs X mX9_readPart 96 [] [vi xs0] M P := by
  refine Runs.goto (tgt := 103) dX9_readPart_96 (by decide) ?_
  exact k
theorem kX9_readPart_99 {X : Scr} {M : Mem} {P Q : Option AV → Mem → Prop} (hC : Call X mX9_readGood [vr 200] M Q) (k : ∀ (z : Int) (M1 : Mem), Q (some (vi z)) M1 → Runs X mX9_readPart 103 [] [vi z] M1 P) : Runs X mX9_readPart 99 [(0, vr 200)] [] M P := by
  refine Runs.aload_n (j := 0) dX9_readPart_99 rfl ?_
  refine Runs.callVi (y := mX9_readGood) (n := 0) (as := []) (st := []) (q := (RX9, TX9, 48)) dX9_readPart_100 oc_X9_readGood im_X9_readGood se_X9_readGood ml_X9_146 rfl ⟨(Nat.le_of_ble_eq_true rfl), (Nat.le_of_ble_eq_true rfl)⟩ (Nat.le_of_ble_eq_true rfl) (Nat.le_of_ble_eq_true rfl) rfl rfl rfl (Or.inr rfl) hC (fun z M1 hQ => ?_)
  refine Runs.picks (loc' := []) [] rfl ?_
  exact k z M1 hQ
theorem kX9_readPart_103 {X : Scr} {M : Mem} {P : Option AV → Mem → Prop} {xs0 : Int} (k : P (some (vi xs0)) M) (h1 : 0 ≤ xs0 ∧ xs0 ≤ 1 := by omega) : Runs X mX9_readPart 103 [] [vi xs0] M P := by
  exact Runs.retz dX9_readPart_103 rfl h1 k
theorem kX9_readMarket_0 {X : Scr} {M : Mem} {P : Option AV → Mem → Prop} (k1 : ((up2 (up2 (up2 M 200 3 (0 : Int)) 200 20 (0 : Int)) 200 21 (0 : Int)) 200 2) = 0 → Runs X mX9_readMarket 33 [] [] (up2 (up2 (up2 M 200 3 (0 : Int)) 200 20 (0 : Int)) 200 21 (0 : Int)) P) (k2 : ((up2 (up2 (up2 M 200 3 (0 : Int)) 200 20 (0 : Int)) 200 21 (0 : Int)) 200 2) ≠ 0 → Runs X mX9_readMarket 22 [(0, vr 200)] [] (up2 (up2 (up2 M 200 3 (0 : Int)) 200 20 (0 : Int)) 200 21 (0 : Int)) P) : Runs X mX9_readMarket 0 [(0, vr 200)] [] M P := by
  refine Runs.aload_n (j := 0) dX9_readMarket_0 rfl ?_
  refine Runs.iconst dX9_readMarket_1 (by decide) ?_
  refine Runs.puti (ci := 9) (j := 3) (C := RX9) (T := TX9) (N := 48) dX9_readMarket_2 rfl cls_X9 (by decide) rfl fl_X9_125 rfl rfl ?_
  refine Runs.aload_n (j := 0) dX9_readMarket_5 rfl ?_
  refine Runs.iconst dX9_readMarket_6 (by decide) ?_
  refine Runs.puti (ci := 9) (j := 20) (C := RX9) (T := TX9) (N := 48) dX9_readMarket_7 rfl cls_X9 (by decide) rfl fl_X9_136 rfl rfl ?_
  refine Runs.aload_n (j := 0) dX9_readMarket_10 rfl ?_
  refine Runs.iconst dX9_readMarket_11 (by decide) ?_
  refine Runs.puti (ci := 9) (j := 21) (C := RX9) (T := TX9) (N := 48) dX9_readMarket_12 rfl cls_X9 (by decide) rfl fl_X9_139 rfl rfl ?_
  refine Runs.aload_n (j := 0) dX9_readMarket_15 rfl ?_
  refine Runs.geti (ci := 9) (j := 2) (C := RX9) (T := TX9) (N := 48) dX9_readMarket_16 rfl cls_X9 (by decide) rfl fl_X9_122 (Or.inl rfl) ?_
  refine Runs.if_eq (tgt := 33) dX9_readMarket_19 (by decide) (fun h => ?_) (fun h => ?_)
  · refine Runs.picks (loc' := []) [] rfl ?_
    exact k1 h
  · exact k2 h
theorem kX9_readMarket_22 {X : Scr} {M : Mem} {P : Option AV → Mem → Prop} (k1 : (M 301 ((0 : Int)).toNat) = (76 : Int) → Runs X mX9_readMarket 35 [(0, vr 200)] [] M P) (k2 : (M 301 ((0 : Int)).toNat) ≠ (76 : Int) → Runs X mX9_readMarket 33 [] [] M P) (h1 : 0 ≤ (0 : Int) := by omega) (h2 : (0 : Int) < ((72 : Nat) : Int) := by omega) : Runs X mX9_readMarket 22 [(0, vr 200)] [] M P := by
  refine Runs.aload_n (j := 0) dX9_readMarket_22 rfl ?_
  refine Runs.getr (o' := 301) (ci := 9) (j := 1) (C := RX9) (T := TX9) (N := 48) dX9_readMarket_23 rfl cls_X9 (by decide) rfl fl_X9_7 rfl ⟨rfl, "", Or.inr ⟨_, rfl⟩⟩ ?_
  refine Runs.iconst dX9_readMarket_26 (by decide) ?_
  refine Runs.iald dX9_readMarket_27 rfl h1 h2 ?_
  refine Runs.bipush dX9_readMarket_28 (by decide) (by decide) ?_
  refine Runs.icmp_eq (tgt := 35) dX9_readMarket_30 (by decide) (fun h => ?_) (fun h => ?_)
  · exact k1 h
  · refine Runs.picks (loc' := []) [] rfl ?_
    exact k2 h
theorem kX9_readMarket_33 {X : Scr} {M : Mem} {P : Option AV → Mem → Prop} (k : P (some (vi (0 : Int))) M) : Runs X mX9_readMarket 33 [] [] M P := by
  refine Runs.iconst dX9_readMarket_33 (by decide) ?_
  exact Runs.reti dX9_readMarket_34 rfl k
theorem kX9_readMarket_35 {X : Scr} {M : Mem} {P Q : Option AV → Mem → Prop} (hC : Call X mX9_figure [vr 200, vi (0 : Int), vi (9 : Int)] (up2 M 200 3 (1 : Int)) Q) (k : ∀ (z : Int) (M1 : Mem), Q (some (vi z)) M1 → Runs X mX9_readMarket 48 [(0, vr 200)] [vi z, vr 200] M1 P) : Runs X mX9_readMarket 35 [(0, vr 200)] [] M P := by
  refine Runs.aload_n (j := 0) dX9_readMarket_35 rfl ?_
  refine Runs.iconst dX9_readMarket_36 (by decide) ?_
  refine Runs.puti (ci := 9) (j := 3) (C := RX9) (T := TX9) (N := 48) dX9_readMarket_37 rfl cls_X9 (by decide) rfl fl_X9_125 rfl rfl ?_
  refine Runs.aload_n (j := 0) dX9_readMarket_40 rfl ?_
  refine Runs.aload_n (j := 0) dX9_readMarket_41 rfl ?_
  refine Runs.iconst dX9_readMarket_42 (by decide) ?_
  refine Runs.bipush dX9_readMarket_43 (by decide) (by decide) ?_
  refine Runs.callVi (y := mX9_figure) (n := 2) (as := [vi (0 : Int), vi (9 : Int)]) (st := [vr 200]) (q := (RX9, TX9, 48)) dX9_readMarket_45 oc_X9_figure im_X9_figure se_X9_figure ml_X9_128 rfl ⟨(Nat.le_of_ble_eq_true rfl), (Nat.le_of_ble_eq_true rfl)⟩ (Nat.le_of_ble_eq_true rfl) (Nat.le_of_ble_eq_true rfl) rfl rfl rfl (Or.inl rfl) hC (fun z M1 hQ => ?_)
  exact k z M1 hQ
theorem kX9_readMarket_48 {X : Scr} {M : Mem} {P : Option AV → Mem → Prop} {xs1 : Int} (k1 : ((up2 M 200 18 xs1) 200 18) ≠ (-9 : Int) → Runs X mX9_readMarket 66 [(0, vr 200)] [vr 200] (up2 M 200 18 xs1) P) (k2 : ((up2 M 200 18 xs1) 200 18) = (-9 : Int) → Runs X mX9_readMarket 61 [(0, vr 200)] [vr 200] (up2 M 200 18 xs1) P) : Runs X mX9_readMarket 48 [(0, vr 200)] [vi xs1, vr 200] M P := by
  refine Runs.puti (ci := 9) (j := 18) (C := RX9) (T := TX9) (N := 48) dX9_readMarket_48 rfl cls_X9 (by decide) rfl fl_X9_150 rfl rfl ?_
  refine Runs.aload_n (j := 0) dX9_readMarket_51 rfl ?_
  refine Runs.aload_n (j := 0) dX9_readMarket_52 rfl ?_
  refine Runs.geti (ci := 9) (j := 18) (C := RX9) (T := TX9) (N := 48) dX9_readMarket_53 rfl cls_X9 (by decide) rfl fl_X9_150 (Or.inl rfl) ?_
  refine Runs.bipush dX9_readMarket_56 (by decide) (by decide) ?_
  refine Runs.icmp_ne (tgt := 66) dX9_readMarket_58 (by decide) (fun h => ?_) (fun h => ?_)
  · exact k1 h
  · exact k2 h
theorem kX9_readMarket_61 {X : Scr} {M : Mem} {P : Option AV → Mem → Prop} (k : Runs X mX9_readMarket 73 [(0, vr 200)] [vi (-9 : Int), vr 200] M P) : Runs X mX9_readMarket 61 [(0, vr 200)] [vr 200] M P := by
  refine Runs.bipush dX9_readMarket_61 (by decide) (by decide) ?_
  refine Runs.goto (tgt := 73) dX9_readMarket_63 (by decide) ?_
  exact k
theorem kX9_readMarket_66 {X : Scr} {M : Mem} {P Q : Option AV → Mem → Prop} (hC : Call X mX9_figure [vr 200, vi (1 : Int), vi (9 : Int)] M Q) (k : ∀ (z : Int) (M1 : Mem), Q (some (vi z)) M1 → Runs X mX9_readMarket 73 [(0, vr 200)] [vi z, vr 200] M1 P) : Runs X mX9_readMarket 66 [(0, vr 200)] [vr 200] M P := by
  refine Runs.aload_n (j := 0) dX9_readMarket_66 rfl ?_
  refine Runs.iconst dX9_readMarket_67 (by decide) ?_
  refine Runs.bipush dX9_readMarket_68 (by decide) (by decide) ?_
  refine Runs.callVi (y := mX9_figure) (n := 2) (as := [vi (1 : Int), vi (9 : Int)]) (st := [vr 200]) (q := (RX9, TX9, 48)) dX9_readMarket_70 oc_X9_figure im_X9_figure se_X9_figure ml_X9_128 rfl ⟨(Nat.le_of_ble_eq_true rfl), (Nat.le_of_ble_eq_true rfl)⟩ (Nat.le_of_ble_eq_true rfl) (Nat.le_of_ble_eq_true rfl) rfl rfl rfl (Or.inl rfl) hC (fun z M1 hQ => ?_)
  exact k z M1 hQ
theorem kX9_readMarket_73 {X : Scr} {M : Mem} {P : Option AV → Mem → Prop} {xs1 : Int} (k1 : ((up2 M 200 19 xs1) 200 19) ≠ (-9 : Int) → Runs X mX9_readMarket 90 [(0, vr 200)] [] (up2 M 200 19 xs1) P) (k2 : ((up2 M 200 19 xs1) 200 19) = (-9 : Int) → Runs X mX9_readMarket 85 [(0, vr 200)] [] (up2 M 200 19 xs1) P) : Runs X mX9_readMarket 73 [(0, vr 200)] [vi xs1, vr 200] M P := by
  refine Runs.puti (ci := 9) (j := 19) (C := RX9) (T := TX9) (N := 48) dX9_readMarket_73 rfl cls_X9 (by decide) rfl fl_X9_153 rfl rfl ?_
  refine Runs.aload_n (j := 0) dX9_readMarket_76 rfl ?_
  refine Runs.geti (ci := 9) (j := 19) (C := RX9) (T := TX9) (N := 48) dX9_readMarket_77 rfl cls_X9 (by decide) rfl fl_X9_153 (Or.inl rfl) ?_
  refine Runs.bipush dX9_readMarket_80 (by decide) (by decide) ?_
  refine Runs.icmp_ne (tgt := 90) dX9_readMarket_82 (by decide) (fun h => ?_) (fun h => ?_)
  · exact k1 h
  · exact k2 h
theorem kX9_readMarket_85 {X : Scr} {M : Mem} {P : Option AV → Mem → Prop} (k : P (some (vi (M 200 3))) M) : Runs X mX9_readMarket 85 [(0, vr 200)] [] M P := by
  refine Runs.aload_n (j := 0) dX9_readMarket_85 rfl ?_
  refine Runs.geti (ci := 9) (j := 3) (C := RX9) (T := TX9) (N := 48) dX9_readMarket_86 rfl cls_X9 (by decide) rfl fl_X9_125 (Or.inl rfl) ?_
  exact Runs.reti dX9_readMarket_89 rfl k
theorem kX9_readMarket_90 {X : Scr} {M : Mem} {P : Option AV → Mem → Prop} (k1 : (M 200 2) ≤ (M 200 3) → Runs X mX9_readMarket 113 [] [] M P) (k2 : (M 200 3) < (M 200 2) → Runs X mX9_readMarket 101 [(0, vr 200)] [] M P) : Runs X mX9_readMarket 90 [(0, vr 200)] [] M P := by
  refine Runs.aload_n (j := 0) dX9_readMarket_90 rfl ?_
  refine Runs.geti (ci := 9) (j := 3) (C := RX9) (T := TX9) (N := 48) dX9_readMarket_91 rfl cls_X9 (by decide) rfl fl_X9_125 (Or.inl rfl) ?_
  refine Runs.aload_n (j := 0) dX9_readMarket_94 rfl ?_
  refine Runs.geti (ci := 9) (j := 2) (C := RX9) (T := TX9) (N := 48) dX9_readMarket_95 rfl cls_X9 (by decide) rfl fl_X9_122 (Or.inl rfl) ?_
  refine Runs.icmp_ge (tgt := 113) dX9_readMarket_98 (by decide) (fun h => ?_) (fun h => ?_)
  · refine Runs.picks (loc' := []) [] rfl ?_
    exact k1 h
  · exact k2 h
theorem kX9_readMarket_101 {X : Scr} {M : Mem} {P Q : Option AV → Mem → Prop} (hC : Call X mX9_readPart [vr 200] M Q) (k : ∀ (z : Int) (M1 : Mem), Q (some (vi z)) M1 → Runs X mX9_readMarket 105 [(0, vr 200)] [vi z] M1 P) : Runs X mX9_readMarket 101 [(0, vr 200)] [] M P := by
  refine Runs.aload_n (j := 0) dX9_readMarket_101 rfl ?_
  refine Runs.callVi (y := mX9_readPart) (n := 0) (as := []) (st := []) (q := (RX9, TX9, 48)) dX9_readMarket_102 oc_X9_readPart im_X9_readPart se_X9_readPart ml_X9_156 rfl ⟨(Nat.le_of_ble_eq_true rfl), (Nat.le_of_ble_eq_true rfl)⟩ (Nat.le_of_ble_eq_true rfl) (Nat.le_of_ble_eq_true rfl) rfl rfl rfl (Or.inr rfl) hC (fun z M1 hQ => ?_)
  exact k z M1 hQ
theorem kX9_readMarket_105 {X : Scr} {M : Mem} {P : Option AV → Mem → Prop} {xs0 : Int} (k1 : xs0 ≠ 0 → Runs X mX9_readMarket 90 [(0, vr 200)] [] M P) (k2 : xs0 = 0 → Runs X mX9_readMarket 108 [(0, vr 200)] [] M P) : Runs X mX9_readMarket 105 [(0, vr 200)] [vi xs0] M P := by
  refine Runs.if_ne (tgt := 90) dX9_readMarket_105 (by decide) (fun h => ?_) (fun h => ?_)
  · exact k1 h
  · exact k2 h
theorem kX9_readMarket_108 {X : Scr} {M : Mem} {P : Option AV → Mem → Prop} (k : P (some (vi (M 200 3))) M) : Runs X mX9_readMarket 108 [(0, vr 200)] [] M P := by
  refine Runs.aload_n (j := 0) dX9_readMarket_108 rfl ?_
  refine Runs.geti (ci := 9) (j := 3) (C := RX9) (T := TX9) (N := 48) dX9_readMarket_109 rfl cls_X9 (by decide) rfl fl_X9_125 (Or.inl rfl) ?_
  exact Runs.reti dX9_readMarket_112 rfl k
theorem kX9_readMarket_113 {X : Scr} {M : Mem} {P : Option AV → Mem → Prop} (k : P (some (vi (-9 : Int))) M) : Runs X mX9_readMarket 113 [] [] M P := by
  refine Runs.bipush dX9_readMarket_113 (by decide) (by decide) ?_
  exact Runs.reti dX9_readMarket_115 rfl k
theorem kX9_fault_0 {X : Scr} {M : Mem} {P Q : Option AV → Mem → Prop} (hC : Call X mX9_readMarket [vr 200] (up2 M 200 0 (0 : Int)) Q) (k : ∀ (z : Int) (M1 : Mem), Q (some (vi z)) M1 → Runs X mX9_fault 9 [] [vi z] M1 P) : Runs X mX9_fault 0 [(0, vr 200)] [] M P := by
  refine Runs.aload_n (j := 0) dX9_fault_0 rfl ?_
  refine Runs.iconst dX9_fault_1 (by decide) ?_
  refine Runs.puti (ci := 9) (j := 0) (C := RX9) (T := TX9) (N := 48) dX9_fault_2 rfl cls_X9 (by decide) rfl fl_X9_108 rfl rfl ?_
  refine Runs.aload_n (j := 0) dX9_fault_5 rfl ?_
  refine Runs.callVi (y := mX9_readMarket) (n := 0) (as := []) (st := []) (q := (RX9, TX9, 48)) dX9_fault_6 oc_X9_readMarket im_X9_readMarket se_X9_readMarket ml_X9_159 rfl ⟨(Nat.le_of_ble_eq_true rfl), (Nat.le_of_ble_eq_true rfl)⟩ (Nat.le_of_ble_eq_true rfl) (Nat.le_of_ble_eq_true rfl) rfl rfl rfl (Or.inl rfl) hC (fun z M1 hQ => ?_)
  refine Runs.picks (loc' := []) [] rfl ?_
  exact k z M1 hQ
theorem kX9_fault_9 {X : Scr} {M : Mem} {P : Option AV → Mem → Prop} {xs0 : Int} (k : P (some (vi xs0)) M) : Runs X mX9_fault 9 [] [vi xs0] M P := by
  exact Runs.reti dX9_fault_9 rfl k
theorem kX9_come_0 {X : Scr} {M : Mem} {P : Option AV → Mem → Prop} {x1 : Int} (k : P none (up2 (up2 (up2 M 312 (x1).toNat (M 309 (x1).toNat)) 313 (x1).toNat (1 : Int)) 314 (((8 : Int) * x1)).toNat ((up2 (up2 M 312 (x1).toNat (M 309 (x1).toNat)) 313 (x1).toNat (1 : Int)) 310 (x1).toNat))) (h1 : 0 ≤ x1 := by omega) (h2 : x1 < ((10 : Nat) : Int) := by omega) (h3 : -2147483648 ≤ ((8 : Int) * x1) ∧ ((8 : Int) * x1) ≤ 2147483647 := by omega) (h4 : 0 ≤ ((8 : Int) * x1) := by omega) (h5 : ((8 : Int) * x1) < ((80 : Nat) : Int) := by omega) : Runs X mX9_come 0 [(0, vr 200), (1, vi x1)] [] M P := by
  refine Runs.aload_n (j := 0) dX9_come_0 rfl ?_
  refine Runs.getr (o' := 312) (ci := 9) (j := 12) (C := RX9) (T := TX9) (N := 48) dX9_come_1 rfl cls_X9 (by decide) rfl fl_X9_36 rfl ⟨rfl, "", Or.inr ⟨_, rfl⟩⟩ ?_
  refine Runs.iload_n (j := 1) dX9_come_4 rfl ?_
  refine Runs.aload_n (j := 0) dX9_come_5 rfl ?_
  refine Runs.getr (o' := 309) (ci := 9) (j := 9) (C := RX9) (T := TX9) (N := 48) dX9_come_6 rfl cls_X9 (by decide) rfl fl_X9_27 rfl ⟨rfl, "", Or.inr ⟨_, rfl⟩⟩ ?_
  refine Runs.iload_n (j := 1) dX9_come_9 rfl ?_
  refine Runs.iald dX9_come_10 rfl h1 h2 ?_
  refine Runs.iast dX9_come_11 rfl h1 h2 ?_
  refine Runs.aload_n (j := 0) dX9_come_12 rfl ?_
  refine Runs.getr (o' := 313) (ci := 9) (j := 13) (C := RX9) (T := TX9) (N := 48) dX9_come_13 rfl cls_X9 (by decide) rfl fl_X9_39 rfl ⟨rfl, "", Or.inr ⟨_, rfl⟩⟩ ?_
  refine Runs.iload_n (j := 1) dX9_come_16 rfl ?_
  refine Runs.iconst dX9_come_17 (by decide) ?_
  refine Runs.iast dX9_come_18 rfl h1 h2 ?_
  refine Runs.aload_n (j := 0) dX9_come_19 rfl ?_
  refine Runs.getr (o' := 314) (ci := 9) (j := 14) (C := RX9) (T := TX9) (N := 48) dX9_come_20 rfl cls_X9 (by decide) rfl fl_X9_42 rfl ⟨rfl, "", Or.inr ⟨_, rfl⟩⟩ ?_
  refine Runs.bipush dX9_come_23 (by decide) (by decide) ?_
  refine Runs.iload_n (j := 1) dX9_come_25 rfl ?_
  refine Runs.imul dX9_come_26 h3 ?_
  refine Runs.aload_n (j := 0) dX9_come_27 rfl ?_
  refine Runs.getr (o' := 310) (ci := 9) (j := 10) (C := RX9) (T := TX9) (N := 48) dX9_come_28 rfl cls_X9 (by decide) rfl fl_X9_30 rfl ⟨rfl, "", Or.inr ⟨_, rfl⟩⟩ ?_
  refine Runs.iload_n (j := 1) dX9_come_31 rfl ?_
  refine Runs.iald dX9_come_32 rfl h1 h2 ?_
  refine Runs.iast dX9_come_33 rfl h4 h5 ?_
  exact Runs.ret0 dX9_come_34 rfl k
theorem kX9_market_0 {X : Scr} {M : Mem} {P Q : Option AV → Mem → Prop} (hC : Call X mX9_readMarket [vr 200] (up2 M 200 0 (0 : Int)) Q) (k : ∀ (z : Int) (M1 : Mem), Q (some (vi z)) M1 → Runs X mX9_market 9 [(0, vr 200)] [vi z] M1 P) : Runs X mX9_market 0 [(0, vr 200)] [] M P := by
  refine Runs.aload_n (j := 0) dX9_market_0 rfl ?_
  refine Runs.iconst dX9_market_1 (by decide) ?_
  refine Runs.puti (ci := 9) (j := 0) (C := RX9) (T := TX9) (N := 48) dX9_market_2 rfl cls_X9 (by decide) rfl fl_X9_108 rfl rfl ?_
  refine Runs.aload_n (j := 0) dX9_market_5 rfl ?_
  refine Runs.callVi (y := mX9_readMarket) (n := 0) (as := []) (st := []) (q := (RX9, TX9, 48)) dX9_market_6 oc_X9_readMarket im_X9_readMarket se_X9_readMarket ml_X9_159 rfl ⟨(Nat.le_of_ble_eq_true rfl), (Nat.le_of_ble_eq_true rfl)⟩ (Nat.le_of_ble_eq_true rfl) (Nat.le_of_ble_eq_true rfl) rfl rfl rfl (Or.inl rfl) hC (fun z M1 hQ => ?_)
  exact k z M1 hQ
theorem kX9_market_9 {X : Scr} {M : Mem} {P : Option AV → Mem → Prop} {xs0 : Int} (k1 : xs0 = (-9 : Int) → Runs X mX9_market 17 [(0, vr 200)] [] M P) (k2 : xs0 ≠ (-9 : Int) → Runs X mX9_market 14 [] [] M P) : Runs X mX9_market 9 [(0, vr 200)] [vi xs0] M P := by
  refine Runs.bipush dX9_market_9 (by decide) (by decide) ?_
  refine Runs.icmp_eq (tgt := 17) dX9_market_11 (by decide) (fun h => ?_) (fun h => ?_)
  · exact k1 h
  · refine Runs.picks (loc' := []) [] rfl ?_
    exact k2 h
theorem kX9_market_14 {X : Scr} {M : Mem} {P : Option AV → Mem → Prop} (k : P (some (vi (-3 : Int))) M) : Runs X mX9_market 14 [] [] M P := by
  refine Runs.bipush dX9_market_14 (by decide) (by decide) ?_
  exact Runs.reti dX9_market_16 rfl k
theorem kX9_market_17 {X : Scr} {M : Mem} {P : Option AV → Mem → Prop} (k : Runs X mX9_market 51 [(0, vr 200), (1, vi (0 : Int))] [] (up2 (up2 (up2 (up2 M 200 4 (M 200 18)) 200 5 ((up2 M 200 4 (M 200 18)) 200 19)) 200 6 ((up2 (up2 M 200 4 (M 200 18)) 200 5 ((up2 M 200 4 (M 200 18)) 200 19)) 200 20)) 200 15 ((up2 (up2 (up2 M 200 4 (M 200 18)) 200 5 ((up2 M 200 4 (M 200 18)) 200 19)) 200 6 ((up2 (up2 M 200 4 (M 200 18)) 200 5 ((up2 M 200 4 (M 200 18)) 200 19)) 200 20)) 200 21)) P) : Runs X mX9_market 17 [(0, vr 200)] [] M P := by
  refine Runs.aload_n (j := 0) dX9_market_17 rfl ?_
  refine Runs.aload_n (j := 0) dX9_market_18 rfl ?_
  refine Runs.geti (ci := 9) (j := 18) (C := RX9) (T := TX9) (N := 48) dX9_market_19 rfl cls_X9 (by decide) rfl fl_X9_150 (Or.inl rfl) ?_
  refine Runs.puti (ci := 9) (j := 4) (C := RX9) (T := TX9) (N := 48) dX9_market_22 rfl cls_X9 (by decide) rfl fl_X9_13 rfl rfl ?_
  refine Runs.aload_n (j := 0) dX9_market_25 rfl ?_
  refine Runs.aload_n (j := 0) dX9_market_26 rfl ?_
  refine Runs.geti (ci := 9) (j := 19) (C := RX9) (T := TX9) (N := 48) dX9_market_27 rfl cls_X9 (by decide) rfl fl_X9_153 (Or.inl rfl) ?_
  refine Runs.puti (ci := 9) (j := 5) (C := RX9) (T := TX9) (N := 48) dX9_market_30 rfl cls_X9 (by decide) rfl fl_X9_17 rfl rfl ?_
  refine Runs.aload_n (j := 0) dX9_market_33 rfl ?_
  refine Runs.aload_n (j := 0) dX9_market_34 rfl ?_
  refine Runs.geti (ci := 9) (j := 20) (C := RX9) (T := TX9) (N := 48) dX9_market_35 rfl cls_X9 (by decide) rfl fl_X9_136 (Or.inl rfl) ?_
  refine Runs.puti (ci := 9) (j := 6) (C := RX9) (T := TX9) (N := 48) dX9_market_38 rfl cls_X9 (by decide) rfl fl_X9_111 rfl rfl ?_
  refine Runs.aload_n (j := 0) dX9_market_41 rfl ?_
  refine Runs.aload_n (j := 0) dX9_market_42 rfl ?_
  refine Runs.geti (ci := 9) (j := 21) (C := RX9) (T := TX9) (N := 48) dX9_market_43 rfl cls_X9 (by decide) rfl fl_X9_139 (Or.inl rfl) ?_
  refine Runs.puti (ci := 9) (j := 15) (C := RX9) (T := TX9) (N := 48) dX9_market_46 rfl cls_X9 (by decide) rfl fl_X9_162 rfl rfl ?_
  refine Runs.iconst dX9_market_49 (by decide) ?_
  refine Runs.istore_n (loc' := [(0, vr 200), (1, vi (0 : Int))]) dX9_market_50 rfl (by decide) rfl ?_
  exact k
theorem kX9_market_51 {X : Scr} {M : Mem} {P : Option AV → Mem → Prop} {x1 : Int} (k1 : (M 200 6) ≤ x1 → Runs X mX9_market 130 [(0, vr 200)] [] M P) (k2 : x1 < (M 200 6) → Runs X mX9_market 59 [(0, vr 200), (1, vi x1)] [] M P) : Runs X mX9_market 51 [(0, vr 200), (1, vi x1)] [] M P := by
  refine Runs.iload_n (j := 1) dX9_market_51 rfl ?_
  refine Runs.aload_n (j := 0) dX9_market_52 rfl ?_
  refine Runs.geti (ci := 9) (j := 6) (C := RX9) (T := TX9) (N := 48) dX9_market_53 rfl cls_X9 (by decide) rfl fl_X9_111 (Or.inl rfl) ?_
  refine Runs.icmp_ge (tgt := 130) dX9_market_56 (by decide) (fun h => ?_) (fun h => ?_)
  · refine Runs.picks (loc' := [(0, vr 200)]) [0] rfl ?_
    exact k1 h
  · exact k2 h
theorem kX9_market_59 {X : Scr} {M : Mem} {P Q : Option AV → Mem → Prop} {x1 : Int} (hC : Call X mX9_come [vr 200, vi x1] (up2 (up2 (up2 (up2 (up2 M 307 (x1).toNat (M 322 (x1).toNat)) 308 (x1).toNat ((up2 M 307 (x1).toNat (M 322 (x1).toNat)) 323 (x1).toNat)) 309 (x1).toNat ((up2 (up2 M 307 (x1).toNat (M 322 (x1).toNat)) 308 (x1).toNat ((up2 M 307 (x1).toNat (M 322 (x1).toNat)) 323 (x1).toNat)) 324 (x1).toNat)) 310 (x1).toNat ((up2 (up2 (up2 M 307 (x1).toNat (M 322 (x1).toNat)) 308 (x1).toNat ((up2 M 307 (x1).toNat (M 322 (x1).toNat)) 323 (x1).toNat)) 309 (x1).toNat ((up2 (up2 M 307 (x1).toNat (M 322 (x1).toNat)) 308 (x1).toNat ((up2 M 307 (x1).toNat (M 322 (x1).toNat)) 323 (x1).toNat)) 324 (x1).toNat)) 325 (x1).toNat)) 311 (x1).toNat ((up2 (up2 (up2 (up2 M 307 (x1).toNat (M 322 (x1).toNat)) 308 (x1).toNat ((up2 M 307 (x1).toNat (M 322 (x1).toNat)) 323 (x1).toNat)) 309 (x1).toNat ((up2 (up2 M 307 (x1).toNat (M 322 (x1).toNat)) 308 (x1).toNat ((up2 M 307 (x1).toNat (M 322 (x1).toNat)) 323 (x1).toNat)) 324 (x1).toNat)) 310 (x1).toNat ((up2 (up2 (up2 M 307 (x1).toNat (M 322 (x1).toNat)) 308 (x1).toNat ((up2 M 307 (x1).toNat (M 322 (x1).toNat)) 323 (x1).toNat)) 309 (x1).toNat ((up2 (up2 M 307 (x1).toNat (M 322 (x1).toNat)) 308 (x1).toNat ((up2 M 307 (x1).toNat (M 322 (x1).toNat)) 323 (x1).toNat)) 324 (x1).toNat)) 325 (x1).toNat)) 326 (x1).toNat)) Q) (k : ∀ (M1 : Mem), Q none M1 → Runs X mX9_market 124 [(0, vr 200), (1, vi x1)] [] M1 P) (h1 : 0 ≤ x1 := by omega) (h2 : x1 < ((10 : Nat) : Int) := by omega) (h3 : 0 ≤ ((up2 M 307 (x1).toNat (M 322 (x1).toNat)) 323 (x1).toNat) ∧ ((up2 M 307 (x1).toNat (M 322 (x1).toNat)) 323 (x1).toNat) ≤ 1 := by omega) (h4 : 0 ≤ ((up2 (up2 (up2 (up2 M 307 (x1).toNat (M 322 (x1).toNat)) 308 (x1).toNat ((up2 M 307 (x1).toNat (M 322 (x1).toNat)) 323 (x1).toNat)) 309 (x1).toNat ((up2 (up2 M 307 (x1).toNat (M 322 (x1).toNat)) 308 (x1).toNat ((up2 M 307 (x1).toNat (M 322 (x1).toNat)) 323 (x1).toNat)) 324 (x1).toNat)) 310 (x1).toNat ((up2 (up2 (up2 M 307 (x1).toNat (M 322 (x1).toNat)) 308 (x1).toNat ((up2 M 307 (x1).toNat (M 322 (x1).toNat)) 323 (x1).toNat)) 309 (x1).toNat ((up2 (up2 M 307 (x1).toNat (M 322 (x1).toNat)) 308 (x1).toNat ((up2 M 307 (x1).toNat (M 322 (x1).toNat)) 323 (x1).toNat)) 324 (x1).toNat)) 325 (x1).toNat)) 326 (x1).toNat) ∧ ((up2 (up2 (up2 (up2 M 307 (x1).toNat (M 322 (x1).toNat)) 308 (x1).toNat ((up2 M 307 (x1).toNat (M 322 (x1).toNat)) 323 (x1).toNat)) 309 (x1).toNat ((up2 (up2 M 307 (x1).toNat (M 322 (x1).toNat)) 308 (x1).toNat ((up2 M 307 (x1).toNat (M 322 (x1).toNat)) 323 (x1).toNat)) 324 (x1).toNat)) 310 (x1).toNat ((up2 (up2 (up2 M 307 (x1).toNat (M 322 (x1).toNat)) 308 (x1).toNat ((up2 M 307 (x1).toNat (M 322 (x1).toNat)) 323 (x1).toNat)) 309 (x1).toNat ((up2 (up2 M 307 (x1).toNat (M 322 (x1).toNat)) 308 (x1).toNat ((up2 M 307 (x1).toNat (M 322 (x1).toNat)) 323 (x1).toNat)) 324 (x1).toNat)) 325 (x1).toNat)) 326 (x1).toNat) ≤ 1 := by omega) : Runs X mX9_market 59 [(0, vr 200), (1, vi x1)] [] M P := by
  refine Runs.aload_n (j := 0) dX9_market_59 rfl ?_
  refine Runs.getr (o' := 307) (ci := 9) (j := 7) (C := RX9) (T := TX9) (N := 48) dX9_market_60 rfl cls_X9 (by decide) rfl fl_X9_20 rfl ⟨rfl, "", Or.inr ⟨_, rfl⟩⟩ ?_
  refine Runs.iload_n (j := 1) dX9_market_63 rfl ?_
  refine Runs.aload_n (j := 0) dX9_market_64 rfl ?_
  refine Runs.getr (o' := 322) (ci := 9) (j := 22) (C := RX9) (T := TX9) (N := 48) dX9_market_65 rfl cls_X9 (by decide) rfl fl_X9_51 rfl ⟨rfl, "", Or.inr ⟨_, rfl⟩⟩ ?_
  refine Runs.iload_n (j := 1) dX9_market_68 rfl ?_
  refine Runs.iald dX9_market_69 rfl h1 h2 ?_
  refine Runs.iast dX9_market_70 rfl h1 h2 ?_
  refine Runs.aload_n (j := 0) dX9_market_71 rfl ?_
  refine Runs.getr (o' := 308) (ci := 9) (j := 8) (C := RX9) (T := TX9) (N := 48) dX9_market_72 rfl cls_X9 (by decide) rfl fl_X9_23 rfl ⟨rfl, "", Or.inr ⟨_, rfl⟩⟩ ?_
  refine Runs.iload_n (j := 1) dX9_market_75 rfl ?_
  refine Runs.aload_n (j := 0) dX9_market_76 rfl ?_
  refine Runs.getr (o' := 323) (ci := 9) (j := 23) (C := RX9) (T := TX9) (N := 48) dX9_market_77 rfl cls_X9 (by decide) rfl fl_X9_54 rfl ⟨rfl, "", Or.inr ⟨_, rfl⟩⟩ ?_
  refine Runs.iload_n (j := 1) dX9_market_80 rfl ?_
  refine Runs.zald dX9_market_81 rfl h1 h2 ?_
  refine Runs.zast dX9_market_82 rfl h1 h2 h3 ?_
  refine Runs.aload_n (j := 0) dX9_market_83 rfl ?_
  refine Runs.getr (o' := 309) (ci := 9) (j := 9) (C := RX9) (T := TX9) (N := 48) dX9_market_84 rfl cls_X9 (by decide) rfl fl_X9_27 rfl ⟨rfl, "", Or.inr ⟨_, rfl⟩⟩ ?_
  refine Runs.iload_n (j := 1) dX9_market_87 rfl ?_
  refine Runs.aload_n (j := 0) dX9_market_88 rfl ?_
  refine Runs.getr (o' := 324) (ci := 9) (j := 24) (C := RX9) (T := TX9) (N := 48) dX9_market_89 rfl cls_X9 (by decide) rfl fl_X9_57 rfl ⟨rfl, "", Or.inr ⟨_, rfl⟩⟩ ?_
  refine Runs.iload_n (j := 1) dX9_market_92 rfl ?_
  refine Runs.iald dX9_market_93 rfl h1 h2 ?_
  refine Runs.iast dX9_market_94 rfl h1 h2 ?_
  refine Runs.aload_n (j := 0) dX9_market_95 rfl ?_
  refine Runs.getr (o' := 310) (ci := 9) (j := 10) (C := RX9) (T := TX9) (N := 48) dX9_market_96 rfl cls_X9 (by decide) rfl fl_X9_30 rfl ⟨rfl, "", Or.inr ⟨_, rfl⟩⟩ ?_
  refine Runs.iload_n (j := 1) dX9_market_99 rfl ?_
  refine Runs.aload_n (j := 0) dX9_market_100 rfl ?_
  refine Runs.getr (o' := 325) (ci := 9) (j := 25) (C := RX9) (T := TX9) (N := 48) dX9_market_101 rfl cls_X9 (by decide) rfl fl_X9_60 rfl ⟨rfl, "", Or.inr ⟨_, rfl⟩⟩ ?_
  refine Runs.iload_n (j := 1) dX9_market_104 rfl ?_
  refine Runs.iald dX9_market_105 rfl h1 h2 ?_
  refine Runs.iast dX9_market_106 rfl h1 h2 ?_
  refine Runs.aload_n (j := 0) dX9_market_107 rfl ?_
  refine Runs.getr (o' := 311) (ci := 9) (j := 11) (C := RX9) (T := TX9) (N := 48) dX9_market_108 rfl cls_X9 (by decide) rfl fl_X9_33 rfl ⟨rfl, "", Or.inr ⟨_, rfl⟩⟩ ?_
  refine Runs.iload_n (j := 1) dX9_market_111 rfl ?_
  refine Runs.aload_n (j := 0) dX9_market_112 rfl ?_
  refine Runs.getr (o' := 326) (ci := 9) (j := 26) (C := RX9) (T := TX9) (N := 48) dX9_market_113 rfl cls_X9 (by decide) rfl fl_X9_63 rfl ⟨rfl, "", Or.inr ⟨_, rfl⟩⟩ ?_
  refine Runs.iload_n (j := 1) dX9_market_116 rfl ?_
  refine Runs.zald dX9_market_117 rfl h1 h2 ?_
  refine Runs.zast dX9_market_118 rfl h1 h2 h4 ?_
  refine Runs.aload_n (j := 0) dX9_market_119 rfl ?_
  refine Runs.iload_n (j := 1) dX9_market_120 rfl ?_
  refine Runs.callVv (y := mX9_come) (n := 1) (as := [vi x1]) (st := []) (q := (RX9, TX9, 48)) dX9_market_121 oc_X9_come im_X9_come se_X9_come ml_X9_165 rfl ⟨(Nat.le_of_ble_eq_true rfl), (Nat.le_of_ble_eq_true rfl)⟩ (Nat.le_of_ble_eq_true rfl) (Nat.le_of_ble_eq_true rfl) rfl rfl rfl rfl hC (fun M1 hQ => ?_)
  exact k M1 hQ
theorem kX9_market_124 {X : Scr} {M : Mem} {P : Option AV → Mem → Prop} {x1 : Int} (k : Runs X mX9_market 51 [(0, vr 200), (1, vi (x1 + (1 : Int)))] [] M P) (h1 : -2147483648 ≤ (x1 + (1 : Int)) ∧ (x1 + (1 : Int)) ≤ 2147483647 := by omega) : Runs X mX9_market 124 [(0, vr 200), (1, vi x1)] [] M P := by
  refine Runs.iinc (k := 1) (loc' := [(0, vr 200), (1, vi (x1 + (1 : Int)))]) dX9_market_124 rfl h1 (by decide) rfl ?_
  refine Runs.goto (tgt := 51) dX9_market_127 (by decide) ?_
  exact k
theorem kX9_market_130 {X : Scr} {M : Mem} {P : Option AV → Mem → Prop} (k : Runs X mX9_market 132 [(0, vr 200), (1, vi (0 : Int))] [] M P) : Runs X mX9_market 130 [(0, vr 200)] [] M P := by
  refine Runs.iconst dX9_market_130 (by decide) ?_
  refine Runs.istore_n (loc' := [(0, vr 200), (1, vi (0 : Int))]) dX9_market_131 rfl (by decide) rfl ?_
  exact k
theorem kX9_market_132 {X : Scr} {M : Mem} {P : Option AV → Mem → Prop} {x1 : Int} (k1 : (M 200 15) ≤ x1 → Runs X mX9_market 170 [(0, vr 200)] [] M P) (k2 : x1 < (M 200 15) → Runs X mX9_market 140 [(0, vr 200), (1, vi x1)] [] M P) : Runs X mX9_market 132 [(0, vr 200), (1, vi x1)] [] M P := by
  refine Runs.iload_n (j := 1) dX9_market_132 rfl ?_
  refine Runs.aload_n (j := 0) dX9_market_133 rfl ?_
  refine Runs.geti (ci := 9) (j := 15) (C := RX9) (T := TX9) (N := 48) dX9_market_134 rfl cls_X9 (by decide) rfl fl_X9_162 (Or.inl rfl) ?_
  refine Runs.icmp_ge (tgt := 170) dX9_market_137 (by decide) (fun h => ?_) (fun h => ?_)
  · refine Runs.picks (loc' := [(0, vr 200)]) [0] rfl ?_
    exact k1 h
  · exact k2 h
theorem kX9_market_140 {X : Scr} {M : Mem} {P : Option AV → Mem → Prop} {x1 : Int} (k : Runs X mX9_market 132 [(0, vr 200), (1, vi (x1 + (1 : Int)))] [] (up2 (up2 M 316 (x1).toNat (M 327 (x1).toNat)) 317 (x1).toNat ((up2 M 316 (x1).toNat (M 327 (x1).toNat)) 328 (x1).toNat)) P) (h1 : 0 ≤ x1 := by omega) (h2 : x1 < ((4 : Nat) : Int) := by omega) (h3 : -2147483648 ≤ (x1 + (1 : Int)) ∧ (x1 + (1 : Int)) ≤ 2147483647 := by omega) : Runs X mX9_market 140 [(0, vr 200), (1, vi x1)] [] M P := by
  refine Runs.aload_n (j := 0) dX9_market_140 rfl ?_
  refine Runs.getr (o' := 316) (ci := 9) (j := 16) (C := RX9) (T := TX9) (N := 48) dX9_market_141 rfl cls_X9 (by decide) rfl fl_X9_45 rfl ⟨rfl, "", Or.inr ⟨_, rfl⟩⟩ ?_
  refine Runs.iload_n (j := 1) dX9_market_144 rfl ?_
  refine Runs.aload_n (j := 0) dX9_market_145 rfl ?_
  refine Runs.getr (o' := 327) (ci := 9) (j := 27) (C := RX9) (T := TX9) (N := 48) dX9_market_146 rfl cls_X9 (by decide) rfl fl_X9_66 rfl ⟨rfl, "", Or.inr ⟨_, rfl⟩⟩ ?_
  refine Runs.iload_n (j := 1) dX9_market_149 rfl ?_
  refine Runs.iald dX9_market_150 rfl h1 h2 ?_
  refine Runs.iast dX9_market_151 rfl h1 h2 ?_
  refine Runs.aload_n (j := 0) dX9_market_152 rfl ?_
  refine Runs.getr (o' := 317) (ci := 9) (j := 17) (C := RX9) (T := TX9) (N := 48) dX9_market_153 rfl cls_X9 (by decide) rfl fl_X9_48 rfl ⟨rfl, "", Or.inr ⟨_, rfl⟩⟩ ?_
  refine Runs.iload_n (j := 1) dX9_market_156 rfl ?_
  refine Runs.aload_n (j := 0) dX9_market_157 rfl ?_
  refine Runs.getr (o' := 328) (ci := 9) (j := 28) (C := RX9) (T := TX9) (N := 48) dX9_market_158 rfl cls_X9 (by decide) rfl fl_X9_69 rfl ⟨rfl, "", Or.inr ⟨_, rfl⟩⟩ ?_
  refine Runs.iload_n (j := 1) dX9_market_161 rfl ?_
  refine Runs.iald dX9_market_162 rfl h1 h2 ?_
  refine Runs.iast dX9_market_163 rfl h1 h2 ?_
  refine Runs.iinc (k := 1) (loc' := [(0, vr 200), (1, vi (x1 + (1 : Int)))]) dX9_market_164 rfl h3 (by decide) rfl ?_
  refine Runs.goto (tgt := 132) dX9_market_167 (by decide) ?_
  exact k
theorem kX9_market_170 {X : Scr} {M : Mem} {P : Option AV → Mem → Prop} (k : P (some (vi ((up2 M 200 30 (0 : Int)) 200 6))) (up2 M 200 30 (0 : Int))) : Runs X mX9_market 170 [(0, vr 200)] [] M P := by
  refine Runs.aload_n (j := 0) dX9_market_170 rfl ?_
  refine Runs.iconst dX9_market_171 (by decide) ?_
  refine Runs.puti (ci := 9) (j := 30) (C := RX9) (T := TX9) (N := 48) dX9_market_172 rfl cls_X9 (by decide) rfl fl_X9_169 rfl rfl ?_
  refine Runs.aload_n (j := 0) dX9_market_175 rfl ?_
  refine Runs.geti (ci := 9) (j := 6) (C := RX9) (T := TX9) (N := 48) dX9_market_176 rfl cls_X9 (by decide) rfl fl_X9_111 (Or.inl rfl) ?_
  exact Runs.reti dX9_market_179 rfl k
theorem kX9_fakes_0 {X : Scr} {M : Mem} {P : Option AV → Mem → Prop} (k : Runs X mX9_fakes 4 [(0, vr 200), (1, vi (0 : Int)), (2, vi (0 : Int))] [] M P) : Runs X mX9_fakes 0 [(0, vr 200)] [] M P := by
  refine Runs.iconst dX9_fakes_0 (by decide) ?_
  refine Runs.istore_n (loc' := [(0, vr 200), (1, vi (0 : Int))]) dX9_fakes_1 rfl (by decide) rfl ?_
  refine Runs.iconst dX9_fakes_2 (by decide) ?_
  refine Runs.istore_n (loc' := [(0, vr 200), (1, vi (0 : Int)), (2, vi (0 : Int))]) dX9_fakes_3 rfl (by decide) rfl ?_
  exact k
theorem kX9_fakes_4 {X : Scr} {M : Mem} {P : Option AV → Mem → Prop} {x1 x2 : Int} (k1 : (M 200 6) ≤ x2 → Runs X mX9_fakes 35 [(1, vi x1)] [] M P) (k2 : x2 < (M 200 6) → Runs X mX9_fakes 12 [(0, vr 200), (1, vi x1), (2, vi x2)] [] M P) : Runs X mX9_fakes 4 [(0, vr 200), (1, vi x1), (2, vi x2)] [] M P := by
  refine Runs.iload_n (j := 2) dX9_fakes_4 rfl ?_
  refine Runs.aload_n (j := 0) dX9_fakes_5 rfl ?_
  refine Runs.geti (ci := 9) (j := 6) (C := RX9) (T := TX9) (N := 48) dX9_fakes_6 rfl cls_X9 (by decide) rfl fl_X9_111 (Or.inl rfl) ?_
  refine Runs.icmp_ge (tgt := 35) dX9_fakes_9 (by decide) (fun h => ?_) (fun h => ?_)
  · refine Runs.picks (loc' := [(1, vi x1)]) [1] rfl ?_
    exact k1 h
  · exact k2 h
theorem kX9_fakes_12 {X : Scr} {M : Mem} {P : Option AV → Mem → Prop} {x1 x2 : Int} (k1 : (M 311 (x2).toNat) = 0 → Runs X mX9_fakes 26 [(0, vr 200), (2, vi x2)] [vi x1] M P) (k2 : (M 311 (x2).toNat) ≠ 0 → Runs X mX9_fakes 22 [(0, vr 200), (2, vi x2)] [vi x1] M P) (h1 : 0 ≤ x2 := by omega) (h2 : x2 < ((10 : Nat) : Int) := by omega) : Runs X mX9_fakes 12 [(0, vr 200), (1, vi x1), (2, vi x2)] [] M P := by
  refine Runs.iload_n (j := 1) dX9_fakes_12 rfl ?_
  refine Runs.aload_n (j := 0) dX9_fakes_13 rfl ?_
  refine Runs.getr (o' := 311) (ci := 9) (j := 11) (C := RX9) (T := TX9) (N := 48) dX9_fakes_14 rfl cls_X9 (by decide) rfl fl_X9_33 rfl ⟨rfl, "", Or.inr ⟨_, rfl⟩⟩ ?_
  refine Runs.iload_n (j := 2) dX9_fakes_17 rfl ?_
  refine Runs.zald dX9_fakes_18 rfl h1 h2 ?_
  refine Runs.if_eq (tgt := 26) dX9_fakes_19 (by decide) (fun h => ?_) (fun h => ?_)
  · refine Runs.picks (loc' := [(0, vr 200), (2, vi x2)]) [0, 2] rfl ?_
    exact k1 h
  · refine Runs.picks (loc' := [(0, vr 200), (2, vi x2)]) [0, 2] rfl ?_
    exact k2 h
theorem kX9_fakes_22 {X : Scr} {M : Mem} {P : Option AV → Mem → Prop} {x2 xs0 : Int} (k : Runs X mX9_fakes 27 [(0, vr 200), (2, vi x2)] [vi (1 : Int), vi xs0] M P) : Runs X mX9_fakes 22 [(0, vr 200), (2, vi x2)] [vi xs0] M P := by
  refine Runs.iconst dX9_fakes_22 (by decide) ?_
  refine Runs.goto (tgt := 27) dX9_fakes_23 (by decide) ?_
  exact k
theorem kX9_fakes_26 {X : Scr} {M : Mem} {P : Option AV → Mem → Prop} {x2 xs0 : Int} (k : Runs X mX9_fakes 27 [(0, vr 200), (2, vi x2)] [vi (0 : Int), vi xs0] M P) : Runs X mX9_fakes 26 [(0, vr 200), (2, vi x2)] [vi xs0] M P := by
  refine Runs.iconst dX9_fakes_26 (by decide) ?_
  exact k
theorem kX9_fakes_27 {X : Scr} {M : Mem} {P : Option AV → Mem → Prop} {x2 xs0 xs1 : Int} (k : Runs X mX9_fakes 4 [(0, vr 200), (1, vi (xs0 + xs1)), (2, vi (x2 + (1 : Int)))] [] M P) (h1 : -2147483648 ≤ (xs0 + xs1) ∧ (xs0 + xs1) ≤ 2147483647 := by omega) (h2 : -2147483648 ≤ (x2 + (1 : Int)) ∧ (x2 + (1 : Int)) ≤ 2147483647 := by omega) : Runs X mX9_fakes 27 [(0, vr 200), (2, vi x2)] [vi xs1, vi xs0] M P := by
  refine Runs.iadd dX9_fakes_27 h1 ?_
  refine Runs.istore_n (loc' := [(0, vr 200), (1, vi (xs0 + xs1)), (2, vi x2)]) dX9_fakes_28 rfl (by decide) rfl ?_
  refine Runs.iinc (k := 2) (loc' := [(0, vr 200), (1, vi (xs0 + xs1)), (2, vi (x2 + (1 : Int)))]) dX9_fakes_29 rfl h2 (by decide) rfl ?_
  refine Runs.goto (tgt := 4) dX9_fakes_32 (by decide) ?_
  exact k
theorem kX9_fakes_35 {X : Scr} {M : Mem} {P : Option AV → Mem → Prop} {x1 : Int} (k : P (some (vi x1)) M) : Runs X mX9_fakes 35 [(1, vi x1)] [] M P := by
  refine Runs.iload_n (j := 0) dX9_fakes_35 rfl ?_
  exact Runs.reti dX9_fakes_36 rfl k
theorem kX9_about_0 {X : Scr} {M : Mem} {P : Option AV → Mem → Prop} {x1 : Int} (c0 : x1 = 0 → Runs X mX9_about 48 [(0, vr 200)] [] (up2 M 200 0 (0 : Int)) P) (c1 : x1 = 1 → Runs X mX9_about 53 [(0, vr 200)] [] (up2 M 200 0 (0 : Int)) P) (c2 : x1 = 2 → Runs X mX9_about 58 [(0, vr 200)] [] (up2 M 200 0 (0 : Int)) P) (c3 : x1 = 3 → Runs X mX9_about 63 [(0, vr 200)] [] (up2 M 200 0 (0 : Int)) P) (c4 : x1 = 4 → Runs X mX9_about 68 [(0, vr 200)] [] (up2 M 200 0 (0 : Int)) P) (c5 : x1 = 5 → Runs X mX9_about 73 [(0, vr 200)] [] (up2 M 200 0 (0 : Int)) P) (c6 : x1 = 6 → Runs X mX9_about 78 [(0, vr 200)] [] (up2 M 200 0 (0 : Int)) P) (cd : x1 < 0 ∨ 6 < x1 → Runs X mX9_about 83 [] [] (up2 M 200 0 (0 : Int)) P) : Runs X mX9_about 0 [(0, vr 200), (1, vi x1)] [] M P := by
  refine Runs.aload_n (j := 0) dX9_about_0 rfl ?_
  refine Runs.iconst dX9_about_1 (by decide) ?_
  refine Runs.puti (ci := 9) (j := 0) (C := RX9) (T := TX9) (N := 48) dX9_about_2 rfl cls_X9 (by decide) rfl fl_X9_108 rfl rfl ?_
  refine Runs.iload_n (j := 1) dX9_about_5 rfl ?_
  rcases Classical.em (0 ≤ x1 ∧ x1 ≤ 6) with hq | hq
  · obtain ⟨hq1, hq2⟩ := hq
    rcases (show x1 = 0 ∨ x1 = 1 ∨ x1 = 2 ∨ x1 = 3 ∨ x1 = 4 ∨ x1 = 5 ∨ x1 = 6 by omega) with h | h | h | h | h | h | h
    · refine Runs.tableIn (tgt := 48) dX9_about_6 hq1 hq2 (by rw [h] <;> rfl) (by decide) ?_
      refine Runs.picks (loc' := [(0, vr 200)]) [0] rfl ?_
      exact c0 h
    · refine Runs.tableIn (tgt := 53) dX9_about_6 hq1 hq2 (by rw [h] <;> rfl) (by decide) ?_
      refine Runs.picks (loc' := [(0, vr 200)]) [0] rfl ?_
      exact c1 h
    · refine Runs.tableIn (tgt := 58) dX9_about_6 hq1 hq2 (by rw [h] <;> rfl) (by decide) ?_
      refine Runs.picks (loc' := [(0, vr 200)]) [0] rfl ?_
      exact c2 h
    · refine Runs.tableIn (tgt := 63) dX9_about_6 hq1 hq2 (by rw [h] <;> rfl) (by decide) ?_
      refine Runs.picks (loc' := [(0, vr 200)]) [0] rfl ?_
      exact c3 h
    · refine Runs.tableIn (tgt := 68) dX9_about_6 hq1 hq2 (by rw [h] <;> rfl) (by decide) ?_
      refine Runs.picks (loc' := [(0, vr 200)]) [0] rfl ?_
      exact c4 h
    · refine Runs.tableIn (tgt := 73) dX9_about_6 hq1 hq2 (by rw [h] <;> rfl) (by decide) ?_
      refine Runs.picks (loc' := [(0, vr 200)]) [0] rfl ?_
      exact c5 h
    · refine Runs.tableIn (tgt := 78) dX9_about_6 hq1 hq2 (by rw [h] <;> rfl) (by decide) ?_
      refine Runs.picks (loc' := [(0, vr 200)]) [0] rfl ?_
      exact c6 h
  · have hq : x1 < 0 ∨ 6 < x1 := by omega
    refine Runs.tableOut (tgt := 83) dX9_about_6 hq (by decide) ?_
    refine Runs.picks (loc' := []) [] rfl ?_
    exact cd hq
theorem kX9_about_48 {X : Scr} {M : Mem} {P : Option AV → Mem → Prop} (k : P (some (vi (M 200 6))) M) : Runs X mX9_about 48 [(0, vr 200)] [] M P := by
  refine Runs.aload_n (j := 0) dX9_about_48 rfl ?_
  refine Runs.geti (ci := 9) (j := 6) (C := RX9) (T := TX9) (N := 48) dX9_about_49 rfl cls_X9 (by decide) rfl fl_X9_111 (Or.inl rfl) ?_
  exact Runs.reti dX9_about_52 rfl k
theorem kX9_about_53 {X : Scr} {M : Mem} {P : Option AV → Mem → Prop} (k : P (some (vi (M 200 15))) M) : Runs X mX9_about 53 [(0, vr 200)] [] M P := by
  refine Runs.aload_n (j := 0) dX9_about_53 rfl ?_
  refine Runs.geti (ci := 9) (j := 15) (C := RX9) (T := TX9) (N := 48) dX9_about_54 rfl cls_X9 (by decide) rfl fl_X9_162 (Or.inl rfl) ?_
  exact Runs.reti dX9_about_57 rfl k
theorem kX9_about_58 {X : Scr} {M : Mem} {P : Option AV → Mem → Prop} (k : P (some (vi (M 200 4))) M) : Runs X mX9_about 58 [(0, vr 200)] [] M P := by
  refine Runs.aload_n (j := 0) dX9_about_58 rfl ?_
  refine Runs.geti (ci := 9) (j := 4) (C := RX9) (T := TX9) (N := 48) dX9_about_59 rfl cls_X9 (by decide) rfl fl_X9_13 (Or.inl rfl) ?_
  exact Runs.reti dX9_about_62 rfl k
theorem kX9_about_63 {X : Scr} {M : Mem} {P : Option AV → Mem → Prop} (k : P (some (vi (M 200 5))) M) : Runs X mX9_about 63 [(0, vr 200)] [] M P := by
  refine Runs.aload_n (j := 0) dX9_about_63 rfl ?_
  refine Runs.geti (ci := 9) (j := 5) (C := RX9) (T := TX9) (N := 48) dX9_about_64 rfl cls_X9 (by decide) rfl fl_X9_17 (Or.inl rfl) ?_
  exact Runs.reti dX9_about_67 rfl k
theorem kX9_about_68 {X : Scr} {M : Mem} {P : Option AV → Mem → Prop} (k : P (some (vi (M 200 30))) M) : Runs X mX9_about 68 [(0, vr 200)] [] M P := by
  refine Runs.aload_n (j := 0) dX9_about_68 rfl ?_
  refine Runs.geti (ci := 9) (j := 30) (C := RX9) (T := TX9) (N := 48) dX9_about_69 rfl cls_X9 (by decide) rfl fl_X9_169 (Or.inl rfl) ?_
  exact Runs.reti dX9_about_72 rfl k
theorem kX9_about_73 {X : Scr} {M : Mem} {P : Option AV → Mem → Prop} (k : P (some (vi (M 200 2))) M) : Runs X mX9_about 73 [(0, vr 200)] [] M P := by
  refine Runs.aload_n (j := 0) dX9_about_73 rfl ?_
  refine Runs.geti (ci := 9) (j := 2) (C := RX9) (T := TX9) (N := 48) dX9_about_74 rfl cls_X9 (by decide) rfl fl_X9_122 (Or.inl rfl) ?_
  exact Runs.reti dX9_about_77 rfl k
theorem kX9_about_78 {X : Scr} {M : Mem} {P Q : Option AV → Mem → Prop} (hC : Call X mX9_fakes [vr 200] M Q) (k : ∀ (z : Int) (M1 : Mem), Q (some (vi z)) M1 → Runs X mX9_about 82 [] [vi z] M1 P) : Runs X mX9_about 78 [(0, vr 200)] [] M P := by
  refine Runs.aload_n (j := 0) dX9_about_78 rfl ?_
  refine Runs.callVi (y := mX9_fakes) (n := 0) (as := []) (st := []) (q := (RX9, TX9, 48)) dX9_about_79 oc_X9_fakes im_X9_fakes se_X9_fakes ml_X9_172 rfl ⟨(Nat.le_of_ble_eq_true rfl), (Nat.le_of_ble_eq_true rfl)⟩ (Nat.le_of_ble_eq_true rfl) (Nat.le_of_ble_eq_true rfl) rfl rfl rfl (Or.inl rfl) hC (fun z M1 hQ => ?_)
  refine Runs.picks (loc' := []) [] rfl ?_
  exact k z M1 hQ
theorem kX9_about_82 {X : Scr} {M : Mem} {P : Option AV → Mem → Prop} {xs0 : Int} (k : P (some (vi xs0)) M) : Runs X mX9_about 82 [] [vi xs0] M P := by
  exact Runs.reti dX9_about_82 rfl k
theorem kX9_about_83 {X : Scr} {M : Mem} {P : Option AV → Mem → Prop} (k : P (some (vi (-2 : Int))) M) : Runs X mX9_about 83 [] [] M P := by
  refine Runs.bipush dX9_about_83 (by decide) (by decide) ?_
  exact Runs.reti dX9_about_85 rfl k
theorem kX9_worthBy_0 {X : Scr} {M : Mem} {P : Option AV → Mem → Prop} {x1 x2 : Int} (k1 : 0 ≤ (((10 : Int) * (M 307 (x1).toNat)) - ((M 200 4) * x2)) → Runs X mX9_worthBy 25 [(0, vr 200), (1, vi x1), (3, vi (((10 : Int) * (M 307 (x1).toNat)) - ((M 200 4) * x2)))] [] M P) (k2 : (((10 : Int) * (M 307 (x1).toNat)) - ((M 200 4) * x2)) < 0 → Runs X mX9_worthBy 21 [] [] M P) (h1 : 0 ≤ x1 := by omega) (h2 : x1 < ((10 : Nat) : Int) := by omega) (h3 : -2147483648 ≤ ((10 : Int) * (M 307 (x1).toNat)) ∧ ((10 : Int) * (M 307 (x1).toNat)) ≤ 2147483647 := by omega) (h4 : -2147483648 ≤ ((M 200 4) * x2) ∧ ((M 200 4) * x2) ≤ 2147483647 := by omega) (h5 : -2147483648 ≤ (((10 : Int) * (M 307 (x1).toNat)) - ((M 200 4) * x2)) ∧ (((10 : Int) * (M 307 (x1).toNat)) - ((M 200 4) * x2)) ≤ 2147483647 := by omega) : Runs X mX9_worthBy 0 [(0, vr 200), (1, vi x1), (2, vi x2)] [] M P := by
  refine Runs.bipush dX9_worthBy_0 (by decide) (by decide) ?_
  refine Runs.aload_n (j := 0) dX9_worthBy_2 rfl ?_
  refine Runs.getr (o' := 307) (ci := 9) (j := 7) (C := RX9) (T := TX9) (N := 48) dX9_worthBy_3 rfl cls_X9 (by decide) rfl fl_X9_20 rfl ⟨rfl, "", Or.inr ⟨_, rfl⟩⟩ ?_
  refine Runs.iload_n (j := 1) dX9_worthBy_6 rfl ?_
  refine Runs.iald dX9_worthBy_7 rfl h1 h2 ?_
  refine Runs.imul dX9_worthBy_8 h3 ?_
  refine Runs.aload_n (j := 0) dX9_worthBy_9 rfl ?_
  refine Runs.geti (ci := 9) (j := 4) (C := RX9) (T := TX9) (N := 48) dX9_worthBy_10 rfl cls_X9 (by decide) rfl fl_X9_13 (Or.inl rfl) ?_
  refine Runs.iload_n (j := 2) dX9_worthBy_13 rfl ?_
  refine Runs.imul dX9_worthBy_14 h4 ?_
  refine Runs.isub dX9_worthBy_15 h5 ?_
  refine Runs.istore_n (loc' := [(0, vr 200), (1, vi x1), (2, vi x2), (3, vi (((10 : Int) * (M 307 (x1).toNat)) - ((M 200 4) * x2)))]) dX9_worthBy_16 rfl (by decide) rfl ?_
  refine Runs.iload_n (j := 3) dX9_worthBy_17 rfl ?_
  refine Runs.if_ge (tgt := 25) dX9_worthBy_18 (by decide) (fun h => ?_) (fun h => ?_)
  · refine Runs.picks (loc' := [(0, vr 200), (1, vi x1), (3, vi (((10 : Int) * (M 307 (x1).toNat)) - ((M 200 4) * x2)))]) [0, 1, 3] rfl ?_
    exact k1 h
  · refine Runs.picks (loc' := []) [] rfl ?_
    exact k2 h
theorem kX9_worthBy_21 {X : Scr} {M : Mem} {P : Option AV → Mem → Prop} (k : Runs X mX9_worthBy 44 [] [vi (0 : Int)] M P) : Runs X mX9_worthBy 21 [] [] M P := by
  refine Runs.iconst dX9_worthBy_21 (by decide) ?_
  refine Runs.goto (tgt := 44) dX9_worthBy_22 (by decide) ?_
  exact k
theorem kX9_worthBy_25 {X : Scr} {M : Mem} {P : Option AV → Mem → Prop} {x1 x3 : Int} (k1 : (M 308 (x1).toNat) = 0 → Runs X mX9_worthBy 43 [(3, vi x3)] [] M P) (k2 : (M 308 (x1).toNat) ≠ 0 → Runs X mX9_worthBy 34 [(0, vr 200), (3, vi x3)] [] M P) (h1 : 0 ≤ x1 := by omega) (h2 : x1 < ((10 : Nat) : Int) := by omega) : Runs X mX9_worthBy 25 [(0, vr 200), (1, vi x1), (3, vi x3)] [] M P := by
  refine Runs.aload_n (j := 0) dX9_worthBy_25 rfl ?_
  refine Runs.getr (o' := 308) (ci := 9) (j := 8) (C := RX9) (T := TX9) (N := 48) dX9_worthBy_26 rfl cls_X9 (by decide) rfl fl_X9_23 rfl ⟨rfl, "", Or.inr ⟨_, rfl⟩⟩ ?_
  refine Runs.iload_n (j := 1) dX9_worthBy_29 rfl ?_
  refine Runs.zald dX9_worthBy_30 rfl h1 h2 ?_
  refine Runs.if_eq (tgt := 43) dX9_worthBy_31 (by decide) (fun h => ?_) (fun h => ?_)
  · refine Runs.picks (loc' := [(3, vi x3)]) [2] rfl ?_
    exact k1 h
  · refine Runs.picks (loc' := [(0, vr 200), (3, vi x3)]) [0, 2] rfl ?_
    exact k2 h
theorem kX9_worthBy_34 {X : Scr} {M : Mem} {P : Option AV → Mem → Prop} {x3 : Int} (k : Runs X mX9_worthBy 44 [] [vi ((M 200 5) * x3)] M P) (h1 : -2147483648 ≤ ((M 200 5) * x3) ∧ ((M 200 5) * x3) ≤ 2147483647 := by omega) : Runs X mX9_worthBy 34 [(0, vr 200), (3, vi x3)] [] M P := by
  refine Runs.aload_n (j := 0) dX9_worthBy_34 rfl ?_
  refine Runs.geti (ci := 9) (j := 5) (C := RX9) (T := TX9) (N := 48) dX9_worthBy_35 rfl cls_X9 (by decide) rfl fl_X9_17 (Or.inl rfl) ?_
  refine Runs.iload_n (j := 1) dX9_worthBy_38 rfl ?_
  refine Runs.imul dX9_worthBy_39 h1 ?_
  refine Runs.goto (tgt := 44) dX9_worthBy_40 (by decide) ?_
  refine Runs.picks (loc' := []) [] rfl ?_
  exact k
theorem kX9_worthBy_43 {X : Scr} {M : Mem} {P : Option AV → Mem → Prop} {x3 : Int} (k : Runs X mX9_worthBy 44 [] [vi x3] M P) : Runs X mX9_worthBy 43 [(3, vi x3)] [] M P := by
  refine Runs.iload_n (j := 0) dX9_worthBy_43 rfl ?_
  refine Runs.picks (loc' := []) [] rfl ?_
  exact k
theorem kX9_worthBy_44 {X : Scr} {M : Mem} {P : Option AV → Mem → Prop} {xs0 : Int} (k : P (some (vi xs0)) M) : Runs X mX9_worthBy 44 [] [vi xs0] M P := by
  exact Runs.reti dX9_worthBy_44 rfl k
theorem kX9_worth_0 {X : Scr} {M : Mem} {P Q : Option AV → Mem → Prop} {x1 : Int} (hC : Call X mX9_worthBy [vr 200, vi x1, vi (M 309 (x1).toNat)] M Q) (k : ∀ (z : Int) (M1 : Mem), Q (some (vi z)) M1 → Runs X mX9_worth 11 [] [vi z] M1 P) (h1 : 0 ≤ x1 := by omega) (h2 : x1 < ((10 : Nat) : Int) := by omega) : Runs X mX9_worth 0 [(0, vr 200), (1, vi x1)] [] M P := by
  refine Runs.aload_n (j := 0) dX9_worth_0 rfl ?_
  refine Runs.iload_n (j := 1) dX9_worth_1 rfl ?_
  refine Runs.aload_n (j := 0) dX9_worth_2 rfl ?_
  refine Runs.getr (o' := 309) (ci := 9) (j := 9) (C := RX9) (T := TX9) (N := 48) dX9_worth_3 rfl cls_X9 (by decide) rfl fl_X9_27 rfl ⟨rfl, "", Or.inr ⟨_, rfl⟩⟩ ?_
  refine Runs.iload_n (j := 1) dX9_worth_6 rfl ?_
  refine Runs.iald dX9_worth_7 rfl h1 h2 ?_
  refine Runs.callVi (y := mX9_worthBy) (n := 2) (as := [vi x1, vi (M 309 (x1).toNat)]) (st := []) (q := (RX9, TX9, 48)) dX9_worth_8 oc_X9_worthBy im_X9_worthBy se_X9_worthBy ml_X9_175 rfl ⟨(Nat.le_of_ble_eq_true rfl), (Nat.le_of_ble_eq_true rfl)⟩ (Nat.le_of_ble_eq_true rfl) (Nat.le_of_ble_eq_true rfl) rfl rfl rfl (Or.inl rfl) hC (fun z M1 hQ => ?_)
  refine Runs.picks (loc' := []) [] rfl ?_
  exact k z M1 hQ
theorem kX9_worth_11 {X : Scr} {M : Mem} {P : Option AV → Mem → Prop} {xs0 : Int} (k : P (some (vi xs0)) M) : Runs X mX9_worth 11 [] [vi xs0] M P := by
  exact Runs.reti dX9_worth_11 rfl k
theorem kX9_tooth_0 {X : Scr} {M : Mem} {P Q : Option AV → Mem → Prop} {x1 x2 : Int} (hC : Call X mX9_noTooth [vr 200, vi x1] (up2 M 200 0 (0 : Int)) Q) (k : ∀ (z : Int) (M1 : Mem), Q (some (vi z)) M1 → Runs X mX9_tooth 10 [(0, vr 200), (1, vi x1), (2, vi x2)] [vi z] M1 P) : Runs X mX9_tooth 0 [(0, vr 200), (1, vi x1), (2, vi x2)] [] M P := by
  refine Runs.aload_n (j := 0) dX9_tooth_0 rfl ?_
  refine Runs.iconst dX9_tooth_1 (by decide) ?_
  refine Runs.puti (ci := 9) (j := 0) (C := RX9) (T := TX9) (N := 48) dX9_tooth_2 rfl cls_X9 (by decide) rfl fl_X9_108 rfl rfl ?_
  refine Runs.aload_n (j := 0) dX9_tooth_5 rfl ?_
  refine Runs.iload_n (j := 1) dX9_tooth_6 rfl ?_
  refine Runs.callVi (y := mX9_noTooth) (n := 1) (as := [vi x1]) (st := []) (q := (RX9, TX9, 48)) dX9_tooth_7 oc_X9_noTooth im_X9_noTooth se_X9_noTooth ml_X9_178 rfl ⟨(Nat.le_of_ble_eq_true rfl), (Nat.le_of_ble_eq_true rfl)⟩ (Nat.le_of_ble_eq_true rfl) (Nat.le_of_ble_eq_true rfl) rfl rfl rfl (Or.inr rfl) hC (fun z M1 hQ => ?_)
  exact k z M1 hQ
theorem kX9_tooth_10 {X : Scr} {M : Mem} {P : Option AV → Mem → Prop} {x1 x2 xs0 : Int} (k1 : xs0 = 0 → Runs X mX9_tooth 15 [(0, vr 200), (1, vi x1), (2, vi x2)] [] M P) (k2 : xs0 ≠ 0 → Runs X mX9_tooth 13 [] [] M P) : Runs X mX9_tooth 10 [(0, vr 200), (1, vi x1), (2, vi x2)] [vi xs0] M P := by
  refine Runs.if_eq (tgt := 15) dX9_tooth_10 (by decide) (fun h => ?_) (fun h => ?_)
  · exact k1 h
  · refine Runs.picks (loc' := []) [] rfl ?_
    exact k2 h
theorem kX9_tooth_13 {X : Scr} {M : Mem} {P : Option AV → Mem → Prop} (k : P (some (vi (-1 : Int))) M) : Runs X mX9_tooth 13 [] [] M P := by
  refine Runs.iconst dX9_tooth_13 (by decide) ?_
  exact Runs.reti dX9_tooth_14 rfl k
theorem kX9_tooth_15 {X : Scr} {M : Mem} {P : Option AV → Mem → Prop} {x1 x2 : Int} (c0 : x2 = 0 → Runs X mX9_tooth 56 [(0, vr 200), (1, vi x1)] [] M P) (c1 : x2 = 1 → Runs X mX9_tooth 63 [(0, vr 200), (1, vi x1)] [] M P) (c2 : x2 = 2 → Runs X mX9_tooth 78 [(0, vr 200), (1, vi x1)] [] M P) (c3 : x2 = 3 → Runs X mX9_tooth 85 [(0, vr 200), (1, vi x1)] [] M P) (c4 : x2 = 4 → Runs X mX9_tooth 92 [(0, vr 200), (1, vi x1)] [] M P) (c5 : x2 = 5 → Runs X mX9_tooth 98 [(0, vr 200), (1, vi x1)] [] M P) (cd : x2 < 0 ∨ 5 < x2 → Runs X mX9_tooth 113 [] [] M P) : Runs X mX9_tooth 15 [(0, vr 200), (1, vi x1), (2, vi x2)] [] M P := by
  refine Runs.iload_n (j := 2) dX9_tooth_15 rfl ?_
  rcases Classical.em (0 ≤ x2 ∧ x2 ≤ 5) with hq | hq
  · obtain ⟨hq1, hq2⟩ := hq
    rcases (show x2 = 0 ∨ x2 = 1 ∨ x2 = 2 ∨ x2 = 3 ∨ x2 = 4 ∨ x2 = 5 by omega) with h | h | h | h | h | h
    · refine Runs.tableIn (tgt := 56) dX9_tooth_16 hq1 hq2 (by rw [h] <;> rfl) (by decide) ?_
      refine Runs.picks (loc' := [(0, vr 200), (1, vi x1)]) [0, 1] rfl ?_
      exact c0 h
    · refine Runs.tableIn (tgt := 63) dX9_tooth_16 hq1 hq2 (by rw [h] <;> rfl) (by decide) ?_
      refine Runs.picks (loc' := [(0, vr 200), (1, vi x1)]) [0, 1] rfl ?_
      exact c1 h
    · refine Runs.tableIn (tgt := 78) dX9_tooth_16 hq1 hq2 (by rw [h] <;> rfl) (by decide) ?_
      refine Runs.picks (loc' := [(0, vr 200), (1, vi x1)]) [0, 1] rfl ?_
      exact c2 h
    · refine Runs.tableIn (tgt := 85) dX9_tooth_16 hq1 hq2 (by rw [h] <;> rfl) (by decide) ?_
      refine Runs.picks (loc' := [(0, vr 200), (1, vi x1)]) [0, 1] rfl ?_
      exact c3 h
    · refine Runs.tableIn (tgt := 92) dX9_tooth_16 hq1 hq2 (by rw [h] <;> rfl) (by decide) ?_
      refine Runs.picks (loc' := [(0, vr 200), (1, vi x1)]) [0, 1] rfl ?_
      exact c4 h
    · refine Runs.tableIn (tgt := 98) dX9_tooth_16 hq1 hq2 (by rw [h] <;> rfl) (by decide) ?_
      refine Runs.picks (loc' := [(0, vr 200), (1, vi x1)]) [0, 1] rfl ?_
      exact c5 h
  · have hq : x2 < 0 ∨ 5 < x2 := by omega
    refine Runs.tableOut (tgt := 113) dX9_tooth_16 hq (by decide) ?_
    refine Runs.picks (loc' := []) [] rfl ?_
    exact cd hq
theorem kX9_tooth_56 {X : Scr} {M : Mem} {P : Option AV → Mem → Prop} {x1 : Int} (k : P (some (vi (M 307 (x1).toNat))) M) (h1 : 0 ≤ x1 := by omega) (h2 : x1 < ((10 : Nat) : Int) := by omega) : Runs X mX9_tooth 56 [(0, vr 200), (1, vi x1)] [] M P := by
  refine Runs.aload_n (j := 0) dX9_tooth_56 rfl ?_
  refine Runs.getr (o' := 307) (ci := 9) (j := 7) (C := RX9) (T := TX9) (N := 48) dX9_tooth_57 rfl cls_X9 (by decide) rfl fl_X9_20 rfl ⟨rfl, "", Or.inr ⟨_, rfl⟩⟩ ?_
  refine Runs.iload_n (j := 1) dX9_tooth_60 rfl ?_
  refine Runs.iald dX9_tooth_61 rfl h1 h2 ?_
  exact Runs.reti dX9_tooth_62 rfl k
theorem kX9_tooth_63 {X : Scr} {M : Mem} {P : Option AV → Mem → Prop} {x1 : Int} (k1 : (M 308 (x1).toNat) = 0 → Runs X mX9_tooth 76 [] [] M P) (k2 : (M 308 (x1).toNat) ≠ 0 → Runs X mX9_tooth 72 [] [] M P) (h1 : 0 ≤ x1 := by omega) (h2 : x1 < ((10 : Nat) : Int) := by omega) : Runs X mX9_tooth 63 [(0, vr 200), (1, vi x1)] [] M P := by
  refine Runs.aload_n (j := 0) dX9_tooth_63 rfl ?_
  refine Runs.getr (o' := 308) (ci := 9) (j := 8) (C := RX9) (T := TX9) (N := 48) dX9_tooth_64 rfl cls_X9 (by decide) rfl fl_X9_23 rfl ⟨rfl, "", Or.inr ⟨_, rfl⟩⟩ ?_
  refine Runs.iload_n (j := 1) dX9_tooth_67 rfl ?_
  refine Runs.zald dX9_tooth_68 rfl h1 h2 ?_
  refine Runs.if_eq (tgt := 76) dX9_tooth_69 (by decide) (fun h => ?_) (fun h => ?_)
  · refine Runs.picks (loc' := []) [] rfl ?_
    exact k1 h
  · refine Runs.picks (loc' := []) [] rfl ?_
    exact k2 h
theorem kX9_tooth_72 {X : Scr} {M : Mem} {P : Option AV → Mem → Prop} (k : Runs X mX9_tooth 77 [] [vi (1 : Int)] M P) : Runs X mX9_tooth 72 [] [] M P := by
  refine Runs.iconst dX9_tooth_72 (by decide) ?_
  refine Runs.goto (tgt := 77) dX9_tooth_73 (by decide) ?_
  exact k
theorem kX9_tooth_76 {X : Scr} {M : Mem} {P : Option AV → Mem → Prop} (k : Runs X mX9_tooth 77 [] [vi (0 : Int)] M P) : Runs X mX9_tooth 76 [] [] M P := by
  refine Runs.iconst dX9_tooth_76 (by decide) ?_
  exact k
theorem kX9_tooth_77 {X : Scr} {M : Mem} {P : Option AV → Mem → Prop} {xs0 : Int} (k : P (some (vi xs0)) M) : Runs X mX9_tooth 77 [] [vi xs0] M P := by
  exact Runs.reti dX9_tooth_77 rfl k
theorem kX9_tooth_78 {X : Scr} {M : Mem} {P : Option AV → Mem → Prop} {x1 : Int} (k : P (some (vi (M 309 (x1).toNat))) M) (h1 : 0 ≤ x1 := by omega) (h2 : x1 < ((10 : Nat) : Int) := by omega) : Runs X mX9_tooth 78 [(0, vr 200), (1, vi x1)] [] M P := by
  refine Runs.aload_n (j := 0) dX9_tooth_78 rfl ?_
  refine Runs.getr (o' := 309) (ci := 9) (j := 9) (C := RX9) (T := TX9) (N := 48) dX9_tooth_79 rfl cls_X9 (by decide) rfl fl_X9_27 rfl ⟨rfl, "", Or.inr ⟨_, rfl⟩⟩ ?_
  refine Runs.iload_n (j := 1) dX9_tooth_82 rfl ?_
  refine Runs.iald dX9_tooth_83 rfl h1 h2 ?_
  exact Runs.reti dX9_tooth_84 rfl k
theorem kX9_tooth_85 {X : Scr} {M : Mem} {P : Option AV → Mem → Prop} {x1 : Int} (k : P (some (vi (M 310 (x1).toNat))) M) (h1 : 0 ≤ x1 := by omega) (h2 : x1 < ((10 : Nat) : Int) := by omega) : Runs X mX9_tooth 85 [(0, vr 200), (1, vi x1)] [] M P := by
  refine Runs.aload_n (j := 0) dX9_tooth_85 rfl ?_
  refine Runs.getr (o' := 310) (ci := 9) (j := 10) (C := RX9) (T := TX9) (N := 48) dX9_tooth_86 rfl cls_X9 (by decide) rfl fl_X9_30 rfl ⟨rfl, "", Or.inr ⟨_, rfl⟩⟩ ?_
  refine Runs.iload_n (j := 1) dX9_tooth_89 rfl ?_
  refine Runs.iald dX9_tooth_90 rfl h1 h2 ?_
  exact Runs.reti dX9_tooth_91 rfl k
theorem kX9_tooth_92 {X : Scr} {M : Mem} {P Q : Option AV → Mem → Prop} {x1 : Int} (hC : Call X mX9_worth [vr 200, vi x1] M Q) (k : ∀ (z : Int) (M1 : Mem), Q (some (vi z)) M1 → Runs X mX9_tooth 97 [] [vi z] M1 P) : Runs X mX9_tooth 92 [(0, vr 200), (1, vi x1)] [] M P := by
  refine Runs.aload_n (j := 0) dX9_tooth_92 rfl ?_
  refine Runs.iload_n (j := 1) dX9_tooth_93 rfl ?_
  refine Runs.callVi (y := mX9_worth) (n := 1) (as := [vi x1]) (st := []) (q := (RX9, TX9, 48)) dX9_tooth_94 oc_X9_worth im_X9_worth se_X9_worth ml_X9_182 rfl ⟨(Nat.le_of_ble_eq_true rfl), (Nat.le_of_ble_eq_true rfl)⟩ (Nat.le_of_ble_eq_true rfl) (Nat.le_of_ble_eq_true rfl) rfl rfl rfl (Or.inl rfl) hC (fun z M1 hQ => ?_)
  refine Runs.picks (loc' := []) [] rfl ?_
  exact k z M1 hQ
theorem kX9_tooth_97 {X : Scr} {M : Mem} {P : Option AV → Mem → Prop} {xs0 : Int} (k : P (some (vi xs0)) M) : Runs X mX9_tooth 97 [] [vi xs0] M P := by
  exact Runs.reti dX9_tooth_97 rfl k
theorem kX9_tooth_98 {X : Scr} {M : Mem} {P : Option AV → Mem → Prop} {x1 : Int} (k1 : (M 311 (x1).toNat) = 0 → Runs X mX9_tooth 111 [] [] M P) (k2 : (M 311 (x1).toNat) ≠ 0 → Runs X mX9_tooth 107 [] [] M P) (h1 : 0 ≤ x1 := by omega) (h2 : x1 < ((10 : Nat) : Int) := by omega) : Runs X mX9_tooth 98 [(0, vr 200), (1, vi x1)] [] M P := by
  refine Runs.aload_n (j := 0) dX9_tooth_98 rfl ?_
  refine Runs.getr (o' := 311) (ci := 9) (j := 11) (C := RX9) (T := TX9) (N := 48) dX9_tooth_99 rfl cls_X9 (by decide) rfl fl_X9_33 rfl ⟨rfl, "", Or.inr ⟨_, rfl⟩⟩ ?_
  refine Runs.iload_n (j := 1) dX9_tooth_102 rfl ?_
  refine Runs.zald dX9_tooth_103 rfl h1 h2 ?_
  refine Runs.if_eq (tgt := 111) dX9_tooth_104 (by decide) (fun h => ?_) (fun h => ?_)
  · refine Runs.picks (loc' := []) [] rfl ?_
    exact k1 h
  · refine Runs.picks (loc' := []) [] rfl ?_
    exact k2 h
theorem kX9_tooth_107 {X : Scr} {M : Mem} {P : Option AV → Mem → Prop} (k : Runs X mX9_tooth 112 [] [vi (1 : Int)] M P) : Runs X mX9_tooth 107 [] [] M P := by
  refine Runs.iconst dX9_tooth_107 (by decide) ?_
  refine Runs.goto (tgt := 112) dX9_tooth_108 (by decide) ?_
  exact k
theorem kX9_tooth_111 {X : Scr} {M : Mem} {P : Option AV → Mem → Prop} (k : Runs X mX9_tooth 112 [] [vi (0 : Int)] M P) : Runs X mX9_tooth 111 [] [] M P := by
  refine Runs.iconst dX9_tooth_111 (by decide) ?_
  exact k
theorem kX9_tooth_112 {X : Scr} {M : Mem} {P : Option AV → Mem → Prop} {xs0 : Int} (k : P (some (vi xs0)) M) : Runs X mX9_tooth 112 [] [vi xs0] M P := by
  exact Runs.reti dX9_tooth_112 rfl k
theorem kX9_tooth_113 {X : Scr} {M : Mem} {P : Option AV → Mem → Prop} (k : P (some (vi (-2 : Int))) M) : Runs X mX9_tooth 113 [] [] M P := by
  refine Runs.bipush dX9_tooth_113 (by decide) (by decide) ?_
  exact Runs.reti dX9_tooth_115 rfl k
theorem kX9_good_0 {X : Scr} {M : Mem} {P Q : Option AV → Mem → Prop} {x1 x2 : Int} (hC : Call X mX9_in [vl x1, vl (0 : Int), vl (((up2 M 200 0 (0 : Int)) 200 15) - (1 : Int))] (up2 M 200 0 (0 : Int)) Q) (k : ∀ (z : Int) (M1 : Mem), Q (some (vi z)) M1 → Runs X mX9_good 18 [(0, vr 200), (1, vi x1), (2, vi x2)] [vi z] M1 P) (h1 : -2147483648 ≤ (((up2 M 200 0 (0 : Int)) 200 15) - (1 : Int)) ∧ (((up2 M 200 0 (0 : Int)) 200 15) - (1 : Int)) ≤ 2147483647 := by omega) : Runs X mX9_good 0 [(0, vr 200), (1, vi x1), (2, vi x2)] [] M P := by
  refine Runs.aload_n (j := 0) dX9_good_0 rfl ?_
  refine Runs.iconst dX9_good_1 (by decide) ?_
  refine Runs.puti (ci := 9) (j := 0) (C := RX9) (T := TX9) (N := 48) dX9_good_2 rfl cls_X9 (by decide) rfl fl_X9_108 rfl rfl ?_
  refine Runs.iload_n (j := 1) dX9_good_5 rfl ?_
  refine Runs.i2l dX9_good_6 ?_
  refine Runs.lconst (z := 0) dX9_good_7 rfl (by decide) ?_
  refine Runs.aload_n (j := 0) dX9_good_8 rfl ?_
  refine Runs.geti (ci := 9) (j := 15) (C := RX9) (T := TX9) (N := 48) dX9_good_9 rfl cls_X9 (by decide) rfl fl_X9_162 (Or.inl rfl) ?_
  refine Runs.iconst dX9_good_12 (by decide) ?_
  refine Runs.isub dX9_good_13 h1 ?_
  refine Runs.i2l dX9_good_14 ?_
  refine Runs.callSi (y := mX9_in) (n := 3) (as := [vl x1, vl (0 : Int), vl (((up2 M 200 0 (0 : Int)) 200 15) - (1 : Int))]) (st := []) dX9_good_15 oc_X9_in sm_X9_in ml_X9_114 rfl ⟨(Nat.le_of_ble_eq_true rfl), (Nat.le_of_ble_eq_true rfl)⟩ (Nat.le_of_ble_eq_true rfl) (Nat.le_of_ble_eq_true rfl) (Or.inr rfl) hC (fun z M1 hQ => ?_)
  exact k z M1 hQ
theorem kX9_good_18 {X : Scr} {M : Mem} {P : Option AV → Mem → Prop} {x1 x2 xs0 : Int} (k1 : xs0 ≠ 0 → Runs X mX9_good 23 [(0, vr 200), (1, vi x1), (2, vi x2)] [] M P) (k2 : xs0 = 0 → Runs X mX9_good 21 [] [] M P) : Runs X mX9_good 18 [(0, vr 200), (1, vi x1), (2, vi x2)] [vi xs0] M P := by
  refine Runs.if_ne (tgt := 23) dX9_good_18 (by decide) (fun h => ?_) (fun h => ?_)
  · exact k1 h
  · refine Runs.picks (loc' := []) [] rfl ?_
    exact k2 h
theorem kX9_good_21 {X : Scr} {M : Mem} {P : Option AV → Mem → Prop} (k : P (some (vi (-1 : Int))) M) : Runs X mX9_good 21 [] [] M P := by
  refine Runs.iconst dX9_good_21 (by decide) ?_
  exact Runs.reti dX9_good_22 rfl k
theorem kX9_good_23 {X : Scr} {M : Mem} {P : Option AV → Mem → Prop} {x1 x2 : Int} (k1 : x2 ≠ 0 → Runs X mX9_good 36 [(0, vr 200), (1, vi x1), (2, vi x2)] [] M P) (k2 : x2 = 0 → Runs X mX9_good 27 [(0, vr 200), (1, vi x1)] [] M P) : Runs X mX9_good 23 [(0, vr 200), (1, vi x1), (2, vi x2)] [] M P := by
  refine Runs.iload_n (j := 2) dX9_good_23 rfl ?_
  refine Runs.if_ne (tgt := 36) dX9_good_24 (by decide) (fun h => ?_) (fun h => ?_)
  · exact k1 h
  · refine Runs.picks (loc' := [(0, vr 200), (1, vi x1)]) [0, 1] rfl ?_
    exact k2 h
theorem kX9_good_27 {X : Scr} {M : Mem} {P : Option AV → Mem → Prop} {x1 : Int} (k : Runs X mX9_good 52 [] [vi (M 316 (x1).toNat)] M P) (h1 : 0 ≤ x1 := by omega) (h2 : x1 < ((4 : Nat) : Int) := by omega) : Runs X mX9_good 27 [(0, vr 200), (1, vi x1)] [] M P := by
  refine Runs.aload_n (j := 0) dX9_good_27 rfl ?_
  refine Runs.getr (o' := 316) (ci := 9) (j := 16) (C := RX9) (T := TX9) (N := 48) dX9_good_28 rfl cls_X9 (by decide) rfl fl_X9_45 rfl ⟨rfl, "", Or.inr ⟨_, rfl⟩⟩ ?_
  refine Runs.iload_n (j := 1) dX9_good_31 rfl ?_
  refine Runs.iald dX9_good_32 rfl h1 h2 ?_
  refine Runs.goto (tgt := 52) dX9_good_33 (by decide) ?_
  refine Runs.picks (loc' := []) [] rfl ?_
  exact k
theorem kX9_good_36 {X : Scr} {M : Mem} {P : Option AV → Mem → Prop} {x1 x2 : Int} (k1 : x2 ≠ (1 : Int) → Runs X mX9_good 50 [] [] M P) (k2 : x2 = (1 : Int) → Runs X mX9_good 41 [(0, vr 200), (1, vi x1)] [] M P) : Runs X mX9_good 36 [(0, vr 200), (1, vi x1), (2, vi x2)] [] M P := by
  refine Runs.iload_n (j := 2) dX9_good_36 rfl ?_
  refine Runs.iconst dX9_good_37 (by decide) ?_
  refine Runs.icmp_ne (tgt := 50) dX9_good_38 (by decide) (fun h => ?_) (fun h => ?_)
  · refine Runs.picks (loc' := []) [] rfl ?_
    exact k1 h
  · refine Runs.picks (loc' := [(0, vr 200), (1, vi x1)]) [0, 1] rfl ?_
    exact k2 h
theorem kX9_good_41 {X : Scr} {M : Mem} {P : Option AV → Mem → Prop} {x1 : Int} (k : Runs X mX9_good 52 [] [vi (M 317 (x1).toNat)] M P) (h1 : 0 ≤ x1 := by omega) (h2 : x1 < ((4 : Nat) : Int) := by omega) : Runs X mX9_good 41 [(0, vr 200), (1, vi x1)] [] M P := by
  refine Runs.aload_n (j := 0) dX9_good_41 rfl ?_
  refine Runs.getr (o' := 317) (ci := 9) (j := 17) (C := RX9) (T := TX9) (N := 48) dX9_good_42 rfl cls_X9 (by decide) rfl fl_X9_48 rfl ⟨rfl, "", Or.inr ⟨_, rfl⟩⟩ ?_
  refine Runs.iload_n (j := 1) dX9_good_45 rfl ?_
  refine Runs.iald dX9_good_46 rfl h1 h2 ?_
  refine Runs.goto (tgt := 52) dX9_good_47 (by decide) ?_
  refine Runs.picks (loc' := []) [] rfl ?_
  exact k
theorem kX9_good_50 {X : Scr} {M : Mem} {P : Option AV → Mem → Prop} (k : Runs X mX9_good 52 [] [vi (-2 : Int)] M P) : Runs X mX9_good 50 [] [] M P := by
  refine Runs.bipush dX9_good_50 (by decide) (by decide) ?_
  exact k
theorem kX9_good_52 {X : Scr} {M : Mem} {P : Option AV → Mem → Prop} {xs0 : Int} (k : P (some (vi xs0)) M) : Runs X mX9_good 52 [] [vi xs0] M P := by
  exact Runs.reti dX9_good_52 rfl k
theorem kX9_setOf_0 {X : Scr} {M : Mem} {P : Option AV → Mem → Prop} {x1 : Int} (k : Runs X mX9_setOf 4 [(0, vr 200), (1, vi x1), (2, vi (0 : Int)), (3, vi (0 : Int))] [] M P) : Runs X mX9_setOf 0 [(0, vr 200), (1, vi x1)] [] M P := by
  refine Runs.iconst dX9_setOf_0 (by decide) ?_
  refine Runs.istore_n (loc' := [(0, vr 200), (1, vi x1), (2, vi (0 : Int))]) dX9_setOf_1 rfl (by decide) rfl ?_
  refine Runs.iconst dX9_setOf_2 (by decide) ?_
  refine Runs.istore_n (loc' := [(0, vr 200), (1, vi x1), (2, vi (0 : Int)), (3, vi (0 : Int))]) dX9_setOf_3 rfl (by decide) rfl ?_
  exact k
theorem kX9_setOf_4 {X : Scr} {M : Mem} {P : Option AV → Mem → Prop} {x1 x2 x3 : Int} (k1 : (M 200 6) ≤ x3 → Runs X mX9_setOf 38 [(2, vi x2)] [] M P) (k2 : x3 < (M 200 6) → Runs X mX9_setOf 12 [(0, vr 200), (1, vi x1), (2, vi x2), (3, vi x3)] [] M P) : Runs X mX9_setOf 4 [(0, vr 200), (1, vi x1), (2, vi x2), (3, vi x3)] [] M P := by
  refine Runs.iload_n (j := 3) dX9_setOf_4 rfl ?_
  refine Runs.aload_n (j := 0) dX9_setOf_5 rfl ?_
  refine Runs.geti (ci := 9) (j := 6) (C := RX9) (T := TX9) (N := 48) dX9_setOf_6 rfl cls_X9 (by decide) rfl fl_X9_111 (Or.inl rfl) ?_
  refine Runs.icmp_ge (tgt := 38) dX9_setOf_9 (by decide) (fun h => ?_) (fun h => ?_)
  · refine Runs.picks (loc' := [(2, vi x2)]) [2] rfl ?_
    exact k1 h
  · exact k2 h
theorem kX9_setOf_12 {X : Scr} {M : Mem} {P : Option AV → Mem → Prop} {x1 x2 x3 : Int} (k1 : (M 310 (x3).toNat) ≠ x1 → Runs X mX9_setOf 29 [(0, vr 200), (1, vi x1), (3, vi x3)] [vi x2] M P) (k2 : (M 310 (x3).toNat) = x1 → Runs X mX9_setOf 23 [(0, vr 200), (1, vi x1), (3, vi x3)] [vi x2] M P) (h1 : 0 ≤ x3 := by omega) (h2 : x3 < ((10 : Nat) : Int) := by omega) : Runs X mX9_setOf 12 [(0, vr 200), (1, vi x1), (2, vi x2), (3, vi x3)] [] M P := by
  refine Runs.iload_n (j := 2) dX9_setOf_12 rfl ?_
  refine Runs.aload_n (j := 0) dX9_setOf_13 rfl ?_
  refine Runs.getr (o' := 310) (ci := 9) (j := 10) (C := RX9) (T := TX9) (N := 48) dX9_setOf_14 rfl cls_X9 (by decide) rfl fl_X9_30 rfl ⟨rfl, "", Or.inr ⟨_, rfl⟩⟩ ?_
  refine Runs.iload_n (j := 3) dX9_setOf_17 rfl ?_
  refine Runs.iald dX9_setOf_18 rfl h1 h2 ?_
  refine Runs.iload_n (j := 1) dX9_setOf_19 rfl ?_
  refine Runs.icmp_ne (tgt := 29) dX9_setOf_20 (by decide) (fun h => ?_) (fun h => ?_)
  · refine Runs.picks (loc' := [(0, vr 200), (1, vi x1), (3, vi x3)]) [0, 1, 3] rfl ?_
    exact k1 h
  · refine Runs.picks (loc' := [(0, vr 200), (1, vi x1), (3, vi x3)]) [0, 1, 3] rfl ?_
    exact k2 h
theorem kX9_setOf_23 {X : Scr} {M : Mem} {P : Option AV → Mem → Prop} {x1 x3 xs0 : Int} (k : Runs X mX9_setOf 30 [(0, vr 200), (1, vi x1), (3, vi x3)] [vi (zshl (1 : Int) x3), vi xs0] M P) : Runs X mX9_setOf 23 [(0, vr 200), (1, vi x1), (3, vi x3)] [vi xs0] M P := by
  refine Runs.iconst dX9_setOf_23 (by decide) ?_
  refine Runs.iload_n (j := 2) dX9_setOf_24 rfl ?_
  refine Runs.ishl dX9_setOf_25 ?_
  refine Runs.goto (tgt := 30) dX9_setOf_26 (by decide) ?_
  exact k
theorem kX9_setOf_29 {X : Scr} {M : Mem} {P : Option AV → Mem → Prop} {x1 x3 xs0 : Int} (k : Runs X mX9_setOf 30 [(0, vr 200), (1, vi x1), (3, vi x3)] [vi (0 : Int), vi xs0] M P) : Runs X mX9_setOf 29 [(0, vr 200), (1, vi x1), (3, vi x3)] [vi xs0] M P := by
  refine Runs.iconst dX9_setOf_29 (by decide) ?_
  exact k
theorem kX9_setOf_30 {X : Scr} {M : Mem} {P : Option AV → Mem → Prop} {x1 x3 xs0 xs1 : Int} (k : Runs X mX9_setOf 4 [(0, vr 200), (1, vi x1), (2, vi (zor xs0 xs1)), (3, vi (x3 + (1 : Int)))] [] M P) (h1 : -2147483648 ≤ (x3 + (1 : Int)) ∧ (x3 + (1 : Int)) ≤ 2147483647 := by omega) : Runs X mX9_setOf 30 [(0, vr 200), (1, vi x1), (3, vi x3)] [vi xs1, vi xs0] M P := by
  refine Runs.ior dX9_setOf_30 ?_
  refine Runs.istore_n (loc' := [(0, vr 200), (1, vi x1), (2, vi (zor xs0 xs1)), (3, vi x3)]) dX9_setOf_31 rfl (by decide) rfl ?_
  refine Runs.iinc (k := 3) (loc' := [(0, vr 200), (1, vi x1), (2, vi (zor xs0 xs1)), (3, vi (x3 + (1 : Int)))]) dX9_setOf_32 rfl h1 (by decide) rfl ?_
  refine Runs.goto (tgt := 4) dX9_setOf_35 (by decide) ?_
  exact k
theorem kX9_setOf_38 {X : Scr} {M : Mem} {P : Option AV → Mem → Prop} {x2 : Int} (k : P (some (vi x2)) M) : Runs X mX9_setOf 38 [(2, vi x2)] [] M P := by
  refine Runs.iload_n (j := 0) dX9_setOf_38 rfl ?_
  exact Runs.reti dX9_setOf_39 rfl k
theorem kX9_worthOf_0 {X : Scr} {M : Mem} {P : Option AV → Mem → Prop} {x1 : Int} (k : Runs X mX9_worthOf 4 [(0, vr 200), (1, vi x1), (2, vi (0 : Int)), (3, vi (0 : Int))] [] M P) : Runs X mX9_worthOf 0 [(0, vr 200), (1, vi x1)] [] M P := by
  refine Runs.iconst dX9_worthOf_0 (by decide) ?_
  refine Runs.istore_n (loc' := [(0, vr 200), (1, vi x1), (2, vi (0 : Int))]) dX9_worthOf_1 rfl (by decide) rfl ?_
  refine Runs.iconst dX9_worthOf_2 (by decide) ?_
  refine Runs.istore_n (loc' := [(0, vr 200), (1, vi x1), (2, vi (0 : Int)), (3, vi (0 : Int))]) dX9_worthOf_3 rfl (by decide) rfl ?_
  exact k
theorem kX9_worthOf_4 {X : Scr} {M : Mem} {P : Option AV → Mem → Prop} {x1 x2 x3 : Int} (k1 : (M 200 6) ≤ x3 → Runs X mX9_worthOf 38 [(2, vi x2)] [] M P) (k2 : x3 < (M 200 6) → Runs X mX9_worthOf 12 [(0, vr 200), (1, vi x1), (2, vi x2), (3, vi x3)] [] M P) : Runs X mX9_worthOf 4 [(0, vr 200), (1, vi x1), (2, vi x2), (3, vi x3)] [] M P := by
  refine Runs.iload_n (j := 3) dX9_worthOf_4 rfl ?_
  refine Runs.aload_n (j := 0) dX9_worthOf_5 rfl ?_
  refine Runs.geti (ci := 9) (j := 6) (C := RX9) (T := TX9) (N := 48) dX9_worthOf_6 rfl cls_X9 (by decide) rfl fl_X9_111 (Or.inl rfl) ?_
  refine Runs.icmp_ge (tgt := 38) dX9_worthOf_9 (by decide) (fun h => ?_) (fun h => ?_)
  · refine Runs.picks (loc' := [(2, vi x2)]) [2] rfl ?_
    exact k1 h
  · exact k2 h
theorem kX9_worthOf_12 {X : Scr} {M : Mem} {P Q : Option AV → Mem → Prop} {x1 x2 x3 : Int} (hC : Call X mX9_has [vi x1, vi x3] M Q) (k : ∀ (z : Int) (M1 : Mem), Q (some (vi z)) M1 → Runs X mX9_worthOf 18 [(0, vr 200), (1, vi x1), (3, vi x3)] [vi z, vi x2] M1 P) : Runs X mX9_worthOf 12 [(0, vr 200), (1, vi x1), (2, vi x2), (3, vi x3)] [] M P := by
  refine Runs.iload_n (j := 2) dX9_worthOf_12 rfl ?_
  refine Runs.iload_n (j := 1) dX9_worthOf_13 rfl ?_
  refine Runs.iload_n (j := 3) dX9_worthOf_14 rfl ?_
  refine Runs.callSi (y := mX9_has) (n := 2) (as := [vi x1, vi x3]) (st := [vi x2]) dX9_worthOf_15 oc_X9_has sm_X9_has ml_X9_186 rfl ⟨(Nat.le_of_ble_eq_true rfl), (Nat.le_of_ble_eq_true rfl)⟩ (Nat.le_of_ble_eq_true rfl) (Nat.le_of_ble_eq_true rfl) (Or.inr rfl) hC (fun z M1 hQ => ?_)
  refine Runs.picks (loc' := [(0, vr 200), (1, vi x1), (3, vi x3)]) [0, 1, 3] rfl ?_
  exact k z M1 hQ
theorem kX9_worthOf_18 {X : Scr} {M : Mem} {P : Option AV → Mem → Prop} {x1 x3 xs0 xs1 : Int} (k1 : xs1 = 0 → Runs X mX9_worthOf 29 [(0, vr 200), (1, vi x1), (3, vi x3)] [vi xs0] M P) (k2 : xs1 ≠ 0 → Runs X mX9_worthOf 21 [(0, vr 200), (1, vi x1), (3, vi x3)] [vi xs0] M P) : Runs X mX9_worthOf 18 [(0, vr 200), (1, vi x1), (3, vi x3)] [vi xs1, vi xs0] M P := by
  refine Runs.if_eq (tgt := 29) dX9_worthOf_18 (by decide) (fun h => ?_) (fun h => ?_)
  · exact k1 h
  · exact k2 h
theorem kX9_worthOf_21 {X : Scr} {M : Mem} {P Q : Option AV → Mem → Prop} {x1 x3 xs0 : Int} (hC : Call X mX9_worth [vr 200, vi x3] M Q) (k : ∀ (z : Int) (M1 : Mem), Q (some (vi z)) M1 → Runs X mX9_worthOf 26 [(0, vr 200), (1, vi x1), (3, vi x3)] [vi z, vi xs0] M1 P) : Runs X mX9_worthOf 21 [(0, vr 200), (1, vi x1), (3, vi x3)] [vi xs0] M P := by
  refine Runs.aload_n (j := 0) dX9_worthOf_21 rfl ?_
  refine Runs.iload_n (j := 2) dX9_worthOf_22 rfl ?_
  refine Runs.callVi (y := mX9_worth) (n := 1) (as := [vi x3]) (st := [vi xs0]) (q := (RX9, TX9, 48)) dX9_worthOf_23 oc_X9_worth im_X9_worth se_X9_worth ml_X9_182 rfl ⟨(Nat.le_of_ble_eq_true rfl), (Nat.le_of_ble_eq_true rfl)⟩ (Nat.le_of_ble_eq_true rfl) (Nat.le_of_ble_eq_true rfl) rfl rfl rfl (Or.inl rfl) hC (fun z M1 hQ => ?_)
  exact k z M1 hQ
theorem kX9_worthOf_26 {X : Scr} {M : Mem} {P : Option AV → Mem → Prop} {x1 x3 xs0 xs1 : Int} (k : Runs X mX9_worthOf 30 [(0, vr 200), (1, vi x1), (3, vi x3)] [vi xs1, vi xs0] M P) : Runs X mX9_worthOf 26 [(0, vr 200), (1, vi x1), (3, vi x3)] [vi xs1, vi xs0] M P := by
  refine Runs.goto (tgt := 30) dX9_worthOf_26 (by decide) ?_
  exact k
theorem kX9_worthOf_29 {X : Scr} {M : Mem} {P : Option AV → Mem → Prop} {x1 x3 xs0 : Int} (k : Runs X mX9_worthOf 30 [(0, vr 200), (1, vi x1), (3, vi x3)] [vi (0 : Int), vi xs0] M P) : Runs X mX9_worthOf 29 [(0, vr 200), (1, vi x1), (3, vi x3)] [vi xs0] M P := by
  refine Runs.iconst dX9_worthOf_29 (by decide) ?_
  exact k
theorem kX9_worthOf_30 {X : Scr} {M : Mem} {P : Option AV → Mem → Prop} {x1 x3 xs0 xs1 : Int} (k : Runs X mX9_worthOf 4 [(0, vr 200), (1, vi x1), (2, vi (xs0 + xs1)), (3, vi (x3 + (1 : Int)))] [] M P) (h1 : -2147483648 ≤ (xs0 + xs1) ∧ (xs0 + xs1) ≤ 2147483647 := by omega) (h2 : -2147483648 ≤ (x3 + (1 : Int)) ∧ (x3 + (1 : Int)) ≤ 2147483647 := by omega) : Runs X mX9_worthOf 30 [(0, vr 200), (1, vi x1), (3, vi x3)] [vi xs1, vi xs0] M P := by
  refine Runs.iadd dX9_worthOf_30 h1 ?_
  refine Runs.istore_n (loc' := [(0, vr 200), (1, vi x1), (2, vi (xs0 + xs1)), (3, vi x3)]) dX9_worthOf_31 rfl (by decide) rfl ?_
  refine Runs.iinc (k := 3) (loc' := [(0, vr 200), (1, vi x1), (2, vi (xs0 + xs1)), (3, vi (x3 + (1 : Int)))]) dX9_worthOf_32 rfl h2 (by decide) rfl ?_
  refine Runs.goto (tgt := 4) dX9_worthOf_35 (by decide) ?_
  exact k
theorem kX9_worthOf_38 {X : Scr} {M : Mem} {P : Option AV → Mem → Prop} {x2 : Int} (k : P (some (vi x2)) M) : Runs X mX9_worthOf 38 [(2, vi x2)] [] M P := by
  refine Runs.iload_n (j := 0) dX9_worthOf_38 rfl ?_
  exact Runs.reti dX9_worthOf_39 rfl k
theorem kX9_purse_0 {X : Scr} {M : Mem} {P Q : Option AV → Mem → Prop} {x1 : Int} (hC : Call X mX9_noOne [vi x1] (up2 M 200 0 (0 : Int)) Q) (k : ∀ (z : Int) (M1 : Mem), Q (some (vi z)) M1 → Runs X mX9_purse 9 [(0, vr 200), (1, vi x1)] [vi z] M1 P) : Runs X mX9_purse 0 [(0, vr 200), (1, vi x1)] [] M P := by
  refine Runs.aload_n (j := 0) dX9_purse_0 rfl ?_
  refine Runs.iconst dX9_purse_1 (by decide) ?_
  refine Runs.puti (ci := 9) (j := 0) (C := RX9) (T := TX9) (N := 48) dX9_purse_2 rfl cls_X9 (by decide) rfl fl_X9_108 rfl rfl ?_
  refine Runs.iload_n (j := 1) dX9_purse_5 rfl ?_
  refine Runs.callSi (y := mX9_noOne) (n := 1) (as := [vi x1]) (st := []) dX9_purse_6 oc_X9_noOne sm_X9_noOne ml_X9_190 rfl ⟨(Nat.le_of_ble_eq_true rfl), (Nat.le_of_ble_eq_true rfl)⟩ (Nat.le_of_ble_eq_true rfl) (Nat.le_of_ble_eq_true rfl) (Or.inr rfl) hC (fun z M1 hQ => ?_)
  exact k z M1 hQ
theorem kX9_purse_9 {X : Scr} {M : Mem} {P : Option AV → Mem → Prop} {x1 xs0 : Int} (k1 : xs0 = 0 → Runs X mX9_purse 16 [(0, vr 200), (1, vi x1)] [] M P) (k2 : xs0 ≠ 0 → Runs X mX9_purse 12 [] [] M P) : Runs X mX9_purse 9 [(0, vr 200), (1, vi x1)] [vi xs0] M P := by
  refine Runs.if_eq (tgt := 16) dX9_purse_9 (by decide) (fun h => ?_) (fun h => ?_)
  · exact k1 h
  · refine Runs.picks (loc' := []) [] rfl ?_
    exact k2 h
theorem kX9_purse_12 {X : Scr} {M : Mem} {P : Option AV → Mem → Prop} (k : Runs X mX9_purse 25 [] [vi (-1 : Int)] M P) : Runs X mX9_purse 12 [] [] M P := by
  refine Runs.iconst dX9_purse_12 (by decide) ?_
  refine Runs.goto (tgt := 25) dX9_purse_13 (by decide) ?_
  exact k
theorem kX9_purse_16 {X : Scr} {M : Mem} {P Q : Option AV → Mem → Prop} {x1 : Int} (hC : Call X mX9_setOf [vr 200, vi x1] M Q) (k : ∀ (z : Int) (M1 : Mem), Q (some (vi z)) M1 → Runs X mX9_purse 22 [] [vi z, vr 200] M1 P) : Runs X mX9_purse 16 [(0, vr 200), (1, vi x1)] [] M P := by
  refine Runs.aload_n (j := 0) dX9_purse_16 rfl ?_
  refine Runs.aload_n (j := 0) dX9_purse_17 rfl ?_
  refine Runs.iload_n (j := 1) dX9_purse_18 rfl ?_
  refine Runs.callVi (y := mX9_setOf) (n := 1) (as := [vi x1]) (st := [vr 200]) (q := (RX9, TX9, 48)) dX9_purse_19 oc_X9_setOf im_X9_setOf se_X9_setOf ml_X9_193 rfl ⟨(Nat.le_of_ble_eq_true rfl), (Nat.le_of_ble_eq_true rfl)⟩ (Nat.le_of_ble_eq_true rfl) (Nat.le_of_ble_eq_true rfl) rfl rfl rfl (Or.inl rfl) hC (fun z M1 hQ => ?_)
  refine Runs.picks (loc' := []) [] rfl ?_
  exact k z M1 hQ
theorem kX9_purse_22 {X : Scr} {M : Mem} {P Q : Option AV → Mem → Prop} {xs1 : Int} (hC : Call X mX9_worthOf [vr 200, vi xs1] M Q) (k : ∀ (z : Int) (M1 : Mem), Q (some (vi z)) M1 → Runs X mX9_purse 25 [] [vi z] M1 P) : Runs X mX9_purse 22 [] [vi xs1, vr 200] M P := by
  refine Runs.callVi (y := mX9_worthOf) (n := 1) (as := [vi xs1]) (st := []) (q := (RX9, TX9, 48)) dX9_purse_22 oc_X9_worthOf im_X9_worthOf se_X9_worthOf ml_X9_196 rfl ⟨(Nat.le_of_ble_eq_true rfl), (Nat.le_of_ble_eq_true rfl)⟩ (Nat.le_of_ble_eq_true rfl) (Nat.le_of_ble_eq_true rfl) rfl rfl rfl (Or.inl rfl) hC (fun z M1 hQ => ?_)
  exact k z M1 hQ
theorem kX9_purse_25 {X : Scr} {M : Mem} {P : Option AV → Mem → Prop} {xs0 : Int} (k : P (some (vi xs0)) M) : Runs X mX9_purse 25 [] [vi xs0] M P := by
  exact Runs.reti dX9_purse_25 rfl k
theorem kX9_goHandle_0 {X : Scr} {M : Mem} {P : Option AV → Mem → Prop} {x1 : Int} (k1 : (99 : Int) ≤ (M 309 (x1).toNat) → Runs X mX9_goHandle 22 [] [vi (M 309 (x1).toNat), vi x1, vr 309] M P) (k2 : (M 309 (x1).toNat) < (99 : Int) → Runs X mX9_goHandle 18 [] [vi (M 309 (x1).toNat), vi x1, vr 309] M P) (h1 : 0 ≤ x1 := by omega) (h2 : x1 < ((10 : Nat) : Int) := by omega) : Runs X mX9_goHandle 0 [(0, vr 200), (1, vi x1)] [] M P := by
  refine Runs.aload_n (j := 0) dX9_goHandle_0 rfl ?_
  refine Runs.getr (o' := 309) (ci := 9) (j := 9) (C := RX9) (T := TX9) (N := 48) dX9_goHandle_1 rfl cls_X9 (by decide) rfl fl_X9_27 rfl ⟨rfl, "", Or.inr ⟨_, rfl⟩⟩ ?_
  refine Runs.iload_n (j := 1) dX9_goHandle_4 rfl ?_
  refine Runs.dup2 dX9_goHandle_5 (by intro z h; cases h) (by intro z h; cases h) ?_
  refine Runs.iald dX9_goHandle_6 rfl h1 h2 ?_
  refine Runs.aload_n (j := 0) dX9_goHandle_7 rfl ?_
  refine Runs.getr (o' := 309) (ci := 9) (j := 9) (C := RX9) (T := TX9) (N := 48) dX9_goHandle_8 rfl cls_X9 (by decide) rfl fl_X9_27 rfl ⟨rfl, "", Or.inr ⟨_, rfl⟩⟩ ?_
  refine Runs.iload_n (j := 1) dX9_goHandle_11 rfl ?_
  refine Runs.iald dX9_goHandle_12 rfl h1 h2 ?_
  refine Runs.bipush dX9_goHandle_13 (by decide) (by decide) ?_
  refine Runs.icmp_ge (tgt := 22) dX9_goHandle_15 (by decide) (fun h => ?_) (fun h => ?_)
  · refine Runs.picks (loc' := []) [] rfl ?_
    exact k1 h
  · refine Runs.picks (loc' := []) [] rfl ?_
    exact k2 h
theorem kX9_goHandle_18 {X : Scr} {M : Mem} {P : Option AV → Mem → Prop} {xs1 xs2 : Int} (k : Runs X mX9_goHandle 23 [] [vi (1 : Int), vi xs2, vi xs1, vr 309] M P) : Runs X mX9_goHandle 18 [] [vi xs2, vi xs1, vr 309] M P := by
  refine Runs.iconst dX9_goHandle_18 (by decide) ?_
  refine Runs.goto (tgt := 23) dX9_goHandle_19 (by decide) ?_
  exact k
theorem kX9_goHandle_22 {X : Scr} {M : Mem} {P : Option AV → Mem → Prop} {xs1 xs2 : Int} (k : Runs X mX9_goHandle 23 [] [vi (0 : Int), vi xs2, vi xs1, vr 309] M P) : Runs X mX9_goHandle 22 [] [vi xs2, vi xs1, vr 309] M P := by
  refine Runs.iconst dX9_goHandle_22 (by decide) ?_
  exact k
theorem kX9_goHandle_23 {X : Scr} {M : Mem} {P : Option AV → Mem → Prop} {xs1 xs2 xs3 : Int} (k : P none (up2 M 309 (xs1).toNat (xs2 + xs3))) (h1 : -2147483648 ≤ (xs2 + xs3) ∧ (xs2 + xs3) ≤ 2147483647 := by omega) (h2 : 0 ≤ xs1 := by omega) (h3 : xs1 < ((10 : Nat) : Int) := by omega) : Runs X mX9_goHandle 23 [] [vi xs3, vi xs2, vi xs1, vr 309] M P := by
  refine Runs.iadd dX9_goHandle_23 h1 ?_
  refine Runs.iast dX9_goHandle_24 rfl h2 h3 ?_
  exact Runs.ret0 dX9_goHandle_25 rfl k
theorem kX9_handle_0 {X : Scr} {M : Mem} {P Q : Option AV → Mem → Prop} {x1 : Int} (hC : Call X mX9_noTooth [vr 200, vi x1] (up2 M 200 0 (0 : Int)) Q) (k : ∀ (z : Int) (M1 : Mem), Q (some (vi z)) M1 → Runs X mX9_handle 10 [(0, vr 200), (1, vi x1)] [vi z] M1 P) : Runs X mX9_handle 0 [(0, vr 200), (1, vi x1)] [] M P := by
  refine Runs.aload_n (j := 0) dX9_handle_0 rfl ?_
  refine Runs.iconst dX9_handle_1 (by decide) ?_
  refine Runs.puti (ci := 9) (j := 0) (C := RX9) (T := TX9) (N := 48) dX9_handle_2 rfl cls_X9 (by decide) rfl fl_X9_108 rfl rfl ?_
  refine Runs.aload_n (j := 0) dX9_handle_5 rfl ?_
  refine Runs.iload_n (j := 1) dX9_handle_6 rfl ?_
  refine Runs.callVi (y := mX9_noTooth) (n := 1) (as := [vi x1]) (st := []) (q := (RX9, TX9, 48)) dX9_handle_7 oc_X9_noTooth im_X9_noTooth se_X9_noTooth ml_X9_178 rfl ⟨(Nat.le_of_ble_eq_true rfl), (Nat.le_of_ble_eq_true rfl)⟩ (Nat.le_of_ble_eq_true rfl) (Nat.le_of_ble_eq_true rfl) rfl rfl rfl (Or.inr rfl) hC (fun z M1 hQ => ?_)
  exact k z M1 hQ
theorem kX9_handle_10 {X : Scr} {M : Mem} {P : Option AV → Mem → Prop} {x1 xs0 : Int} (k1 : xs0 = 0 → Runs X mX9_handle 15 [(0, vr 200), (1, vi x1)] [] M P) (k2 : xs0 ≠ 0 → Runs X mX9_handle 13 [] [] M P) : Runs X mX9_handle 10 [(0, vr 200), (1, vi x1)] [vi xs0] M P := by
  refine Runs.if_eq (tgt := 15) dX9_handle_10 (by decide) (fun h => ?_) (fun h => ?_)
  · exact k1 h
  · refine Runs.picks (loc' := []) [] rfl ?_
    exact k2 h
theorem kX9_handle_13 {X : Scr} {M : Mem} {P : Option AV → Mem → Prop} (k : P (some (vi (-1 : Int))) M) : Runs X mX9_handle 13 [] [] M P := by
  refine Runs.iconst dX9_handle_13 (by decide) ?_
  exact Runs.reti dX9_handle_14 rfl k
theorem kX9_handle_15 {X : Scr} {M : Mem} {P Q : Option AV → Mem → Prop} {x1 : Int} (hC : Call X mX9_goHandle [vr 200, vi x1] M Q) (k : ∀ (M1 : Mem), Q none M1 → Runs X mX9_handle 20 [(0, vr 200), (1, vi x1)] [] M1 P) : Runs X mX9_handle 15 [(0, vr 200), (1, vi x1)] [] M P := by
  refine Runs.aload_n (j := 0) dX9_handle_15 rfl ?_
  refine Runs.iload_n (j := 1) dX9_handle_16 rfl ?_
  refine Runs.callVv (y := mX9_goHandle) (n := 1) (as := [vi x1]) (st := []) (q := (RX9, TX9, 48)) dX9_handle_17 oc_X9_goHandle im_X9_goHandle se_X9_goHandle ml_X9_199 rfl ⟨(Nat.le_of_ble_eq_true rfl), (Nat.le_of_ble_eq_true rfl)⟩ (Nat.le_of_ble_eq_true rfl) (Nat.le_of_ble_eq_true rfl) rfl rfl rfl rfl hC (fun M1 hQ => ?_)
  exact k M1 hQ
theorem kX9_handle_20 {X : Scr} {M : Mem} {P Q : Option AV → Mem → Prop} {x1 : Int} (hC : Call X mX9_worth [vr 200, vi x1] M Q) (k : ∀ (z : Int) (M1 : Mem), Q (some (vi z)) M1 → Runs X mX9_handle 25 [] [vi z] M1 P) : Runs X mX9_handle 20 [(0, vr 200), (1, vi x1)] [] M P := by
  refine Runs.aload_n (j := 0) dX9_handle_20 rfl ?_
  refine Runs.iload_n (j := 1) dX9_handle_21 rfl ?_
  refine Runs.callVi (y := mX9_worth) (n := 1) (as := [vi x1]) (st := []) (q := (RX9, TX9, 48)) dX9_handle_22 oc_X9_worth im_X9_worth se_X9_worth ml_X9_182 rfl ⟨(Nat.le_of_ble_eq_true rfl), (Nat.le_of_ble_eq_true rfl)⟩ (Nat.le_of_ble_eq_true rfl) (Nat.le_of_ble_eq_true rfl) rfl rfl rfl (Or.inl rfl) hC (fun z M1 hQ => ?_)
  refine Runs.picks (loc' := []) [] rfl ?_
  exact k z M1 hQ
theorem kX9_handle_25 {X : Scr} {M : Mem} {P : Option AV → Mem → Prop} {xs0 : Int} (k : P (some (vi xs0)) M) : Runs X mX9_handle 25 [] [vi xs0] M P := by
  exact Runs.reti dX9_handle_25 rfl k
theorem kX9_bite_0 {X : Scr} {M : Mem} {P Q : Option AV → Mem → Prop} {x1 : Int} (hC : Call X mX9_noTooth [vr 200, vi x1] (up2 M 200 0 (0 : Int)) Q) (k : ∀ (z : Int) (M1 : Mem), Q (some (vi z)) M1 → Runs X mX9_bite 10 [(0, vr 200), (1, vi x1)] [vi z] M1 P) : Runs X mX9_bite 0 [(0, vr 200), (1, vi x1)] [] M P := by
  refine Runs.aload_n (j := 0) dX9_bite_0 rfl ?_
  refine Runs.iconst dX9_bite_1 (by decide) ?_
  refine Runs.puti (ci := 9) (j := 0) (C := RX9) (T := TX9) (N := 48) dX9_bite_2 rfl cls_X9 (by decide) rfl fl_X9_108 rfl rfl ?_
  refine Runs.aload_n (j := 0) dX9_bite_5 rfl ?_
  refine Runs.iload_n (j := 1) dX9_bite_6 rfl ?_
  refine Runs.callVi (y := mX9_noTooth) (n := 1) (as := [vi x1]) (st := []) (q := (RX9, TX9, 48)) dX9_bite_7 oc_X9_noTooth im_X9_noTooth se_X9_noTooth ml_X9_178 rfl ⟨(Nat.le_of_ble_eq_true rfl), (Nat.le_of_ble_eq_true rfl)⟩ (Nat.le_of_ble_eq_true rfl) (Nat.le_of_ble_eq_true rfl) rfl rfl rfl (Or.inr rfl) hC (fun z M1 hQ => ?_)
  exact k z M1 hQ
theorem kX9_bite_10 {X : Scr} {M : Mem} {P : Option AV → Mem → Prop} {x1 xs0 : Int} (k1 : xs0 = 0 → Runs X mX9_bite 15 [(0, vr 200), (1, vi x1)] [] M P) (k2 : xs0 ≠ 0 → Runs X mX9_bite 13 [] [] M P) : Runs X mX9_bite 10 [(0, vr 200), (1, vi x1)] [vi xs0] M P := by
  refine Runs.if_eq (tgt := 15) dX9_bite_10 (by decide) (fun h => ?_) (fun h => ?_)
  · exact k1 h
  · refine Runs.picks (loc' := []) [] rfl ?_
    exact k2 h
theorem kX9_bite_13 {X : Scr} {M : Mem} {P : Option AV → Mem → Prop} (k : P (some (vi (-1 : Int))) M) : Runs X mX9_bite 13 [] [] M P := by
  refine Runs.iconst dX9_bite_13 (by decide) ?_
  exact Runs.reti dX9_bite_14 rfl k
theorem kX9_bite_15 {X : Scr} {M : Mem} {P : Option AV → Mem → Prop} {x1 : Int} (k1 : (M 307 (x1).toNat) ≠ (1 : Int) → Runs X mX9_bite 28 [(0, vr 200), (1, vi x1)] [] M P) (k2 : (M 307 (x1).toNat) = (1 : Int) → Runs X mX9_bite 25 [] [] M P) (h1 : 0 ≤ x1 := by omega) (h2 : x1 < ((10 : Nat) : Int) := by omega) : Runs X mX9_bite 15 [(0, vr 200), (1, vi x1)] [] M P := by
  refine Runs.aload_n (j := 0) dX9_bite_15 rfl ?_
  refine Runs.getr (o' := 307) (ci := 9) (j := 7) (C := RX9) (T := TX9) (N := 48) dX9_bite_16 rfl cls_X9 (by decide) rfl fl_X9_20 rfl ⟨rfl, "", Or.inr ⟨_, rfl⟩⟩ ?_
  refine Runs.iload_n (j := 1) dX9_bite_19 rfl ?_
  refine Runs.iald dX9_bite_20 rfl h1 h2 ?_
  refine Runs.iconst dX9_bite_21 (by decide) ?_
  refine Runs.icmp_ne (tgt := 28) dX9_bite_22 (by decide) (fun h => ?_) (fun h => ?_)
  · exact k1 h
  · refine Runs.picks (loc' := []) [] rfl ?_
    exact k2 h
theorem kX9_bite_25 {X : Scr} {M : Mem} {P : Option AV → Mem → Prop} (k : P (some (vi (-3 : Int))) M) : Runs X mX9_bite 25 [] [] M P := by
  refine Runs.bipush dX9_bite_25 (by decide) (by decide) ?_
  exact Runs.reti dX9_bite_27 rfl k
theorem kX9_bite_28 {X : Scr} {M : Mem} {P Q : Option AV → Mem → Prop} {x1 : Int} (hC : Call X mX9_worth [vr 200, vi x1] (up2 (up2 M 307 (x1).toNat ((M 307 (x1).toNat) - (1 : Int))) 309 (x1).toNat (0 : Int)) Q) (k : ∀ (z : Int) (M1 : Mem), Q (some (vi z)) M1 → Runs X mX9_bite 50 [] [vi z] M1 P) (h1 : 0 ≤ x1 := by omega) (h2 : x1 < ((10 : Nat) : Int) := by omega) (h3 : -2147483648 ≤ ((M 307 (x1).toNat) - (1 : Int)) ∧ ((M 307 (x1).toNat) - (1 : Int)) ≤ 2147483647 := by omega) : Runs X mX9_bite 28 [(0, vr 200), (1, vi x1)] [] M P := by
  refine Runs.aload_n (j := 0) dX9_bite_28 rfl ?_
  refine Runs.getr (o' := 307) (ci := 9) (j := 7) (C := RX9) (T := TX9) (N := 48) dX9_bite_29 rfl cls_X9 (by decide) rfl fl_X9_20 rfl ⟨rfl, "", Or.inr ⟨_, rfl⟩⟩ ?_
  refine Runs.iload_n (j := 1) dX9_bite_32 rfl ?_
  refine Runs.dup2 dX9_bite_33 (by intro z h; cases h) (by intro z h; cases h) ?_
  refine Runs.iald dX9_bite_34 rfl h1 h2 ?_
  refine Runs.iconst dX9_bite_35 (by decide) ?_
  refine Runs.isub dX9_bite_36 h3 ?_
  refine Runs.iast dX9_bite_37 rfl h1 h2 ?_
  refine Runs.aload_n (j := 0) dX9_bite_38 rfl ?_
  refine Runs.getr (o' := 309) (ci := 9) (j := 9) (C := RX9) (T := TX9) (N := 48) dX9_bite_39 rfl cls_X9 (by decide) rfl fl_X9_27 rfl ⟨rfl, "", Or.inr ⟨_, rfl⟩⟩ ?_
  refine Runs.iload_n (j := 1) dX9_bite_42 rfl ?_
  refine Runs.iconst dX9_bite_43 (by decide) ?_
  refine Runs.iast dX9_bite_44 rfl h1 h2 ?_
  refine Runs.aload_n (j := 0) dX9_bite_45 rfl ?_
  refine Runs.iload_n (j := 1) dX9_bite_46 rfl ?_
  refine Runs.callVi (y := mX9_worth) (n := 1) (as := [vi x1]) (st := []) (q := (RX9, TX9, 48)) dX9_bite_47 oc_X9_worth im_X9_worth se_X9_worth ml_X9_182 rfl ⟨(Nat.le_of_ble_eq_true rfl), (Nat.le_of_ble_eq_true rfl)⟩ (Nat.le_of_ble_eq_true rfl) (Nat.le_of_ble_eq_true rfl) rfl rfl rfl (Or.inl rfl) hC (fun z M1 hQ => ?_)
  refine Runs.picks (loc' := []) [] rfl ?_
  exact k z M1 hQ
theorem kX9_bite_50 {X : Scr} {M : Mem} {P : Option AV → Mem → Prop} {xs0 : Int} (k : P (some (vi xs0)) M) : Runs X mX9_bite 50 [] [vi xs0] M P := by
  exact Runs.reti dX9_bite_50 rfl k
theorem kX9_next_0 {X : Scr} {M : Mem} {P : Option AV → Mem → Prop} {x0 x1 : Int} (k : P (some (vi (zand (x0 - x1) x1))) M) (h1 : -2147483648 ≤ (x0 - x1) ∧ (x0 - x1) ≤ 2147483647 := by omega) : Runs X mX9_next 0 [(0, vi x0), (1, vi x1)] [] M P := by
  refine Runs.iload_n (j := 0) dX9_next_0 rfl ?_
  refine Runs.iload_n (j := 1) dX9_next_1 rfl ?_
  refine Runs.isub dX9_next_2 h1 ?_
  refine Runs.iload_n (j := 1) dX9_next_3 rfl ?_
  refine Runs.iand dX9_next_4 ?_
  exact Runs.reti dX9_next_5 rfl k
theorem kX9_findFewest_0 {X : Scr} {M : Mem} {P Q : Option AV → Mem → Prop} {x1 x2 x3 : Int} (hC : Call X mX9_setOf [vr 200, vi x1] M Q) (k : ∀ (z : Int) (M1 : Mem), Q (some (vi z)) M1 → Runs X mX9_findFewest 5 [(0, vr 200), (2, vi x2), (3, vi x3)] [vi z] M1 P) : Runs X mX9_findFewest 0 [(0, vr 200), (1, vi x1), (2, vi x2), (3, vi x3)] [] M P := by
  refine Runs.aload_n (j := 0) dX9_findFewest_0 rfl ?_
  refine Runs.iload_n (j := 1) dX9_findFewest_1 rfl ?_
  refine Runs.callVi (y := mX9_setOf) (n := 1) (as := [vi x1]) (st := []) (q := (RX9, TX9, 48)) dX9_findFewest_2 oc_X9_setOf im_X9_setOf se_X9_setOf ml_X9_193 rfl ⟨(Nat.le_of_ble_eq_true rfl), (Nat.le_of_ble_eq_true rfl)⟩ (Nat.le_of_ble_eq_true rfl) (Nat.le_of_ble_eq_true rfl) rfl rfl rfl (Or.inl rfl) hC (fun z M1 hQ => ?_)
  refine Runs.picks (loc' := [(0, vr 200), (2, vi x2), (3, vi x3)]) [0, 2, 3] rfl ?_
  exact k z M1 hQ
theorem kX9_findFewest_5 {X : Scr} {M : Mem} {P Q : Option AV → Mem → Prop} {x2 x3 xs0 : Int} (hC : Call X mX9_setOf [vr 200, vi x2] M Q) (k : ∀ (z : Int) (M1 : Mem), Q (some (vi z)) M1 → Runs X mX9_findFewest 12 [(0, vr 200), (3, vi x3), (4, vi xs0)] [vi z] M1 P) : Runs X mX9_findFewest 5 [(0, vr 200), (2, vi x2), (3, vi x3)] [vi xs0] M P := by
  refine Runs.istore (loc' := [(0, vr 200), (2, vi x2), (3, vi x3), (4, vi xs0)]) dX9_findFewest_5 (by decide) rfl ?_
  refine Runs.aload_n (j := 0) dX9_findFewest_7 rfl ?_
  refine Runs.iload_n (j := 1) dX9_findFewest_8 rfl ?_
  refine Runs.callVi (y := mX9_setOf) (n := 1) (as := [vi x2]) (st := []) (q := (RX9, TX9, 48)) dX9_findFewest_9 oc_X9_setOf im_X9_setOf se_X9_setOf ml_X9_193 rfl ⟨(Nat.le_of_ble_eq_true rfl), (Nat.le_of_ble_eq_true rfl)⟩ (Nat.le_of_ble_eq_true rfl) (Nat.le_of_ble_eq_true rfl) rfl rfl rfl (Or.inl rfl) hC (fun z M1 hQ => ?_)
  refine Runs.picks (loc' := [(0, vr 200), (3, vi x3), (4, vi xs0)]) [0, 2, 3] rfl ?_
  exact k z M1 hQ
theorem kX9_findFewest_12 {X : Scr} {M : Mem} {P : Option AV → Mem → Prop} {x3 x4 xs0 : Int} (k : Runs X mX9_findFewest 24 [(0, vr 200), (3, vi x3), (4, vi x4), (5, vi xs0), (6, vi (-9 : Int)), (7, vi (0 : Int)), (8, vi (1 : Int))] [] M P) : Runs X mX9_findFewest 12 [(0, vr 200), (3, vi x3), (4, vi x4)] [vi xs0] M P := by
  refine Runs.istore (loc' := [(0, vr 200), (3, vi x3), (4, vi x4), (5, vi xs0)]) dX9_findFewest_12 (by decide) rfl ?_
  refine Runs.bipush dX9_findFewest_14 (by decide) (by decide) ?_
  refine Runs.istore (loc' := [(0, vr 200), (3, vi x3), (4, vi x4), (5, vi xs0), (6, vi (-9 : Int))]) dX9_findFewest_16 (by decide) rfl ?_
  refine Runs.iconst dX9_findFewest_18 (by decide) ?_
  refine Runs.istore (loc' := [(0, vr 200), (3, vi x3), (4, vi x4), (5, vi xs0), (6, vi (-9 : Int)), (7, vi (0 : Int))]) dX9_findFewest_19 (by decide) rfl ?_
  refine Runs.iconst dX9_findFewest_21 (by decide) ?_
  refine Runs.istore (loc' := [(0, vr 200), (3, vi x3), (4, vi x4), (5, vi xs0), (6, vi (-9 : Int)), (7, vi (0 : Int)), (8, vi (1 : Int))]) dX9_findFewest_22 (by decide) rfl ?_
  exact k
theorem kX9_findFewest_24 {X : Scr} {M : Mem} {P : Option AV → Mem → Prop} {x3 x4 x5 x6 x7 x8 : Int} (k1 : x8 = 0 → Runs X mX9_findFewest 161 [(6, vi x6)] [] M P) (k2 : x8 ≠ 0 → Runs X mX9_findFewest 29 [(0, vr 200), (3, vi x3), (4, vi x4), (5, vi x5), (6, vi x6), (7, vi x7)] [] M P) : Runs X mX9_findFewest 24 [(0, vr 200), (3, vi x3), (4, vi x4), (5, vi x5), (6, vi x6), (7, vi x7), (8, vi x8)] [] M P := by
  refine Runs.iload (j := 6) dX9_findFewest_24 rfl ?_
  refine Runs.if_eq (tgt := 161) dX9_findFewest_26 (by decide) (fun h => ?_) (fun h => ?_)
  · refine Runs.picks (loc' := [(6, vi x6)]) [4] rfl ?_
    exact k1 h
  · refine Runs.picks (loc' := [(0, vr 200), (3, vi x3), (4, vi x4), (5, vi x5), (6, vi x6), (7, vi x7)]) [0, 1, 2, 3, 4, 5] rfl ?_
    exact k2 h
theorem kX9_findFewest_29 {X : Scr} {M : Mem} {P Q : Option AV → Mem → Prop} {x3 x4 x5 x6 x7 : Int} (hC : Call X mX9_worthOf [vr 200, vi x7] M Q) (k : ∀ (z : Int) (M1 : Mem), Q (some (vi z)) M1 → Runs X mX9_findFewest 35 [(0, vr 200), (3, vi x3), (4, vi x4), (5, vi x5), (6, vi x6), (7, vi x7)] [vi z] M1 P) : Runs X mX9_findFewest 29 [(0, vr 200), (3, vi x3), (4, vi x4), (5, vi x5), (6, vi x6), (7, vi x7)] [] M P := by
  refine Runs.aload_n (j := 0) dX9_findFewest_29 rfl ?_
  refine Runs.iload (j := 5) dX9_findFewest_30 rfl ?_
  refine Runs.callVi (y := mX9_worthOf) (n := 1) (as := [vi x7]) (st := []) (q := (RX9, TX9, 48)) dX9_findFewest_32 oc_X9_worthOf im_X9_worthOf se_X9_worthOf ml_X9_196 rfl ⟨(Nat.le_of_ble_eq_true rfl), (Nat.le_of_ble_eq_true rfl)⟩ (Nat.le_of_ble_eq_true rfl) (Nat.le_of_ble_eq_true rfl) rfl rfl rfl (Or.inl rfl) hC (fun z M1 hQ => ?_)
  exact k z M1 hQ
theorem kX9_findFewest_35 {X : Scr} {M : Mem} {P : Option AV → Mem → Prop} {x3 x4 x5 x6 x7 xs0 : Int} (k1 : (xs0 - x3) < 0 → Runs X mX9_findFewest 51 [(0, vr 200), (3, vi x3), (4, vi x4), (5, vi x5), (6, vi x6), (7, vi x7), (9, vi (xs0 - x3)), (10, vi (0 : Int))] [] M P) (k2 : 0 ≤ (xs0 - x3) → Runs X mX9_findFewest 47 [(0, vr 200), (3, vi x3), (4, vi x4), (5, vi x5), (6, vi x6), (7, vi x7), (9, vi (xs0 - x3)), (10, vi (0 : Int))] [] M P) (h1 : -2147483648 ≤ (xs0 - x3) ∧ (xs0 - x3) ≤ 2147483647 := by omega) : Runs X mX9_findFewest 35 [(0, vr 200), (3, vi x3), (4, vi x4), (5, vi x5), (6, vi x6), (7, vi x7)] [vi xs0] M P := by
  refine Runs.iload_n (j := 1) dX9_findFewest_35 rfl ?_
  refine Runs.isub dX9_findFewest_36 h1 ?_
  refine Runs.istore (loc' := [(0, vr 200), (3, vi x3), (4, vi x4), (5, vi x5), (6, vi x6), (7, vi x7), (9, vi (xs0 - x3))]) dX9_findFewest_37 (by decide) rfl ?_
  refine Runs.iconst dX9_findFewest_39 (by decide) ?_
  refine Runs.istore (loc' := [(0, vr 200), (3, vi x3), (4, vi x4), (5, vi x5), (6, vi x6), (7, vi x7), (9, vi (xs0 - x3)), (10, vi (0 : Int))]) dX9_findFewest_40 (by decide) rfl ?_
  refine Runs.iload (j := 6) dX9_findFewest_42 rfl ?_
  refine Runs.if_lt (tgt := 51) dX9_findFewest_44 (by decide) (fun h => ?_) (fun h => ?_)
  · exact k1 h
  · exact k2 h
theorem kX9_findFewest_47 {X : Scr} {M : Mem} {P : Option AV → Mem → Prop} {x3 x4 x5 x6 x7 x9 x10 : Int} (k : Runs X mX9_findFewest 52 [(0, vr 200), (3, vi x3), (4, vi x4), (5, vi x5), (6, vi x6), (7, vi x7), (9, vi x9), (10, vi x10)] [vi (1 : Int)] M P) : Runs X mX9_findFewest 47 [(0, vr 200), (3, vi x3), (4, vi x4), (5, vi x5), (6, vi x6), (7, vi x7), (9, vi x9), (10, vi x10)] [] M P := by
  refine Runs.iconst dX9_findFewest_47 (by decide) ?_
  refine Runs.goto (tgt := 52) dX9_findFewest_48 (by decide) ?_
  exact k
theorem kX9_findFewest_51 {X : Scr} {M : Mem} {P : Option AV → Mem → Prop} {x3 x4 x5 x6 x7 x9 x10 : Int} (k : Runs X mX9_findFewest 52 [(0, vr 200), (3, vi x3), (4, vi x4), (5, vi x5), (6, vi x6), (7, vi x7), (9, vi x9), (10, vi x10)] [vi (0 : Int)] M P) : Runs X mX9_findFewest 51 [(0, vr 200), (3, vi x3), (4, vi x4), (5, vi x5), (6, vi x6), (7, vi x7), (9, vi x9), (10, vi x10)] [] M P := by
  refine Runs.iconst dX9_findFewest_51 (by decide) ?_
  exact k
theorem kX9_findFewest_52 {X : Scr} {M : Mem} {P : Option AV → Mem → Prop} {x3 x4 x5 x6 x7 x9 x10 xs0 : Int} (k : Runs X mX9_findFewest 54 [(0, vr 200), (3, vi x3), (4, vi x4), (5, vi x5), (6, vi x6), (7, vi x7), (9, vi x9), (10, vi x10), (11, vi xs0)] [] M P) : Runs X mX9_findFewest 52 [(0, vr 200), (3, vi x3), (4, vi x4), (5, vi x5), (6, vi x6), (7, vi x7), (9, vi x9), (10, vi x10)] [vi xs0] M P := by
  refine Runs.istore (loc' := [(0, vr 200), (3, vi x3), (4, vi x4), (5, vi x5), (6, vi x6), (7, vi x7), (9, vi x9), (10, vi x10), (11, vi xs0)]) dX9_findFewest_52 (by decide) rfl ?_
  exact k
theorem kX9_findFewest_54 {X : Scr} {M : Mem} {P : Option AV → Mem → Prop} {x3 x4 x5 x6 x7 x9 x10 x11 : Int} (k1 : x11 = 0 → Runs X mX9_findFewest 137 [(0, vr 200), (3, vi x3), (4, vi x4), (5, vi x5), (6, vi x6), (7, vi x7)] [] M P) (k2 : x11 ≠ 0 → Runs X mX9_findFewest 59 [(0, vr 200), (3, vi x3), (4, vi x4), (5, vi x5), (6, vi x6), (7, vi x7), (9, vi x9), (10, vi x10)] [] M P) : Runs X mX9_findFewest 54 [(0, vr 200), (3, vi x3), (4, vi x4), (5, vi x5), (6, vi x6), (7, vi x7), (9, vi x9), (10, vi x10), (11, vi x11)] [] M P := by
  refine Runs.iload (j := 8) dX9_findFewest_54 rfl ?_
  refine Runs.if_eq (tgt := 137) dX9_findFewest_56 (by decide) (fun h => ?_) (fun h => ?_)
  · refine Runs.picks (loc' := [(0, vr 200), (3, vi x3), (4, vi x4), (5, vi x5), (6, vi x6), (7, vi x7)]) [0, 1, 2, 3, 4, 5] rfl ?_
    exact k1 h
  · refine Runs.picks (loc' := [(0, vr 200), (3, vi x3), (4, vi x4), (5, vi x5), (6, vi x6), (7, vi x7), (9, vi x9), (10, vi x10)]) [0, 1, 2, 3, 4, 5, 6, 7] rfl ?_
    exact k2 h
theorem kX9_findFewest_59 {X : Scr} {M : Mem} {P Q : Option AV → Mem → Prop} {x3 x4 x5 x6 x7 x9 x10 : Int} (hC : Call X mX9_many [vi x7] M Q) (k : ∀ (z : Int) (M1 : Mem), Q (some (vi z)) M1 → Runs X mX9_findFewest 64 [(0, vr 200), (3, vi x3), (4, vi x4), (5, vi x5), (6, vi x6), (7, vi x7), (9, vi x9), (10, vi x10)] [vi z] M1 P) : Runs X mX9_findFewest 59 [(0, vr 200), (3, vi x3), (4, vi x4), (5, vi x5), (6, vi x6), (7, vi x7), (9, vi x9), (10, vi x10)] [] M P := by
  refine Runs.iload (j := 5) dX9_findFewest_59 rfl ?_
  refine Runs.callSi (y := mX9_many) (n := 1) (as := [vi x7]) (st := []) dX9_findFewest_61 oc_X9_many sm_X9_many ml_X9_202 rfl ⟨(Nat.le_of_ble_eq_true rfl), (Nat.le_of_ble_eq_true rfl)⟩ (Nat.le_of_ble_eq_true rfl) (Nat.le_of_ble_eq_true rfl) (Or.inl rfl) hC (fun z M1 hQ => ?_)
  exact k z M1 hQ
theorem kX9_findFewest_64 {X : Scr} {M : Mem} {P Q : Option AV → Mem → Prop} {x3 x4 x5 x6 x7 x9 x10 xs0 : Int} (hC : Call X mX9_many [vi x10] M Q) (k : ∀ (z : Int) (M1 : Mem), Q (some (vi z)) M1 → Runs X mX9_findFewest 69 [(0, vr 200), (3, vi x3), (4, vi x4), (5, vi x5), (6, vi x6), (7, vi x7), (9, vi x9), (10, vi x10)] [vi z, vi xs0] M1 P) : Runs X mX9_findFewest 64 [(0, vr 200), (3, vi x3), (4, vi x4), (5, vi x5), (6, vi x6), (7, vi x7), (9, vi x9), (10, vi x10)] [vi xs0] M P := by
  refine Runs.iload (j := 7) dX9_findFewest_64 rfl ?_
  refine Runs.callSi (y := mX9_many) (n := 1) (as := [vi x10]) (st := [vi xs0]) dX9_findFewest_66 oc_X9_many sm_X9_many ml_X9_202 rfl ⟨(Nat.le_of_ble_eq_true rfl), (Nat.le_of_ble_eq_true rfl)⟩ (Nat.le_of_ble_eq_true rfl) (Nat.le_of_ble_eq_true rfl) (Or.inl rfl) hC (fun z M1 hQ => ?_)
  exact k z M1 hQ
theorem kX9_findFewest_69 {X : Scr} {M : Mem} {P Q : Option AV → Mem → Prop} {x3 x4 x5 x6 x7 x9 x10 xs0 xs1 : Int} (hC : Call X mX9_worthOf [vr 200, vi x10] M Q) (k : ∀ (z : Int) (M1 : Mem), Q (some (vi z)) M1 → Runs X mX9_findFewest 78 [(0, vr 200), (3, vi x3), (4, vi x4), (5, vi x5), (6, vi x6), (7, vi x7), (9, vi x9), (10, vi x10), (12, vi (xs0 + xs1))] [vi z] M1 P) (h1 : -2147483648 ≤ (xs0 + xs1) ∧ (xs0 + xs1) ≤ 2147483647 := by omega) : Runs X mX9_findFewest 69 [(0, vr 200), (3, vi x3), (4, vi x4), (5, vi x5), (6, vi x6), (7, vi x7), (9, vi x9), (10, vi x10)] [vi xs1, vi xs0] M P := by
  refine Runs.iadd dX9_findFewest_69 h1 ?_
  refine Runs.istore (loc' := [(0, vr 200), (3, vi x3), (4, vi x4), (5, vi x5), (6, vi x6), (7, vi x7), (9, vi x9), (10, vi x10), (12, vi (xs0 + xs1))]) dX9_findFewest_70 (by decide) rfl ?_
  refine Runs.aload_n (j := 0) dX9_findFewest_72 rfl ?_
  refine Runs.iload (j := 7) dX9_findFewest_73 rfl ?_
  refine Runs.callVi (y := mX9_worthOf) (n := 1) (as := [vi x10]) (st := []) (q := (RX9, TX9, 48)) dX9_findFewest_75 oc_X9_worthOf im_X9_worthOf se_X9_worthOf ml_X9_196 rfl ⟨(Nat.le_of_ble_eq_true rfl), (Nat.le_of_ble_eq_true rfl)⟩ (Nat.le_of_ble_eq_true rfl) (Nat.le_of_ble_eq_true rfl) rfl rfl rfl (Or.inl rfl) hC (fun z M1 hQ => ?_)
  exact k z M1 hQ
theorem kX9_findFewest_78 {X : Scr} {M : Mem} {P : Option AV → Mem → Prop} {x3 x4 x5 x6 x7 x9 x10 x12 xs0 : Int} (k1 : xs0 ≠ x9 → Runs X mX9_findFewest 113 [(0, vr 200), (3, vi x3), (4, vi x4), (5, vi x5), (6, vi x6), (7, vi x7), (9, vi x9), (10, vi x10)] [] M P) (k2 : xs0 = x9 → Runs X mX9_findFewest 83 [(0, vr 200), (3, vi x3), (4, vi x4), (5, vi x5), (6, vi x6), (7, vi x7), (9, vi x9), (10, vi x10), (12, vi x12)] [] M P) : Runs X mX9_findFewest 78 [(0, vr 200), (3, vi x3), (4, vi x4), (5, vi x5), (6, vi x6), (7, vi x7), (9, vi x9), (10, vi x10), (12, vi x12)] [vi xs0] M P := by
  refine Runs.iload (j := 6) dX9_findFewest_78 rfl ?_
  refine Runs.icmp_ne (tgt := 113) dX9_findFewest_80 (by decide) (fun h => ?_) (fun h => ?_)
  · refine Runs.picks (loc' := [(0, vr 200), (3, vi x3), (4, vi x4), (5, vi x5), (6, vi x6), (7, vi x7), (9, vi x9), (10, vi x10)]) [0, 1, 2, 3, 4, 5, 6, 7] rfl ?_
    exact k1 h
  · exact k2 h
theorem kX9_findFewest_83 {X : Scr} {M : Mem} {P : Option AV → Mem → Prop} {x3 x4 x5 x6 x7 x9 x10 x12 : Int} (k1 : x6 = (-9 : Int) → Runs X mX9_findFewest 97 [(0, vr 200), (3, vi x3), (4, vi x4), (5, vi x5), (7, vi x7), (9, vi x9), (10, vi x10), (12, vi x12)] [] M P) (k2 : x6 ≠ (-9 : Int) → Runs X mX9_findFewest 90 [(0, vr 200), (3, vi x3), (4, vi x4), (5, vi x5), (6, vi x6), (7, vi x7), (9, vi x9), (10, vi x10), (12, vi x12)] [] M P) : Runs X mX9_findFewest 83 [(0, vr 200), (3, vi x3), (4, vi x4), (5, vi x5), (6, vi x6), (7, vi x7), (9, vi x9), (10, vi x10), (12, vi x12)] [] M P := by
  refine Runs.iload (j := 4) dX9_findFewest_83 rfl ?_
  refine Runs.bipush dX9_findFewest_85 (by decide) (by decide) ?_
  refine Runs.icmp_eq (tgt := 97) dX9_findFewest_87 (by decide) (fun h => ?_) (fun h => ?_)
  · refine Runs.picks (loc' := [(0, vr 200), (3, vi x3), (4, vi x4), (5, vi x5), (7, vi x7), (9, vi x9), (10, vi x10), (12, vi x12)]) [0, 1, 2, 3, 5, 6, 7, 8] rfl ?_
    exact k1 h
  · exact k2 h
theorem kX9_findFewest_90 {X : Scr} {M : Mem} {P : Option AV → Mem → Prop} {x3 x4 x5 x6 x7 x9 x10 x12 : Int} (k1 : x6 ≤ x12 → Runs X mX9_findFewest 113 [(0, vr 200), (3, vi x3), (4, vi x4), (5, vi x5), (6, vi x6), (7, vi x7), (9, vi x9), (10, vi x10)] [] M P) (k2 : x12 < x6 → Runs X mX9_findFewest 97 [(0, vr 200), (3, vi x3), (4, vi x4), (5, vi x5), (7, vi x7), (9, vi x9), (10, vi x10), (12, vi x12)] [] M P) : Runs X mX9_findFewest 90 [(0, vr 200), (3, vi x3), (4, vi x4), (5, vi x5), (6, vi x6), (7, vi x7), (9, vi x9), (10, vi x10), (12, vi x12)] [] M P := by
  refine Runs.iload (j := 8) dX9_findFewest_90 rfl ?_
  refine Runs.iload (j := 4) dX9_findFewest_92 rfl ?_
  refine Runs.icmp_ge (tgt := 113) dX9_findFewest_94 (by decide) (fun h => ?_) (fun h => ?_)
  · refine Runs.picks (loc' := [(0, vr 200), (3, vi x3), (4, vi x4), (5, vi x5), (6, vi x6), (7, vi x7), (9, vi x9), (10, vi x10)]) [0, 1, 2, 3, 4, 5, 6, 7] rfl ?_
    exact k1 h
  · refine Runs.picks (loc' := [(0, vr 200), (3, vi x3), (4, vi x4), (5, vi x5), (7, vi x7), (9, vi x9), (10, vi x10), (12, vi x12)]) [0, 1, 2, 3, 5, 6, 7, 8] rfl ?_
    exact k2 h
theorem kX9_findFewest_97 {X : Scr} {M : Mem} {P : Option AV → Mem → Prop} {x3 x4 x5 x7 x9 x10 x12 : Int} (k : Runs X mX9_findFewest 113 [(0, vr 200), (3, vi x3), (4, vi x4), (5, vi x5), (6, vi x12), (7, vi x7), (9, vi x9), (10, vi x10)] [] (up2 (up2 M 200 39 x7) 200 40 x10) P) : Runs X mX9_findFewest 97 [(0, vr 200), (3, vi x3), (4, vi x4), (5, vi x5), (7, vi x7), (9, vi x9), (10, vi x10), (12, vi x12)] [] M P := by
  refine Runs.iload (j := 7) dX9_findFewest_97 rfl ?_
  refine Runs.istore (loc' := [(0, vr 200), (3, vi x3), (4, vi x4), (5, vi x5), (6, vi x12), (7, vi x7), (9, vi x9), (10, vi x10), (12, vi x12)]) dX9_findFewest_99 (by decide) rfl ?_
  refine Runs.aload_n (j := 0) dX9_findFewest_101 rfl ?_
  refine Runs.iload (j := 5) dX9_findFewest_102 rfl ?_
  refine Runs.puti (ci := 9) (j := 39) (C := RX9) (T := TX9) (N := 48) dX9_findFewest_104 rfl cls_X9 (by decide) rfl fl_X9_205 rfl rfl ?_
  refine Runs.aload_n (j := 0) dX9_findFewest_107 rfl ?_
  refine Runs.iload (j := 7) dX9_findFewest_108 rfl ?_
  refine Runs.puti (ci := 9) (j := 40) (C := RX9) (T := TX9) (N := 48) dX9_findFewest_110 rfl cls_X9 (by decide) rfl fl_X9_208 rfl rfl ?_
  refine Runs.picks (loc' := [(0, vr 200), (3, vi x3), (4, vi x4), (5, vi x5), (6, vi x12), (7, vi x7), (9, vi x9), (10, vi x10)]) [0, 1, 2, 3, 4, 5, 6, 7] rfl ?_
  exact k
theorem kX9_findFewest_113 {X : Scr} {M : Mem} {P Q : Option AV → Mem → Prop} {x3 x4 x5 x6 x7 x9 x10 : Int} (hC : Call X mX9_next [vi x10, vi x5] M Q) (k : ∀ (z : Int) (M1 : Mem), Q (some (vi z)) M1 → Runs X mX9_findFewest 120 [(0, vr 200), (3, vi x3), (4, vi x4), (5, vi x5), (6, vi x6), (7, vi x7), (9, vi x9)] [vi z] M1 P) : Runs X mX9_findFewest 113 [(0, vr 200), (3, vi x3), (4, vi x4), (5, vi x5), (6, vi x6), (7, vi x7), (9, vi x9), (10, vi x10)] [] M P := by
  refine Runs.iload (j := 7) dX9_findFewest_113 rfl ?_
  refine Runs.iload (j := 3) dX9_findFewest_115 rfl ?_
  refine Runs.callSi (y := mX9_next) (n := 2) (as := [vi x10, vi x5]) (st := []) dX9_findFewest_117 oc_X9_next sm_X9_next ml_X9_211 rfl ⟨(Nat.le_of_ble_eq_true rfl), (Nat.le_of_ble_eq_true rfl)⟩ (Nat.le_of_ble_eq_true rfl) (Nat.le_of_ble_eq_true rfl) (Or.inl rfl) hC (fun z M1 hQ => ?_)
  refine Runs.picks (loc' := [(0, vr 200), (3, vi x3), (4, vi x4), (5, vi x5), (6, vi x6), (7, vi x7), (9, vi x9)]) [0, 1, 2, 3, 4, 5, 6] rfl ?_
  exact k z M1 hQ
theorem kX9_findFewest_120 {X : Scr} {M : Mem} {P : Option AV → Mem → Prop} {x3 x4 x5 x6 x7 x9 xs0 : Int} (k1 : xs0 = 0 → Runs X mX9_findFewest 131 [(0, vr 200), (3, vi x3), (4, vi x4), (5, vi x5), (6, vi x6), (7, vi x7), (9, vi x9), (10, vi xs0)] [] M P) (k2 : xs0 ≠ 0 → Runs X mX9_findFewest 127 [(0, vr 200), (3, vi x3), (4, vi x4), (5, vi x5), (6, vi x6), (7, vi x7), (9, vi x9), (10, vi xs0)] [] M P) : Runs X mX9_findFewest 120 [(0, vr 200), (3, vi x3), (4, vi x4), (5, vi x5), (6, vi x6), (7, vi x7), (9, vi x9)] [vi xs0] M P := by
  refine Runs.istore (loc' := [(0, vr 200), (3, vi x3), (4, vi x4), (5, vi x5), (6, vi x6), (7, vi x7), (9, vi x9), (10, vi xs0)]) dX9_findFewest_120 (by decide) rfl ?_
  refine Runs.iload (j := 7) dX9_findFewest_122 rfl ?_
  refine Runs.if_eq (tgt := 131) dX9_findFewest_124 (by decide) (fun h => ?_) (fun h => ?_)
  · exact k1 h
  · exact k2 h
theorem kX9_findFewest_127 {X : Scr} {M : Mem} {P : Option AV → Mem → Prop} {x3 x4 x5 x6 x7 x9 x10 : Int} (k : Runs X mX9_findFewest 132 [(0, vr 200), (3, vi x3), (4, vi x4), (5, vi x5), (6, vi x6), (7, vi x7), (9, vi x9), (10, vi x10)] [vi (1 : Int)] M P) : Runs X mX9_findFewest 127 [(0, vr 200), (3, vi x3), (4, vi x4), (5, vi x5), (6, vi x6), (7, vi x7), (9, vi x9), (10, vi x10)] [] M P := by
  refine Runs.iconst dX9_findFewest_127 (by decide) ?_
  refine Runs.goto (tgt := 132) dX9_findFewest_128 (by decide) ?_
  exact k
theorem kX9_findFewest_131 {X : Scr} {M : Mem} {P : Option AV → Mem → Prop} {x3 x4 x5 x6 x7 x9 x10 : Int} (k : Runs X mX9_findFewest 132 [(0, vr 200), (3, vi x3), (4, vi x4), (5, vi x5), (6, vi x6), (7, vi x7), (9, vi x9), (10, vi x10)] [vi (0 : Int)] M P) : Runs X mX9_findFewest 131 [(0, vr 200), (3, vi x3), (4, vi x4), (5, vi x5), (6, vi x6), (7, vi x7), (9, vi x9), (10, vi x10)] [] M P := by
  refine Runs.iconst dX9_findFewest_131 (by decide) ?_
  exact k
theorem kX9_findFewest_132 {X : Scr} {M : Mem} {P : Option AV → Mem → Prop} {x3 x4 x5 x6 x7 x9 x10 xs0 : Int} (k : Runs X mX9_findFewest 54 [(0, vr 200), (3, vi x3), (4, vi x4), (5, vi x5), (6, vi x6), (7, vi x7), (9, vi x9), (10, vi x10), (11, vi xs0)] [] M P) : Runs X mX9_findFewest 132 [(0, vr 200), (3, vi x3), (4, vi x4), (5, vi x5), (6, vi x6), (7, vi x7), (9, vi x9), (10, vi x10)] [vi xs0] M P := by
  refine Runs.istore (loc' := [(0, vr 200), (3, vi x3), (4, vi x4), (5, vi x5), (6, vi x6), (7, vi x7), (9, vi x9), (10, vi x10), (11, vi xs0)]) dX9_findFewest_132 (by decide) rfl ?_
  refine Runs.goto (tgt := 54) dX9_findFewest_134 (by decide) ?_
  exact k
theorem kX9_findFewest_137 {X : Scr} {M : Mem} {P Q : Option AV → Mem → Prop} {x3 x4 x5 x6 x7 : Int} (hC : Call X mX9_next [vi x7, vi x4] M Q) (k : ∀ (z : Int) (M1 : Mem), Q (some (vi z)) M1 → Runs X mX9_findFewest 144 [(0, vr 200), (3, vi x3), (4, vi x4), (5, vi x5), (6, vi x6)] [vi z] M1 P) : Runs X mX9_findFewest 137 [(0, vr 200), (3, vi x3), (4, vi x4), (5, vi x5), (6, vi x6), (7, vi x7)] [] M P := by
  refine Runs.iload (j := 5) dX9_findFewest_137 rfl ?_
  refine Runs.iload (j := 2) dX9_findFewest_139 rfl ?_
  refine Runs.callSi (y := mX9_next) (n := 2) (as := [vi x7, vi x4]) (st := []) dX9_findFewest_141 oc_X9_next sm_X9_next ml_X9_211 rfl ⟨(Nat.le_of_ble_eq_true rfl), (Nat.le_of_ble_eq_true rfl)⟩ (Nat.le_of_ble_eq_true rfl) (Nat.le_of_ble_eq_true rfl) (Or.inl rfl) hC (fun z M1 hQ => ?_)
  refine Runs.picks (loc' := [(0, vr 200), (3, vi x3), (4, vi x4), (5, vi x5), (6, vi x6)]) [0, 1, 2, 3, 4] rfl ?_
  exact k z M1 hQ
theorem kX9_findFewest_144 {X : Scr} {M : Mem} {P : Option AV → Mem → Prop} {x3 x4 x5 x6 xs0 : Int} (k1 : xs0 = 0 → Runs X mX9_findFewest 155 [(0, vr 200), (3, vi x3), (4, vi x4), (5, vi x5), (6, vi x6), (7, vi xs0)] [] M P) (k2 : xs0 ≠ 0 → Runs X mX9_findFewest 151 [(0, vr 200), (3, vi x3), (4, vi x4), (5, vi x5), (6, vi x6), (7, vi xs0)] [] M P) : Runs X mX9_findFewest 144 [(0, vr 200), (3, vi x3), (4, vi x4), (5, vi x5), (6, vi x6)] [vi xs0] M P := by
  refine Runs.istore (loc' := [(0, vr 200), (3, vi x3), (4, vi x4), (5, vi x5), (6, vi x6), (7, vi xs0)]) dX9_findFewest_144 (by decide) rfl ?_
  refine Runs.iload (j := 5) dX9_findFewest_146 rfl ?_
  refine Runs.if_eq (tgt := 155) dX9_findFewest_148 (by decide) (fun h => ?_) (fun h => ?_)
  · exact k1 h
  · exact k2 h
theorem kX9_findFewest_151 {X : Scr} {M : Mem} {P : Option AV → Mem → Prop} {x3 x4 x5 x6 x7 : Int} (k : Runs X mX9_findFewest 156 [(0, vr 200), (3, vi x3), (4, vi x4), (5, vi x5), (6, vi x6), (7, vi x7)] [vi (1 : Int)] M P) : Runs X mX9_findFewest 151 [(0, vr 200), (3, vi x3), (4, vi x4), (5, vi x5), (6, vi x6), (7, vi x7)] [] M P := by
  refine Runs.iconst dX9_findFewest_151 (by decide) ?_
  refine Runs.goto (tgt := 156) dX9_findFewest_152 (by decide) ?_
  exact k
theorem kX9_findFewest_155 {X : Scr} {M : Mem} {P : Option AV → Mem → Prop} {x3 x4 x5 x6 x7 : Int} (k : Runs X mX9_findFewest 156 [(0, vr 200), (3, vi x3), (4, vi x4), (5, vi x5), (6, vi x6), (7, vi x7)] [vi (0 : Int)] M P) : Runs X mX9_findFewest 155 [(0, vr 200), (3, vi x3), (4, vi x4), (5, vi x5), (6, vi x6), (7, vi x7)] [] M P := by
  refine Runs.iconst dX9_findFewest_155 (by decide) ?_
  exact k
theorem kX9_findFewest_156 {X : Scr} {M : Mem} {P : Option AV → Mem → Prop} {x3 x4 x5 x6 x7 xs0 : Int} (k : Runs X mX9_findFewest 24 [(0, vr 200), (3, vi x3), (4, vi x4), (5, vi x5), (6, vi x6), (7, vi x7), (8, vi xs0)] [] M P) : Runs X mX9_findFewest 156 [(0, vr 200), (3, vi x3), (4, vi x4), (5, vi x5), (6, vi x6), (7, vi x7)] [vi xs0] M P := by
  refine Runs.istore (loc' := [(0, vr 200), (3, vi x3), (4, vi x4), (5, vi x5), (6, vi x6), (7, vi x7), (8, vi xs0)]) dX9_findFewest_156 (by decide) rfl ?_
  refine Runs.goto (tgt := 24) dX9_findFewest_158 (by decide) ?_
  exact k
theorem kX9_findFewest_161 {X : Scr} {M : Mem} {P : Option AV → Mem → Prop} {x6 : Int} (k : P (some (vi x6)) M) : Runs X mX9_findFewest 161 [(6, vi x6)] [] M P := by
  refine Runs.iload (j := 0) dX9_findFewest_161 rfl ?_
  exact Runs.reti dX9_findFewest_163 rfl k
theorem kX9_noPay_0 {X : Scr} {M : Mem} {P Q : Option AV → Mem → Prop} {x0 x1 x2 : Int} (hC : Call X mX9_noOne [vi x0] M Q) (k : ∀ (z : Int) (M1 : Mem), Q (some (vi z)) M1 → Runs X mX9_noPay 4 [(0, vi x0), (1, vi x1), (2, vi x2)] [vi z] M1 P) : Runs X mX9_noPay 0 [(0, vi x0), (1, vi x1), (2, vi x2)] [] M P := by
  refine Runs.iload_n (j := 0) dX9_noPay_0 rfl ?_
  refine Runs.callSi (y := mX9_noOne) (n := 1) (as := [vi x0]) (st := []) dX9_noPay_1 oc_X9_noOne sm_X9_noOne ml_X9_190 rfl ⟨(Nat.le_of_ble_eq_true rfl), (Nat.le_of_ble_eq_true rfl)⟩ (Nat.le_of_ble_eq_true rfl) (Nat.le_of_ble_eq_true rfl) (Or.inr rfl) hC (fun z M1 hQ => ?_)
  exact k z M1 hQ
theorem kX9_noPay_4 {X : Scr} {M : Mem} {P : Option AV → Mem → Prop} {x0 x1 x2 xs0 : Int} (k1 : xs0 ≠ 0 → Runs X mX9_noPay 14 [] [] M P) (k2 : xs0 = 0 → Runs X mX9_noPay 7 [(0, vi x0), (1, vi x1), (2, vi x2)] [] M P) : Runs X mX9_noPay 4 [(0, vi x0), (1, vi x1), (2, vi x2)] [vi xs0] M P := by
  refine Runs.if_ne (tgt := 14) dX9_noPay_4 (by decide) (fun h => ?_) (fun h => ?_)
  · refine Runs.picks (loc' := []) [] rfl ?_
    exact k1 h
  · exact k2 h
theorem kX9_noPay_7 {X : Scr} {M : Mem} {P Q : Option AV → Mem → Prop} {x0 x1 x2 : Int} (hC : Call X mX9_noOne [vi x1] M Q) (k : ∀ (z : Int) (M1 : Mem), Q (some (vi z)) M1 → Runs X mX9_noPay 11 [(0, vi x0), (1, vi x1), (2, vi x2)] [vi z] M1 P) : Runs X mX9_noPay 7 [(0, vi x0), (1, vi x1), (2, vi x2)] [] M P := by
  refine Runs.iload_n (j := 1) dX9_noPay_7 rfl ?_
  refine Runs.callSi (y := mX9_noOne) (n := 1) (as := [vi x1]) (st := []) dX9_noPay_8 oc_X9_noOne sm_X9_noOne ml_X9_190 rfl ⟨(Nat.le_of_ble_eq_true rfl), (Nat.le_of_ble_eq_true rfl)⟩ (Nat.le_of_ble_eq_true rfl) (Nat.le_of_ble_eq_true rfl) (Or.inr rfl) hC (fun z M1 hQ => ?_)
  exact k z M1 hQ
theorem kX9_noPay_11 {X : Scr} {M : Mem} {P : Option AV → Mem → Prop} {x0 x1 x2 xs0 : Int} (k1 : xs0 = 0 → Runs X mX9_noPay 18 [(0, vi x0), (1, vi x1), (2, vi x2)] [] M P) (k2 : xs0 ≠ 0 → Runs X mX9_noPay 14 [] [] M P) : Runs X mX9_noPay 11 [(0, vi x0), (1, vi x1), (2, vi x2)] [vi xs0] M P := by
  refine Runs.if_eq (tgt := 18) dX9_noPay_11 (by decide) (fun h => ?_) (fun h => ?_)
  · exact k1 h
  · refine Runs.picks (loc' := []) [] rfl ?_
    exact k2 h
theorem kX9_noPay_14 {X : Scr} {M : Mem} {P : Option AV → Mem → Prop} (k : Runs X mX9_noPay 41 [] [vi (-1 : Int)] M P) : Runs X mX9_noPay 14 [] [] M P := by
  refine Runs.iconst dX9_noPay_14 (by decide) ?_
  refine Runs.goto (tgt := 41) dX9_noPay_15 (by decide) ?_
  exact k
theorem kX9_noPay_18 {X : Scr} {M : Mem} {P : Option AV → Mem → Prop} {x0 x1 x2 : Int} (k1 : x0 = x1 → Runs X mX9_noPay 35 [] [] M P) (k2 : x0 ≠ x1 → Runs X mX9_noPay 23 [(2, vi x2)] [] M P) : Runs X mX9_noPay 18 [(0, vi x0), (1, vi x1), (2, vi x2)] [] M P := by
  refine Runs.iload_n (j := 0) dX9_noPay_18 rfl ?_
  refine Runs.iload_n (j := 1) dX9_noPay_19 rfl ?_
  refine Runs.icmp_eq (tgt := 35) dX9_noPay_20 (by decide) (fun h => ?_) (fun h => ?_)
  · refine Runs.picks (loc' := []) [] rfl ?_
    exact k1 h
  · refine Runs.picks (loc' := [(2, vi x2)]) [2] rfl ?_
    exact k2 h
theorem kX9_noPay_23 {X : Scr} {M : Mem} {P Q : Option AV → Mem → Prop} {x2 : Int} (hC : Call X mX9_in [vl x2, vl (0 : Int), vl (999 : Int)] M Q) (k : ∀ (z : Int) (M1 : Mem), Q (some (vi z)) M1 → Runs X mX9_noPay 32 [] [vi z] M1 P) : Runs X mX9_noPay 23 [(2, vi x2)] [] M P := by
  refine Runs.iload_n (j := 0) dX9_noPay_23 rfl ?_
  refine Runs.i2l dX9_noPay_24 ?_
  refine Runs.lconst (z := 0) dX9_noPay_25 rfl (by decide) ?_
  refine Runs.ldc2 (z := 999) dX9_noPay_26 w4_170 (by decide) (by decide) ?_
  refine Runs.callSi (y := mX9_in) (n := 3) (as := [vl x2, vl (0 : Int), vl (999 : Int)]) (st := []) dX9_noPay_29 oc_X9_in sm_X9_in ml_X9_114 rfl ⟨(Nat.le_of_ble_eq_true rfl), (Nat.le_of_ble_eq_true rfl)⟩ (Nat.le_of_ble_eq_true rfl) (Nat.le_of_ble_eq_true rfl) (Or.inr rfl) hC (fun z M1 hQ => ?_)
  refine Runs.picks (loc' := []) [] rfl ?_
  exact k z M1 hQ
theorem kX9_noPay_32 {X : Scr} {M : Mem} {P : Option AV → Mem → Prop} {xs0 : Int} (k1 : xs0 ≠ 0 → Runs X mX9_noPay 40 [] [] M P) (k2 : xs0 = 0 → Runs X mX9_noPay 35 [] [] M P) : Runs X mX9_noPay 32 [] [vi xs0] M P := by
  refine Runs.if_ne (tgt := 40) dX9_noPay_32 (by decide) (fun h => ?_) (fun h => ?_)
  · exact k1 h
  · exact k2 h
theorem kX9_noPay_35 {X : Scr} {M : Mem} {P : Option AV → Mem → Prop} (k : Runs X mX9_noPay 41 [] [vi (-2 : Int)] M P) : Runs X mX9_noPay 35 [] [] M P := by
  refine Runs.bipush dX9_noPay_35 (by decide) (by decide) ?_
  refine Runs.goto (tgt := 41) dX9_noPay_37 (by decide) ?_
  exact k
theorem kX9_noPay_40 {X : Scr} {M : Mem} {P : Option AV → Mem → Prop} (k : Runs X mX9_noPay 41 [] [vi (0 : Int)] M P) : Runs X mX9_noPay 40 [] [] M P := by
  refine Runs.iconst dX9_noPay_40 (by decide) ?_
  exact k
theorem kX9_noPay_41 {X : Scr} {M : Mem} {P : Option AV → Mem → Prop} {xs0 : Int} (k : P (some (vi xs0)) M) : Runs X mX9_noPay 41 [] [vi xs0] M P := by
  exact Runs.reti dX9_noPay_41 rfl k
theorem kX9_fewest_0 {X : Scr} {M : Mem} {P Q : Option AV → Mem → Prop} {x1 x2 x3 : Int} (hC : Call X mX9_noPay [vi x1, vi x2, vi x3] (up2 M 200 0 (0 : Int)) Q) (k : ∀ (z : Int) (M1 : Mem), Q (some (vi z)) M1 → Runs X mX9_fewest 11 [(0, vr 200), (1, vi x1), (2, vi x2), (3, vi x3)] [vi z] M1 P) : Runs X mX9_fewest 0 [(0, vr 200), (1, vi x1), (2, vi x2), (3, vi x3)] [] M P := by
  refine Runs.aload_n (j := 0) dX9_fewest_0 rfl ?_
  refine Runs.iconst dX9_fewest_1 (by decide) ?_
  refine Runs.puti (ci := 9) (j := 0) (C := RX9) (T := TX9) (N := 48) dX9_fewest_2 rfl cls_X9 (by decide) rfl fl_X9_108 rfl rfl ?_
  refine Runs.iload_n (j := 1) dX9_fewest_5 rfl ?_
  refine Runs.iload_n (j := 2) dX9_fewest_6 rfl ?_
  refine Runs.iload_n (j := 3) dX9_fewest_7 rfl ?_
  refine Runs.callSi (y := mX9_noPay) (n := 3) (as := [vi x1, vi x2, vi x3]) (st := []) dX9_fewest_8 oc_X9_noPay sm_X9_noPay ml_X9_216 rfl ⟨(Nat.le_of_ble_eq_true rfl), (Nat.le_of_ble_eq_true rfl)⟩ (Nat.le_of_ble_eq_true rfl) (Nat.le_of_ble_eq_true rfl) (Or.inl rfl) hC (fun z M1 hQ => ?_)
  exact k z M1 hQ
theorem kX9_fewest_11 {X : Scr} {M : Mem} {P : Option AV → Mem → Prop} {x1 x2 x3 xs0 : Int} (k1 : xs0 = 0 → Runs X mX9_fewest 23 [(0, vr 200), (1, vi x1), (2, vi x2), (3, vi x3)] [] M P) (k2 : xs0 ≠ 0 → Runs X mX9_fewest 18 [(4, vi xs0)] [] M P) : Runs X mX9_fewest 11 [(0, vr 200), (1, vi x1), (2, vi x2), (3, vi x3)] [vi xs0] M P := by
  refine Runs.istore (loc' := [(0, vr 200), (1, vi x1), (2, vi x2), (3, vi x3), (4, vi xs0)]) dX9_fewest_11 (by decide) rfl ?_
  refine Runs.iload (j := 4) dX9_fewest_13 rfl ?_
  refine Runs.if_eq (tgt := 23) dX9_fewest_15 (by decide) (fun h => ?_) (fun h => ?_)
  · refine Runs.picks (loc' := [(0, vr 200), (1, vi x1), (2, vi x2), (3, vi x3)]) [0, 1, 2, 3] rfl ?_
    exact k1 h
  · refine Runs.picks (loc' := [(4, vi xs0)]) [4] rfl ?_
    exact k2 h
theorem kX9_fewest_18 {X : Scr} {M : Mem} {P : Option AV → Mem → Prop} {x4 : Int} (k : Runs X mX9_fewest 30 [] [vi x4] M P) : Runs X mX9_fewest 18 [(4, vi x4)] [] M P := by
  refine Runs.iload (j := 0) dX9_fewest_18 rfl ?_
  refine Runs.goto (tgt := 30) dX9_fewest_20 (by decide) ?_
  refine Runs.picks (loc' := []) [] rfl ?_
  exact k
theorem kX9_fewest_23 {X : Scr} {M : Mem} {P Q : Option AV → Mem → Prop} {x1 x2 x3 : Int} (hC : Call X mX9_findFewest [vr 200, vi x1, vi x2, vi x3] M Q) (k : ∀ (z : Int) (M1 : Mem), Q (some (vi z)) M1 → Runs X mX9_fewest 30 [] [vi z] M1 P) : Runs X mX9_fewest 23 [(0, vr 200), (1, vi x1), (2, vi x2), (3, vi x3)] [] M P := by
  refine Runs.aload_n (j := 0) dX9_fewest_23 rfl ?_
  refine Runs.iload_n (j := 1) dX9_fewest_24 rfl ?_
  refine Runs.iload_n (j := 2) dX9_fewest_25 rfl ?_
  refine Runs.iload_n (j := 3) dX9_fewest_26 rfl ?_
  refine Runs.callVi (y := mX9_findFewest) (n := 3) (as := [vi x1, vi x2, vi x3]) (st := []) (q := (RX9, TX9, 48)) dX9_fewest_27 oc_X9_findFewest im_X9_findFewest se_X9_findFewest ml_X9_220 rfl ⟨(Nat.le_of_ble_eq_true rfl), (Nat.le_of_ble_eq_true rfl)⟩ (Nat.le_of_ble_eq_true rfl) (Nat.le_of_ble_eq_true rfl) rfl rfl rfl (Or.inl rfl) hC (fun z M1 hQ => ?_)
  refine Runs.picks (loc' := []) [] rfl ?_
  exact k z M1 hQ
theorem kX9_fewest_30 {X : Scr} {M : Mem} {P : Option AV → Mem → Prop} {xs0 : Int} (k : P (some (vi xs0)) M) : Runs X mX9_fewest 30 [] [vi xs0] M P := by
  exact Runs.reti dX9_fewest_30 rfl k
theorem kX9_paid_0 {X : Scr} {M : Mem} {P Q : Option AV → Mem → Prop} {x1 x2 x3 x4 : Int} (hC : Call X mX9_noPay [vi x1, vi x2, vi x3] (up2 M 200 0 (0 : Int)) Q) (k : ∀ (z : Int) (M1 : Mem), Q (some (vi z)) M1 → Runs X mX9_paid 11 [(0, vr 200), (1, vi x1), (2, vi x2), (3, vi x3), (4, vi x4)] [vi z] M1 P) : Runs X mX9_paid 0 [(0, vr 200), (1, vi x1), (2, vi x2), (3, vi x3), (4, vi x4)] [] M P := by
  refine Runs.aload_n (j := 0) dX9_paid_0 rfl ?_
  refine Runs.iconst dX9_paid_1 (by decide) ?_
  refine Runs.puti (ci := 9) (j := 0) (C := RX9) (T := TX9) (N := 48) dX9_paid_2 rfl cls_X9 (by decide) rfl fl_X9_108 rfl rfl ?_
  refine Runs.iload_n (j := 1) dX9_paid_5 rfl ?_
  refine Runs.iload_n (j := 2) dX9_paid_6 rfl ?_
  refine Runs.iload_n (j := 3) dX9_paid_7 rfl ?_
  refine Runs.callSi (y := mX9_noPay) (n := 3) (as := [vi x1, vi x2, vi x3]) (st := []) dX9_paid_8 oc_X9_noPay sm_X9_noPay ml_X9_216 rfl ⟨(Nat.le_of_ble_eq_true rfl), (Nat.le_of_ble_eq_true rfl)⟩ (Nat.le_of_ble_eq_true rfl) (Nat.le_of_ble_eq_true rfl) (Or.inl rfl) hC (fun z M1 hQ => ?_)
  exact k z M1 hQ
theorem kX9_paid_11 {X : Scr} {M : Mem} {P : Option AV → Mem → Prop} {x1 x2 x3 x4 xs0 : Int} (k1 : xs0 = 0 → Runs X mX9_paid 21 [(0, vr 200), (1, vi x1), (2, vi x2), (3, vi x3), (4, vi x4)] [] M P) (k2 : xs0 ≠ 0 → Runs X mX9_paid 18 [(5, vi xs0)] [] M P) : Runs X mX9_paid 11 [(0, vr 200), (1, vi x1), (2, vi x2), (3, vi x3), (4, vi x4)] [vi xs0] M P := by
  refine Runs.istore (loc' := [(0, vr 200), (1, vi x1), (2, vi x2), (3, vi x3), (4, vi x4), (5, vi xs0)]) dX9_paid_11 (by decide) rfl ?_
  refine Runs.iload (j := 5) dX9_paid_13 rfl ?_
  refine Runs.if_eq (tgt := 21) dX9_paid_15 (by decide) (fun h => ?_) (fun h => ?_)
  · refine Runs.picks (loc' := [(0, vr 200), (1, vi x1), (2, vi x2), (3, vi x3), (4, vi x4)]) [0, 1, 2, 3, 4] rfl ?_
    exact k1 h
  · refine Runs.picks (loc' := [(5, vi xs0)]) [5] rfl ?_
    exact k2 h
theorem kX9_paid_18 {X : Scr} {M : Mem} {P : Option AV → Mem → Prop} {x5 : Int} (k : P (some (vi x5)) M) : Runs X mX9_paid 18 [(5, vi x5)] [] M P := by
  refine Runs.iload (j := 0) dX9_paid_18 rfl ?_
  exact Runs.reti dX9_paid_20 rfl k
theorem kX9_paid_21 {X : Scr} {M : Mem} {P Q : Option AV → Mem → Prop} {x1 x2 x3 x4 : Int} (hC : Call X mX9_findFewest [vr 200, vi x1, vi x2, vi x3] M Q) (k : ∀ (z : Int) (M1 : Mem), Q (some (vi z)) M1 → Runs X mX9_paid 28 [(0, vr 200), (4, vi x4)] [vi z] M1 P) : Runs X mX9_paid 21 [(0, vr 200), (1, vi x1), (2, vi x2), (3, vi x3), (4, vi x4)] [] M P := by
  refine Runs.aload_n (j := 0) dX9_paid_21 rfl ?_
  refine Runs.iload_n (j := 1) dX9_paid_22 rfl ?_
  refine Runs.iload_n (j := 2) dX9_paid_23 rfl ?_
  refine Runs.iload_n (j := 3) dX9_paid_24 rfl ?_
  refine Runs.callVi (y := mX9_findFewest) (n := 3) (as := [vi x1, vi x2, vi x3]) (st := []) (q := (RX9, TX9, 48)) dX9_paid_25 oc_X9_findFewest im_X9_findFewest se_X9_findFewest ml_X9_220 rfl ⟨(Nat.le_of_ble_eq_true rfl), (Nat.le_of_ble_eq_true rfl)⟩ (Nat.le_of_ble_eq_true rfl) (Nat.le_of_ble_eq_true rfl) rfl rfl rfl (Or.inl rfl) hC (fun z M1 hQ => ?_)
  refine Runs.picks (loc' := [(0, vr 200), (4, vi x4)]) [0, 4] rfl ?_
  exact k z M1 hQ
theorem kX9_paid_28 {X : Scr} {M : Mem} {P : Option AV → Mem → Prop} {x4 xs0 : Int} (k1 : xs0 ≠ (-9 : Int) → Runs X mX9_paid 38 [(0, vr 200), (4, vi x4)] [] M P) (k2 : xs0 = (-9 : Int) → Runs X mX9_paid 33 [] [] M P) : Runs X mX9_paid 28 [(0, vr 200), (4, vi x4)] [vi xs0] M P := by
  refine Runs.bipush dX9_paid_28 (by decide) (by decide) ?_
  refine Runs.icmp_ne (tgt := 38) dX9_paid_30 (by decide) (fun h => ?_) (fun h => ?_)
  · exact k1 h
  · refine Runs.picks (loc' := []) [] rfl ?_
    exact k2 h
theorem kX9_paid_33 {X : Scr} {M : Mem} {P : Option AV → Mem → Prop} (k : Runs X mX9_paid 54 [] [vi (-9 : Int)] M P) : Runs X mX9_paid 33 [] [] M P := by
  refine Runs.bipush dX9_paid_33 (by decide) (by decide) ?_
  refine Runs.goto (tgt := 54) dX9_paid_35 (by decide) ?_
  exact k
theorem kX9_paid_38 {X : Scr} {M : Mem} {P : Option AV → Mem → Prop} {x4 : Int} (k1 : x4 = 0 → Runs X mX9_paid 50 [(0, vr 200)] [] M P) (k2 : x4 ≠ 0 → Runs X mX9_paid 43 [(0, vr 200)] [] M P) : Runs X mX9_paid 38 [(0, vr 200), (4, vi x4)] [] M P := by
  refine Runs.iload (j := 1) dX9_paid_38 rfl ?_
  refine Runs.if_eq (tgt := 50) dX9_paid_40 (by decide) (fun h => ?_) (fun h => ?_)
  · refine Runs.picks (loc' := [(0, vr 200)]) [0] rfl ?_
    exact k1 h
  · refine Runs.picks (loc' := [(0, vr 200)]) [0] rfl ?_
    exact k2 h
theorem kX9_paid_43 {X : Scr} {M : Mem} {P : Option AV → Mem → Prop} (k : Runs X mX9_paid 54 [] [vi (M 200 40)] M P) : Runs X mX9_paid 43 [(0, vr 200)] [] M P := by
  refine Runs.aload_n (j := 0) dX9_paid_43 rfl ?_
  refine Runs.geti (ci := 9) (j := 40) (C := RX9) (T := TX9) (N := 48) dX9_paid_44 rfl cls_X9 (by decide) rfl fl_X9_208 (Or.inl rfl) ?_
  refine Runs.goto (tgt := 54) dX9_paid_47 (by decide) ?_
  refine Runs.picks (loc' := []) [] rfl ?_
  exact k
theorem kX9_paid_50 {X : Scr} {M : Mem} {P : Option AV → Mem → Prop} (k : Runs X mX9_paid 54 [] [vi (M 200 39)] M P) : Runs X mX9_paid 50 [(0, vr 200)] [] M P := by
  refine Runs.aload_n (j := 0) dX9_paid_50 rfl ?_
  refine Runs.geti (ci := 9) (j := 39) (C := RX9) (T := TX9) (N := 48) dX9_paid_51 rfl cls_X9 (by decide) rfl fl_X9_205 (Or.inl rfl) ?_
  refine Runs.picks (loc' := []) [] rfl ?_
  exact k
theorem kX9_paid_54 {X : Scr} {M : Mem} {P : Option AV → Mem → Prop} {xs0 : Int} (k : P (some (vi xs0)) M) : Runs X mX9_paid 54 [] [vi xs0] M P := by
  exact Runs.reti dX9_paid_54 rfl k
theorem kX9_lay_0 {X : Scr} {M : Mem} {P : Option AV → Mem → Prop} {p1 n1 : Nat} {x2 : Int} (k : Runs X mX9_lay 9 [(0, vr 200), (1, vr p1), (2, vi x2), (3, vi (0 : Int))] [] (up2 M p1 (x2).toNat (M 200 6)) P) (hk_p1 : kd p1 = some (.inr (.int, n1)) := by first | assumption | rfl) (h1 : 0 ≤ x2 := by omega) (h2 : x2 < ((n1 : Nat) : Int) := by omega) : Runs X mX9_lay 0 [(0, vr 200), (1, vr p1), (2, vi x2)] [] M P := by
  refine Runs.aload_n (j := 1) dX9_lay_0 rfl ?_
  refine Runs.iload_n (j := 2) dX9_lay_1 rfl ?_
  refine Runs.aload_n (j := 0) dX9_lay_2 rfl ?_
  refine Runs.geti (ci := 9) (j := 6) (C := RX9) (T := TX9) (N := 48) dX9_lay_3 rfl cls_X9 (by decide) rfl fl_X9_111 (Or.inl rfl) ?_
  refine Runs.iast dX9_lay_6 hk_p1 h1 h2 ?_
  refine Runs.iconst dX9_lay_7 (by decide) ?_
  refine Runs.istore_n (loc' := [(0, vr 200), (1, vr p1), (2, vi x2), (3, vi (0 : Int))]) dX9_lay_8 rfl (by decide) rfl ?_
  exact k
theorem kX9_lay_9 {X : Scr} {M : Mem} {P : Option AV → Mem → Prop} {p1 n1 : Nat} {x2 x3 : Int} (k1 : (10 : Int) ≤ x3 → Runs X mX9_lay 76 [(0, vr 200), (1, vr p1), (2, vi x2)] [] M P) (k2 : x3 < (10 : Int) → Runs X mX9_lay 15 [(0, vr 200), (1, vr p1), (2, vi x2), (3, vi x3)] [] M P) (hk_p1 : kd p1 = some (.inr (.int, n1)) := by first | assumption | rfl) : Runs X mX9_lay 9 [(0, vr 200), (1, vr p1), (2, vi x2), (3, vi x3)] [] M P := by
  refine Runs.iload_n (j := 3) dX9_lay_9 rfl ?_
  refine Runs.bipush dX9_lay_10 (by decide) (by decide) ?_
  refine Runs.icmp_ge (tgt := 76) dX9_lay_12 (by decide) (fun h => ?_) (fun h => ?_)
  · refine Runs.picks (loc' := [(0, vr 200), (1, vr p1), (2, vi x2)]) [0, 1, 2] rfl ?_
    exact k1 h
  · exact k2 h
theorem kX9_lay_15 {X : Scr} {M : Mem} {P : Option AV → Mem → Prop} {p1 n1 : Nat} {x2 x3 : Int} (k : Runs X mX9_lay 9 [(0, vr 200), (1, vr p1), (2, vi x2), (3, vi (x3 + (1 : Int)))] [] (up2 (up2 (up2 (up2 M p1 (((x2 + (1 : Int)) + x3)).toNat (M 307 (x3).toNat)) p1 (((x2 + (11 : Int)) + x3)).toNat ((up2 M p1 (((x2 + (1 : Int)) + x3)).toNat (M 307 (x3).toNat)) 309 (x3).toNat)) p1 (((x2 + (21 : Int)) + x3)).toNat ((up2 (up2 M p1 (((x2 + (1 : Int)) + x3)).toNat (M 307 (x3).toNat)) p1 (((x2 + (11 : Int)) + x3)).toNat ((up2 M p1 (((x2 + (1 : Int)) + x3)).toNat (M 307 (x3).toNat)) 309 (x3).toNat)) 310 (x3).toNat)) p1 (((x2 + (31 : Int)) + x3)).toNat ((up2 (up2 (up2 M p1 (((x2 + (1 : Int)) + x3)).toNat (M 307 (x3).toNat)) p1 (((x2 + (11 : Int)) + x3)).toNat ((up2 M p1 (((x2 + (1 : Int)) + x3)).toNat (M 307 (x3).toNat)) 309 (x3).toNat)) p1 (((x2 + (21 : Int)) + x3)).toNat ((up2 (up2 M p1 (((x2 + (1 : Int)) + x3)).toNat (M 307 (x3).toNat)) p1 (((x2 + (11 : Int)) + x3)).toNat ((up2 M p1 (((x2 + (1 : Int)) + x3)).toNat (M 307 (x3).toNat)) 309 (x3).toNat)) 310 (x3).toNat)) 313 (x3).toNat)) P) (hk_p1 : kd p1 = some (.inr (.int, n1)) := by first | assumption | rfl) (h1 : -2147483648 ≤ (x2 + (1 : Int)) ∧ (x2 + (1 : Int)) ≤ 2147483647 := by omega) (h2 : -2147483648 ≤ ((x2 + (1 : Int)) + x3) ∧ ((x2 + (1 : Int)) + x3) ≤ 2147483647 := by omega) (h3 : 0 ≤ x3 := by omega) (h4 : x3 < ((10 : Nat) : Int) := by omega) (h5 : 0 ≤ ((x2 + (1 : Int)) + x3) := by omega) (h6 : ((x2 + (1 : Int)) + x3) < ((n1 : Nat) : Int) := by omega) (h7 : -2147483648 ≤ (x2 + (11 : Int)) ∧ (x2 + (11 : Int)) ≤ 2147483647 := by omega) (h8 : -2147483648 ≤ ((x2 + (11 : Int)) + x3) ∧ ((x2 + (11 : Int)) + x3) ≤ 2147483647 := by omega) (h9 : 0 ≤ ((x2 + (11 : Int)) + x3) := by omega) (h10 : ((x2 + (11 : Int)) + x3) < ((n1 : Nat) : Int) := by omega) (h11 : -2147483648 ≤ (x2 + (21 : Int)) ∧ (x2 + (21 : Int)) ≤ 2147483647 := by omega) (h12 : -2147483648 ≤ ((x2 + (21 : Int)) + x3) ∧ ((x2 + (21 : Int)) + x3) ≤ 2147483647 := by omega) (h13 : 0 ≤ ((x2 + (21 : Int)) + x3) := by omega) (h14 : ((x2 + (21 : Int)) + x3) < ((n1 : Nat) : Int) := by omega) (h15 : -2147483648 ≤ (x2 + (31 : Int)) ∧ (x2 + (31 : Int)) ≤ 2147483647 := by omega) (h16 : -2147483648 ≤ ((x2 + (31 : Int)) + x3) ∧ ((x2 + (31 : Int)) + x3) ≤ 2147483647 := by omega) (h17 : 0 ≤ ((x2 + (31 : Int)) + x3) := by omega) (h18 : ((x2 + (31 : Int)) + x3) < ((n1 : Nat) : Int) := by omega) (h19 : -2147483648 ≤ (x3 + (1 : Int)) ∧ (x3 + (1 : Int)) ≤ 2147483647 := by omega) : Runs X mX9_lay 15 [(0, vr 200), (1, vr p1), (2, vi x2), (3, vi x3)] [] M P := by
  refine Runs.aload_n (j := 1) dX9_lay_15 rfl ?_
  refine Runs.iload_n (j := 2) dX9_lay_16 rfl ?_
  refine Runs.iconst dX9_lay_17 (by decide) ?_
  refine Runs.iadd dX9_lay_18 h1 ?_
  refine Runs.iload_n (j := 3) dX9_lay_19 rfl ?_
  refine Runs.iadd dX9_lay_20 h2 ?_
  refine Runs.aload_n (j := 0) dX9_lay_21 rfl ?_
  refine Runs.getr (o' := 307) (ci := 9) (j := 7) (C := RX9) (T := TX9) (N := 48) dX9_lay_22 rfl cls_X9 (by decide) rfl fl_X9_20 rfl ⟨rfl, "", Or.inr ⟨_, rfl⟩⟩ ?_
  refine Runs.iload_n (j := 3) dX9_lay_25 rfl ?_
  refine Runs.iald dX9_lay_26 rfl h3 h4 ?_
  refine Runs.iast dX9_lay_27 hk_p1 h5 h6 ?_
  refine Runs.aload_n (j := 1) dX9_lay_28 rfl ?_
  refine Runs.iload_n (j := 2) dX9_lay_29 rfl ?_
  refine Runs.bipush dX9_lay_30 (by decide) (by decide) ?_
  refine Runs.iadd dX9_lay_32 h7 ?_
  refine Runs.iload_n (j := 3) dX9_lay_33 rfl ?_
  refine Runs.iadd dX9_lay_34 h8 ?_
  refine Runs.aload_n (j := 0) dX9_lay_35 rfl ?_
  refine Runs.getr (o' := 309) (ci := 9) (j := 9) (C := RX9) (T := TX9) (N := 48) dX9_lay_36 rfl cls_X9 (by decide) rfl fl_X9_27 rfl ⟨rfl, "", Or.inr ⟨_, rfl⟩⟩ ?_
  refine Runs.iload_n (j := 3) dX9_lay_39 rfl ?_
  refine Runs.iald dX9_lay_40 rfl h3 h4 ?_
  refine Runs.iast dX9_lay_41 hk_p1 h9 h10 ?_
  refine Runs.aload_n (j := 1) dX9_lay_42 rfl ?_
  refine Runs.iload_n (j := 2) dX9_lay_43 rfl ?_
  refine Runs.bipush dX9_lay_44 (by decide) (by decide) ?_
  refine Runs.iadd dX9_lay_46 h11 ?_
  refine Runs.iload_n (j := 3) dX9_lay_47 rfl ?_
  refine Runs.iadd dX9_lay_48 h12 ?_
  refine Runs.aload_n (j := 0) dX9_lay_49 rfl ?_
  refine Runs.getr (o' := 310) (ci := 9) (j := 10) (C := RX9) (T := TX9) (N := 48) dX9_lay_50 rfl cls_X9 (by decide) rfl fl_X9_30 rfl ⟨rfl, "", Or.inr ⟨_, rfl⟩⟩ ?_
  refine Runs.iload_n (j := 3) dX9_lay_53 rfl ?_
  refine Runs.iald dX9_lay_54 rfl h3 h4 ?_
  refine Runs.iast dX9_lay_55 hk_p1 h13 h14 ?_
  refine Runs.aload_n (j := 1) dX9_lay_56 rfl ?_
  refine Runs.iload_n (j := 2) dX9_lay_57 rfl ?_
  refine Runs.bipush dX9_lay_58 (by decide) (by decide) ?_
  refine Runs.iadd dX9_lay_60 h15 ?_
  refine Runs.iload_n (j := 3) dX9_lay_61 rfl ?_
  refine Runs.iadd dX9_lay_62 h16 ?_
  refine Runs.aload_n (j := 0) dX9_lay_63 rfl ?_
  refine Runs.getr (o' := 313) (ci := 9) (j := 13) (C := RX9) (T := TX9) (N := 48) dX9_lay_64 rfl cls_X9 (by decide) rfl fl_X9_39 rfl ⟨rfl, "", Or.inr ⟨_, rfl⟩⟩ ?_
  refine Runs.iload_n (j := 3) dX9_lay_67 rfl ?_
  refine Runs.iald dX9_lay_68 rfl h3 h4 ?_
  refine Runs.iast dX9_lay_69 hk_p1 h17 h18 ?_
  refine Runs.iinc (k := 3) (loc' := [(0, vr 200), (1, vr p1), (2, vi x2), (3, vi (x3 + (1 : Int)))]) dX9_lay_70 rfl h19 (by decide) rfl ?_
  refine Runs.goto (tgt := 9) dX9_lay_73 (by decide) ?_
  exact k
theorem kX9_lay_76 {X : Scr} {M : Mem} {P : Option AV → Mem → Prop} {p1 n1 : Nat} {x2 : Int} (k : Runs X mX9_lay 78 [(0, vr 200), (1, vr p1), (2, vi x2), (3, vi (0 : Int))] [] M P) (hk_p1 : kd p1 = some (.inr (.int, n1)) := by first | assumption | rfl) : Runs X mX9_lay 76 [(0, vr 200), (1, vr p1), (2, vi x2)] [] M P := by
  refine Runs.iconst dX9_lay_76 (by decide) ?_
  refine Runs.istore_n (loc' := [(0, vr 200), (1, vr p1), (2, vi x2), (3, vi (0 : Int))]) dX9_lay_77 rfl (by decide) rfl ?_
  exact k
theorem kX9_lay_78 {X : Scr} {M : Mem} {P : Option AV → Mem → Prop} {p1 n1 : Nat} {x2 x3 : Int} (k1 : (80 : Int) ≤ x3 → Runs X mX9_lay 104 [] [] M P) (k2 : x3 < (80 : Int) → Runs X mX9_lay 84 [(0, vr 200), (1, vr p1), (2, vi x2), (3, vi x3)] [] M P) (hk_p1 : kd p1 = some (.inr (.int, n1)) := by first | assumption | rfl) : Runs X mX9_lay 78 [(0, vr 200), (1, vr p1), (2, vi x2), (3, vi x3)] [] M P := by
  refine Runs.iload_n (j := 3) dX9_lay_78 rfl ?_
  refine Runs.bipush dX9_lay_79 (by decide) (by decide) ?_
  refine Runs.icmp_ge (tgt := 104) dX9_lay_81 (by decide) (fun h => ?_) (fun h => ?_)
  · refine Runs.picks (loc' := []) [] rfl ?_
    exact k1 h
  · exact k2 h
theorem kX9_lay_84 {X : Scr} {M : Mem} {P : Option AV → Mem → Prop} {p1 n1 : Nat} {x2 x3 : Int} (k : Runs X mX9_lay 78 [(0, vr 200), (1, vr p1), (2, vi x2), (3, vi (x3 + (1 : Int)))] [] (up2 M p1 (((x2 + (41 : Int)) + x3)).toNat (M 314 (x3).toNat)) P) (hk_p1 : kd p1 = some (.inr (.int, n1)) := by first | assumption | rfl) (h1 : -2147483648 ≤ (x2 + (41 : Int)) ∧ (x2 + (41 : Int)) ≤ 2147483647 := by omega) (h2 : -2147483648 ≤ ((x2 + (41 : Int)) + x3) ∧ ((x2 + (41 : Int)) + x3) ≤ 2147483647 := by omega) (h3 : 0 ≤ x3 := by omega) (h4 : x3 < ((80 : Nat) : Int) := by omega) (h5 : 0 ≤ ((x2 + (41 : Int)) + x3) := by omega) (h6 : ((x2 + (41 : Int)) + x3) < ((n1 : Nat) : Int) := by omega) (h7 : -2147483648 ≤ (x3 + (1 : Int)) ∧ (x3 + (1 : Int)) ≤ 2147483647 := by omega) : Runs X mX9_lay 84 [(0, vr 200), (1, vr p1), (2, vi x2), (3, vi x3)] [] M P := by
  refine Runs.aload_n (j := 1) dX9_lay_84 rfl ?_
  refine Runs.iload_n (j := 2) dX9_lay_85 rfl ?_
  refine Runs.bipush dX9_lay_86 (by decide) (by decide) ?_
  refine Runs.iadd dX9_lay_88 h1 ?_
  refine Runs.iload_n (j := 3) dX9_lay_89 rfl ?_
  refine Runs.iadd dX9_lay_90 h2 ?_
  refine Runs.aload_n (j := 0) dX9_lay_91 rfl ?_
  refine Runs.getr (o' := 314) (ci := 9) (j := 14) (C := RX9) (T := TX9) (N := 48) dX9_lay_92 rfl cls_X9 (by decide) rfl fl_X9_42 rfl ⟨rfl, "", Or.inr ⟨_, rfl⟩⟩ ?_
  refine Runs.iload_n (j := 3) dX9_lay_95 rfl ?_
  refine Runs.iald dX9_lay_96 rfl h3 h4 ?_
  refine Runs.iast dX9_lay_97 hk_p1 h5 h6 ?_
  refine Runs.iinc (k := 3) (loc' := [(0, vr 200), (1, vr p1), (2, vi x2), (3, vi (x3 + (1 : Int)))]) dX9_lay_98 rfl h7 (by decide) rfl ?_
  refine Runs.goto (tgt := 78) dX9_lay_101 (by decide) ?_
  exact k
theorem kX9_lay_104 {X : Scr} {M : Mem} {P : Option AV → Mem → Prop} (k : P none M) : Runs X mX9_lay 104 [] [] M P := by
  exact Runs.ret0 dX9_lay_104 rfl k
theorem kX9_take_0 {X : Scr} {M : Mem} {P : Option AV → Mem → Prop} {p1 n1 : Nat} {x2 : Int} (k : Runs X mX9_take 2 [(0, vr 200), (1, vr p1), (2, vi x2), (3, vi (0 : Int))] [] M P) (hk_p1 : kd p1 = some (.inr (.int, n1)) := by first | assumption | rfl) : Runs X mX9_take 0 [(0, vr 200), (1, vr p1), (2, vi x2)] [] M P := by
  refine Runs.iconst dX9_take_0 (by decide) ?_
  refine Runs.istore_n (loc' := [(0, vr 200), (1, vr p1), (2, vi x2), (3, vi (0 : Int))]) dX9_take_1 rfl (by decide) rfl ?_
  exact k
theorem kX9_take_2 {X : Scr} {M : Mem} {P : Option AV → Mem → Prop} {p1 n1 : Nat} {x2 x3 : Int} (k1 : (M p1 (x2).toNat) ≤ x3 → Runs X mX9_take 112 [] [] M P) (k2 : x3 < (M p1 (x2).toNat) → Runs X mX9_take 9 [(0, vr 200), (1, vr p1), (2, vi x2), (3, vi x3)] [] M P) (hk_p1 : kd p1 = some (.inr (.int, n1)) := by first | assumption | rfl) (h1 : 0 ≤ x2 := by omega) (h2 : x2 < ((n1 : Nat) : Int) := by omega) : Runs X mX9_take 2 [(0, vr 200), (1, vr p1), (2, vi x2), (3, vi x3)] [] M P := by
  refine Runs.iload_n (j := 3) dX9_take_2 rfl ?_
  refine Runs.aload_n (j := 1) dX9_take_3 rfl ?_
  refine Runs.iload_n (j := 2) dX9_take_4 rfl ?_
  refine Runs.iald dX9_take_5 hk_p1 h1 h2 ?_
  refine Runs.icmp_ge (tgt := 112) dX9_take_6 (by decide) (fun h => ?_) (fun h => ?_)
  · refine Runs.picks (loc' := []) [] rfl ?_
    exact k1 h
  · exact k2 h
theorem kX9_take_9 {X : Scr} {M : Mem} {P : Option AV → Mem → Prop} {p1 n1 : Nat} {x2 x3 : Int} (k : Runs X mX9_take 67 [(0, vr 200), (1, vr p1), (2, vi x2), (3, vi x3), (4, vi (0 : Int))] [] (up2 (up2 (up2 (up2 M 307 (x3).toNat (M p1 (((x2 + (1 : Int)) + x3)).toNat)) 309 (x3).toNat ((up2 M 307 (x3).toNat (M p1 (((x2 + (1 : Int)) + x3)).toNat)) p1 (((x2 + (11 : Int)) + x3)).toNat)) 310 (x3).toNat ((up2 (up2 M 307 (x3).toNat (M p1 (((x2 + (1 : Int)) + x3)).toNat)) 309 (x3).toNat ((up2 M 307 (x3).toNat (M p1 (((x2 + (1 : Int)) + x3)).toNat)) p1 (((x2 + (11 : Int)) + x3)).toNat)) p1 (((x2 + (21 : Int)) + x3)).toNat)) 313 (x3).toNat ((up2 (up2 (up2 M 307 (x3).toNat (M p1 (((x2 + (1 : Int)) + x3)).toNat)) 309 (x3).toNat ((up2 M 307 (x3).toNat (M p1 (((x2 + (1 : Int)) + x3)).toNat)) p1 (((x2 + (11 : Int)) + x3)).toNat)) 310 (x3).toNat ((up2 (up2 M 307 (x3).toNat (M p1 (((x2 + (1 : Int)) + x3)).toNat)) 309 (x3).toNat ((up2 M 307 (x3).toNat (M p1 (((x2 + (1 : Int)) + x3)).toNat)) p1 (((x2 + (11 : Int)) + x3)).toNat)) p1 (((x2 + (21 : Int)) + x3)).toNat)) p1 (((x2 + (31 : Int)) + x3)).toNat)) P) (hk_p1 : kd p1 = some (.inr (.int, n1)) := by first | assumption | rfl) (h1 : -2147483648 ≤ (x2 + (1 : Int)) ∧ (x2 + (1 : Int)) ≤ 2147483647 := by omega) (h2 : -2147483648 ≤ ((x2 + (1 : Int)) + x3) ∧ ((x2 + (1 : Int)) + x3) ≤ 2147483647 := by omega) (h3 : 0 ≤ ((x2 + (1 : Int)) + x3) := by omega) (h4 : ((x2 + (1 : Int)) + x3) < ((n1 : Nat) : Int) := by omega) (h5 : 0 ≤ x3 := by omega) (h6 : x3 < ((10 : Nat) : Int) := by omega) (h7 : -2147483648 ≤ (x2 + (11 : Int)) ∧ (x2 + (11 : Int)) ≤ 2147483647 := by omega) (h8 : -2147483648 ≤ ((x2 + (11 : Int)) + x3) ∧ ((x2 + (11 : Int)) + x3) ≤ 2147483647 := by omega) (h9 : 0 ≤ ((x2 + (11 : Int)) + x3) := by omega) (h10 : ((x2 + (11 : Int)) + x3) < ((n1 : Nat) : Int) := by omega) (h11 : -2147483648 ≤ (x2 + (21 : Int)) ∧ (x2 + (21 : Int)) ≤ 2147483647 := by omega) (h12 : -2147483648 ≤ ((x2 + (21 : Int)) + x3) ∧ ((x2 + (21 : Int)) + x3) ≤ 2147483647 := by omega) (h13 : 0 ≤ ((x2 + (21 : Int)) + x3) := by omega) (h14 : ((x2 + (21 : Int)) + x3) < ((n1 : Nat) : Int) := by omega) (h15 : -2147483648 ≤ (x2 + (31 : Int)) ∧ (x2 + (31 : Int)) ≤ 2147483647 := by omega) (h16 : -2147483648 ≤ ((x2 + (31 : Int)) + x3) ∧ ((x2 + (31 : Int)) + x3) ≤ 2147483647 := by omega) (h17 : 0 ≤ ((x2 + (31 : Int)) + x3) := by omega) (h18 : ((x2 + (31 : Int)) + x3) < ((n1 : Nat) : Int) := by omega) : Runs X mX9_take 9 [(0, vr 200), (1, vr p1), (2, vi x2), (3, vi x3)] [] M P := by
  refine Runs.aload_n (j := 0) dX9_take_9 rfl ?_
  refine Runs.getr (o' := 307) (ci := 9) (j := 7) (C := RX9) (T := TX9) (N := 48) dX9_take_10 rfl cls_X9 (by decide) rfl fl_X9_20 rfl ⟨rfl, "", Or.inr ⟨_, rfl⟩⟩ ?_
  refine Runs.iload_n (j := 3) dX9_take_13 rfl ?_
  refine Runs.aload_n (j := 1) dX9_take_14 rfl ?_
  refine Runs.iload_n (j := 2) dX9_take_15 rfl ?_
  refine Runs.iconst dX9_take_16 (by decide) ?_
  refine Runs.iadd dX9_take_17 h1 ?_
  refine Runs.iload_n (j := 3) dX9_take_18 rfl ?_
  refine Runs.iadd dX9_take_19 h2 ?_
  refine Runs.iald dX9_take_20 hk_p1 h3 h4 ?_
  refine Runs.iast dX9_take_21 rfl h5 h6 ?_
  refine Runs.aload_n (j := 0) dX9_take_22 rfl ?_
  refine Runs.getr (o' := 309) (ci := 9) (j := 9) (C := RX9) (T := TX9) (N := 48) dX9_take_23 rfl cls_X9 (by decide) rfl fl_X9_27 rfl ⟨rfl, "", Or.inr ⟨_, rfl⟩⟩ ?_
  refine Runs.iload_n (j := 3) dX9_take_26 rfl ?_
  refine Runs.aload_n (j := 1) dX9_take_27 rfl ?_
  refine Runs.iload_n (j := 2) dX9_take_28 rfl ?_
  refine Runs.bipush dX9_take_29 (by decide) (by decide) ?_
  refine Runs.iadd dX9_take_31 h7 ?_
  refine Runs.iload_n (j := 3) dX9_take_32 rfl ?_
  refine Runs.iadd dX9_take_33 h8 ?_
  refine Runs.iald dX9_take_34 hk_p1 h9 h10 ?_
  refine Runs.iast dX9_take_35 rfl h5 h6 ?_
  refine Runs.aload_n (j := 0) dX9_take_36 rfl ?_
  refine Runs.getr (o' := 310) (ci := 9) (j := 10) (C := RX9) (T := TX9) (N := 48) dX9_take_37 rfl cls_X9 (by decide) rfl fl_X9_30 rfl ⟨rfl, "", Or.inr ⟨_, rfl⟩⟩ ?_
  refine Runs.iload_n (j := 3) dX9_take_40 rfl ?_
  refine Runs.aload_n (j := 1) dX9_take_41 rfl ?_
  refine Runs.iload_n (j := 2) dX9_take_42 rfl ?_
  refine Runs.bipush dX9_take_43 (by decide) (by decide) ?_
  refine Runs.iadd dX9_take_45 h11 ?_
  refine Runs.iload_n (j := 3) dX9_take_46 rfl ?_
  refine Runs.iadd dX9_take_47 h12 ?_
  refine Runs.iald dX9_take_48 hk_p1 h13 h14 ?_
  refine Runs.iast dX9_take_49 rfl h5 h6 ?_
  refine Runs.aload_n (j := 0) dX9_take_50 rfl ?_
  refine Runs.getr (o' := 313) (ci := 9) (j := 13) (C := RX9) (T := TX9) (N := 48) dX9_take_51 rfl cls_X9 (by decide) rfl fl_X9_39 rfl ⟨rfl, "", Or.inr ⟨_, rfl⟩⟩ ?_
  refine Runs.iload_n (j := 3) dX9_take_54 rfl ?_
  refine Runs.aload_n (j := 1) dX9_take_55 rfl ?_
  refine Runs.iload_n (j := 2) dX9_take_56 rfl ?_
  refine Runs.bipush dX9_take_57 (by decide) (by decide) ?_
  refine Runs.iadd dX9_take_59 h15 ?_
  refine Runs.iload_n (j := 3) dX9_take_60 rfl ?_
  refine Runs.iadd dX9_take_61 h16 ?_
  refine Runs.iald dX9_take_62 hk_p1 h17 h18 ?_
  refine Runs.iast dX9_take_63 rfl h5 h6 ?_
  refine Runs.iconst dX9_take_64 (by decide) ?_
  refine Runs.istore (loc' := [(0, vr 200), (1, vr p1), (2, vi x2), (3, vi x3), (4, vi (0 : Int))]) dX9_take_65 (by decide) rfl ?_
  exact k
theorem kX9_take_67 {X : Scr} {M : Mem} {P : Option AV → Mem → Prop} {p1 n1 : Nat} {x2 x3 x4 : Int} (k1 : (8 : Int) ≤ x4 → Runs X mX9_take 106 [(0, vr 200), (1, vr p1), (2, vi x2), (3, vi x3)] [] M P) (k2 : x4 < (8 : Int) → Runs X mX9_take 74 [(0, vr 200), (1, vr p1), (2, vi x2), (3, vi x3), (4, vi x4)] [] M P) (hk_p1 : kd p1 = some (.inr (.int, n1)) := by first | assumption | rfl) : Runs X mX9_take 67 [(0, vr 200), (1, vr p1), (2, vi x2), (3, vi x3), (4, vi x4)] [] M P := by
  refine Runs.iload (j := 4) dX9_take_67 rfl ?_
  refine Runs.bipush dX9_take_69 (by decide) (by decide) ?_
  refine Runs.icmp_ge (tgt := 106) dX9_take_71 (by decide) (fun h => ?_) (fun h => ?_)
  · refine Runs.picks (loc' := [(0, vr 200), (1, vr p1), (2, vi x2), (3, vi x3)]) [0, 1, 2, 3] rfl ?_
    exact k1 h
  · exact k2 h
theorem kX9_take_74 {X : Scr} {M : Mem} {P : Option AV → Mem → Prop} {p1 n1 : Nat} {x2 x3 x4 : Int} (k : Runs X mX9_take 67 [(0, vr 200), (1, vr p1), (2, vi x2), (3, vi x3), (4, vi (x4 + (1 : Int)))] [] (up2 M 314 ((((8 : Int) * x3) + x4)).toNat (M p1 ((((x2 + (41 : Int)) + ((8 : Int) * x3)) + x4)).toNat)) P) (hk_p1 : kd p1 = some (.inr (.int, n1)) := by first | assumption | rfl) (h1 : -2147483648 ≤ ((8 : Int) * x3) ∧ ((8 : Int) * x3) ≤ 2147483647 := by omega) (h2 : -2147483648 ≤ (((8 : Int) * x3) + x4) ∧ (((8 : Int) * x3) + x4) ≤ 2147483647 := by omega) (h3 : -2147483648 ≤ (x2 + (41 : Int)) ∧ (x2 + (41 : Int)) ≤ 2147483647 := by omega) (h4 : -2147483648 ≤ ((x2 + (41 : Int)) + ((8 : Int) * x3)) ∧ ((x2 + (41 : Int)) + ((8 : Int) * x3)) ≤ 2147483647 := by omega) (h5 : -2147483648 ≤ (((x2 + (41 : Int)) + ((8 : Int) * x3)) + x4) ∧ (((x2 + (41 : Int)) + ((8 : Int) * x3)) + x4) ≤ 2147483647 := by omega) (h6 : 0 ≤ (((x2 + (41 : Int)) + ((8 : Int) * x3)) + x4) := by omega) (h7 : (((x2 + (41 : Int)) + ((8 : Int) * x3)) + x4) < ((n1 : Nat) : Int) := by omega) (h8 : 0 ≤ (((8 : Int) * x3) + x4) := by omega) (h9 : (((8 : Int) * x3) + x4) < ((80 : Nat) : Int) := by omega) (h10 : -2147483648 ≤ (x4 + (1 : Int)) ∧ (x4 + (1 : Int)) ≤ 2147483647 := by omega) : Runs X mX9_take 74 [(0, vr 200), (1, vr p1), (2, vi x2), (3, vi x3), (4, vi x4)] [] M P := by
  refine Runs.aload_n (j := 0) dX9_take_74 rfl ?_
  refine Runs.getr (o' := 314) (ci := 9) (j := 14) (C := RX9) (T := TX9) (N := 48) dX9_take_75 rfl cls_X9 (by decide) rfl fl_X9_42 rfl ⟨rfl, "", Or.inr ⟨_, rfl⟩⟩ ?_
  refine Runs.bipush dX9_take_78 (by decide) (by decide) ?_
  refine Runs.iload_n (j := 3) dX9_take_80 rfl ?_
  refine Runs.imul dX9_take_81 h1 ?_
  refine Runs.iload (j := 4) dX9_take_82 rfl ?_
  refine Runs.iadd dX9_take_84 h2 ?_
  refine Runs.aload_n (j := 1) dX9_take_85 rfl ?_
  refine Runs.iload_n (j := 2) dX9_take_86 rfl ?_
  refine Runs.bipush dX9_take_87 (by decide) (by decide) ?_
  refine Runs.iadd dX9_take_89 h3 ?_
  refine Runs.bipush dX9_take_90 (by decide) (by decide) ?_
  refine Runs.iload_n (j := 3) dX9_take_92 rfl ?_
  refine Runs.imul dX9_take_93 h1 ?_
  refine Runs.iadd dX9_take_94 h4 ?_
  refine Runs.iload (j := 4) dX9_take_95 rfl ?_
  refine Runs.iadd dX9_take_97 h5 ?_
  refine Runs.iald dX9_take_98 hk_p1 h6 h7 ?_
  refine Runs.iast dX9_take_99 rfl h8 h9 ?_
  refine Runs.iinc (k := 4) (loc' := [(0, vr 200), (1, vr p1), (2, vi x2), (3, vi x3), (4, vi (x4 + (1 : Int)))]) dX9_take_100 rfl h10 (by decide) rfl ?_
  refine Runs.goto (tgt := 67) dX9_take_103 (by decide) ?_
  exact k
theorem kX9_take_106 {X : Scr} {M : Mem} {P : Option AV → Mem → Prop} {p1 n1 : Nat} {x2 x3 : Int} (k : Runs X mX9_take 2 [(0, vr 200), (1, vr p1), (2, vi x2), (3, vi (x3 + (1 : Int)))] [] M P) (hk_p1 : kd p1 = some (.inr (.int, n1)) := by first | assumption | rfl) (h1 : -2147483648 ≤ (x3 + (1 : Int)) ∧ (x3 + (1 : Int)) ≤ 2147483647 := by omega) : Runs X mX9_take 106 [(0, vr 200), (1, vr p1), (2, vi x2), (3, vi x3)] [] M P := by
  refine Runs.iinc (k := 3) (loc' := [(0, vr 200), (1, vr p1), (2, vi x2), (3, vi (x3 + (1 : Int)))]) dX9_take_106 rfl h1 (by decide) rfl ?_
  refine Runs.goto (tgt := 2) dX9_take_109 (by decide) ?_
  exact k
theorem kX9_take_112 {X : Scr} {M : Mem} {P : Option AV → Mem → Prop} (k : P none M) : Runs X mX9_take 112 [] [] M P := by
  exact Runs.ret0 dX9_take_112 rfl k
theorem kX9_goOver_0 {X : Scr} {M : Mem} {P : Option AV → Mem → Prop} {x1 x2 : Int} (k : Runs X mX9_goOver 2 [(0, vr 200), (1, vi x1), (2, vi x2), (3, vi (0 : Int))] [] M P) : Runs X mX9_goOver 0 [(0, vr 200), (1, vi x1), (2, vi x2)] [] M P := by
  refine Runs.iconst dX9_goOver_0 (by decide) ?_
  refine Runs.istore_n (loc' := [(0, vr 200), (1, vi x1), (2, vi x2), (3, vi (0 : Int))]) dX9_goOver_1 rfl (by decide) rfl ?_
  exact k
theorem kX9_goOver_2 {X : Scr} {M : Mem} {P : Option AV → Mem → Prop} {x1 x2 x3 : Int} (k1 : (M 200 6) ≤ x3 → Runs X mX9_goOver 74 [] [] M P) (k2 : x3 < (M 200 6) → Runs X mX9_goOver 10 [(0, vr 200), (1, vi x1), (2, vi x2), (3, vi x3)] [] M P) : Runs X mX9_goOver 2 [(0, vr 200), (1, vi x1), (2, vi x2), (3, vi x3)] [] M P := by
  refine Runs.iload_n (j := 3) dX9_goOver_2 rfl ?_
  refine Runs.aload_n (j := 0) dX9_goOver_3 rfl ?_
  refine Runs.geti (ci := 9) (j := 6) (C := RX9) (T := TX9) (N := 48) dX9_goOver_4 rfl cls_X9 (by decide) rfl fl_X9_111 (Or.inl rfl) ?_
  refine Runs.icmp_ge (tgt := 74) dX9_goOver_7 (by decide) (fun h => ?_) (fun h => ?_)
  · refine Runs.picks (loc' := []) [] rfl ?_
    exact k1 h
  · exact k2 h
theorem kX9_goOver_10 {X : Scr} {M : Mem} {P Q : Option AV → Mem → Prop} {x1 x2 x3 : Int} (hC : Call X mX9_has [vi x1, vi x3] M Q) (k : ∀ (z : Int) (M1 : Mem), Q (some (vi z)) M1 → Runs X mX9_goOver 15 [(0, vr 200), (1, vi x1), (2, vi x2), (3, vi x3)] [vi z] M1 P) : Runs X mX9_goOver 10 [(0, vr 200), (1, vi x1), (2, vi x2), (3, vi x3)] [] M P := by
  refine Runs.iload_n (j := 1) dX9_goOver_10 rfl ?_
  refine Runs.iload_n (j := 3) dX9_goOver_11 rfl ?_
  refine Runs.callSi (y := mX9_has) (n := 2) (as := [vi x1, vi x3]) (st := []) dX9_goOver_12 oc_X9_has sm_X9_has ml_X9_186 rfl ⟨(Nat.le_of_ble_eq_true rfl), (Nat.le_of_ble_eq_true rfl)⟩ (Nat.le_of_ble_eq_true rfl) (Nat.le_of_ble_eq_true rfl) (Or.inr rfl) hC (fun z M1 hQ => ?_)
  exact k z M1 hQ
theorem kX9_goOver_15 {X : Scr} {M : Mem} {P : Option AV → Mem → Prop} {x1 x2 x3 xs0 : Int} (k1 : xs0 = 0 → Runs X mX9_goOver 68 [(0, vr 200), (1, vi x1), (2, vi x2), (3, vi x3)] [] M P) (k2 : xs0 ≠ 0 → Runs X mX9_goOver 18 [(0, vr 200), (1, vi x1), (2, vi x2), (3, vi x3)] [] M P) : Runs X mX9_goOver 15 [(0, vr 200), (1, vi x1), (2, vi x2), (3, vi x3)] [vi xs0] M P := by
  refine Runs.if_eq (tgt := 68) dX9_goOver_15 (by decide) (fun h => ?_) (fun h => ?_)
  · exact k1 h
  · exact k2 h
theorem kX9_goOver_18 {X : Scr} {M : Mem} {P Q : Option AV → Mem → Prop} {x1 x2 x3 : Int} (hC : Call X mX9_goHandle [vr 200, vi x3] M Q) (k : ∀ (M1 : Mem), Q none M1 → Runs X mX9_goOver 23 [(0, vr 200), (1, vi x1), (2, vi x2), (3, vi x3)] [] M1 P) : Runs X mX9_goOver 18 [(0, vr 200), (1, vi x1), (2, vi x2), (3, vi x3)] [] M P := by
  refine Runs.aload_n (j := 0) dX9_goOver_18 rfl ?_
  refine Runs.iload_n (j := 3) dX9_goOver_19 rfl ?_
  refine Runs.callVv (y := mX9_goHandle) (n := 1) (as := [vi x3]) (st := []) (q := (RX9, TX9, 48)) dX9_goOver_20 oc_X9_goHandle im_X9_goHandle se_X9_goHandle ml_X9_199 rfl ⟨(Nat.le_of_ble_eq_true rfl), (Nat.le_of_ble_eq_true rfl)⟩ (Nat.le_of_ble_eq_true rfl) (Nat.le_of_ble_eq_true rfl) rfl rfl rfl rfl hC (fun M1 hQ => ?_)
  exact k M1 hQ
theorem kX9_goOver_23 {X : Scr} {M : Mem} {P : Option AV → Mem → Prop} {x1 x2 x3 : Int} (k1 : (8 : Int) ≤ ((up2 M 310 (x3).toNat x2) 313 (x3).toNat) → Runs X mX9_goOver 68 [(0, vr 200), (1, vi x1), (2, vi x2), (3, vi x3)] [] (up2 M 310 (x3).toNat x2) P) (k2 : ((up2 M 310 (x3).toNat x2) 313 (x3).toNat) < (8 : Int) → Runs X mX9_goOver 41 [(0, vr 200), (1, vi x1), (2, vi x2), (3, vi x3)] [] (up2 M 310 (x3).toNat x2) P) (h1 : 0 ≤ x3 := by omega) (h2 : x3 < ((10 : Nat) : Int) := by omega) : Runs X mX9_goOver 23 [(0, vr 200), (1, vi x1), (2, vi x2), (3, vi x3)] [] M P := by
  refine Runs.aload_n (j := 0) dX9_goOver_23 rfl ?_
  refine Runs.getr (o' := 310) (ci := 9) (j := 10) (C := RX9) (T := TX9) (N := 48) dX9_goOver_24 rfl cls_X9 (by decide) rfl fl_X9_30 rfl ⟨rfl, "", Or.inr ⟨_, rfl⟩⟩ ?_
  refine Runs.iload_n (j := 3) dX9_goOver_27 rfl ?_
  refine Runs.iload_n (j := 2) dX9_goOver_28 rfl ?_
  refine Runs.iast dX9_goOver_29 rfl h1 h2 ?_
  refine Runs.aload_n (j := 0) dX9_goOver_30 rfl ?_
  refine Runs.getr (o' := 313) (ci := 9) (j := 13) (C := RX9) (T := TX9) (N := 48) dX9_goOver_31 rfl cls_X9 (by decide) rfl fl_X9_39 rfl ⟨rfl, "", Or.inr ⟨_, rfl⟩⟩ ?_
  refine Runs.iload_n (j := 3) dX9_goOver_34 rfl ?_
  refine Runs.iald dX9_goOver_35 rfl h1 h2 ?_
  refine Runs.bipush dX9_goOver_36 (by decide) (by decide) ?_
  refine Runs.icmp_ge (tgt := 68) dX9_goOver_38 (by decide) (fun h => ?_) (fun h => ?_)
  · exact k1 h
  · exact k2 h
theorem kX9_goOver_41 {X : Scr} {M : Mem} {P : Option AV → Mem → Prop} {x1 x2 x3 : Int} (k : Runs X mX9_goOver 68 [(0, vr 200), (1, vi x1), (2, vi x2), (3, vi x3)] [] (up2 (up2 M 314 ((((8 : Int) * x3) + (M 313 (x3).toNat))).toNat x2) 313 (x3).toNat (((up2 M 314 ((((8 : Int) * x3) + (M 313 (x3).toNat))).toNat x2) 313 (x3).toNat) + (1 : Int))) P) (h1 : -2147483648 ≤ ((8 : Int) * x3) ∧ ((8 : Int) * x3) ≤ 2147483647 := by omega) (h2 : 0 ≤ x3 := by omega) (h3 : x3 < ((10 : Nat) : Int) := by omega) (h4 : -2147483648 ≤ (((8 : Int) * x3) + (M 313 (x3).toNat)) ∧ (((8 : Int) * x3) + (M 313 (x3).toNat)) ≤ 2147483647 := by omega) (h5 : 0 ≤ (((8 : Int) * x3) + (M 313 (x3).toNat)) := by omega) (h6 : (((8 : Int) * x3) + (M 313 (x3).toNat)) < ((80 : Nat) : Int) := by omega) (h7 : -2147483648 ≤ (((up2 M 314 ((((8 : Int) * x3) + (M 313 (x3).toNat))).toNat x2) 313 (x3).toNat) + (1 : Int)) ∧ (((up2 M 314 ((((8 : Int) * x3) + (M 313 (x3).toNat))).toNat x2) 313 (x3).toNat) + (1 : Int)) ≤ 2147483647 := by omega) : Runs X mX9_goOver 41 [(0, vr 200), (1, vi x1), (2, vi x2), (3, vi x3)] [] M P := by
  refine Runs.aload_n (j := 0) dX9_goOver_41 rfl ?_
  refine Runs.getr (o' := 314) (ci := 9) (j := 14) (C := RX9) (T := TX9) (N := 48) dX9_goOver_42 rfl cls_X9 (by decide) rfl fl_X9_42 rfl ⟨rfl, "", Or.inr ⟨_, rfl⟩⟩ ?_
  refine Runs.bipush dX9_goOver_45 (by decide) (by decide) ?_
  refine Runs.iload_n (j := 3) dX9_goOver_47 rfl ?_
  refine Runs.imul dX9_goOver_48 h1 ?_
  refine Runs.aload_n (j := 0) dX9_goOver_49 rfl ?_
  refine Runs.getr (o' := 313) (ci := 9) (j := 13) (C := RX9) (T := TX9) (N := 48) dX9_goOver_50 rfl cls_X9 (by decide) rfl fl_X9_39 rfl ⟨rfl, "", Or.inr ⟨_, rfl⟩⟩ ?_
  refine Runs.iload_n (j := 3) dX9_goOver_53 rfl ?_
  refine Runs.iald dX9_goOver_54 rfl h2 h3 ?_
  refine Runs.iadd dX9_goOver_55 h4 ?_
  refine Runs.iload_n (j := 2) dX9_goOver_56 rfl ?_
  refine Runs.iast dX9_goOver_57 rfl h5 h6 ?_
  refine Runs.aload_n (j := 0) dX9_goOver_58 rfl ?_
  refine Runs.getr (o' := 313) (ci := 9) (j := 13) (C := RX9) (T := TX9) (N := 48) dX9_goOver_59 rfl cls_X9 (by decide) rfl fl_X9_39 rfl ⟨rfl, "", Or.inr ⟨_, rfl⟩⟩ ?_
  refine Runs.iload_n (j := 3) dX9_goOver_62 rfl ?_
  refine Runs.dup2 dX9_goOver_63 (by intro z h; cases h) (by intro z h; cases h) ?_
  refine Runs.iald dX9_goOver_64 rfl h2 h3 ?_
  refine Runs.iconst dX9_goOver_65 (by decide) ?_
  refine Runs.iadd dX9_goOver_66 h7 ?_
  refine Runs.iast dX9_goOver_67 rfl h2 h3 ?_
  exact k
theorem kX9_goOver_68 {X : Scr} {M : Mem} {P : Option AV → Mem → Prop} {x1 x2 x3 : Int} (k : Runs X mX9_goOver 2 [(0, vr 200), (1, vi x1), (2, vi x2), (3, vi (x3 + (1 : Int)))] [] M P) (h1 : -2147483648 ≤ (x3 + (1 : Int)) ∧ (x3 + (1 : Int)) ≤ 2147483647 := by omega) : Runs X mX9_goOver 68 [(0, vr 200), (1, vi x1), (2, vi x2), (3, vi x3)] [] M P := by
  refine Runs.iinc (k := 3) (loc' := [(0, vr 200), (1, vi x1), (2, vi x2), (3, vi (x3 + (1 : Int)))]) dX9_goOver_68 rfl h1 (by decide) rfl ?_
  refine Runs.goto (tgt := 2) dX9_goOver_71 (by decide) ?_
  exact k
theorem kX9_goOver_74 {X : Scr} {M : Mem} {P : Option AV → Mem → Prop} (k : P none M) : Runs X mX9_goOver 74 [] [] M P := by
  exact Runs.ret0 dX9_goOver_74 rfl k
theorem kX9_pay_0 {X : Scr} {M : Mem} {P Q : Option AV → Mem → Prop} {x1 x2 x3 : Int} (hC : Call X mX9_noPay [vi x1, vi x2, vi x3] (up2 M 200 0 (0 : Int)) Q) (k : ∀ (z : Int) (M1 : Mem), Q (some (vi z)) M1 → Runs X mX9_pay 11 [(0, vr 200), (1, vi x1), (2, vi x2), (3, vi x3)] [vi z] M1 P) : Runs X mX9_pay 0 [(0, vr 200), (1, vi x1), (2, vi x2), (3, vi x3)] [] M P := by
  refine Runs.aload_n (j := 0) dX9_pay_0 rfl ?_
  refine Runs.iconst dX9_pay_1 (by decide) ?_
  refine Runs.puti (ci := 9) (j := 0) (C := RX9) (T := TX9) (N := 48) dX9_pay_2 rfl cls_X9 (by decide) rfl fl_X9_108 rfl rfl ?_
  refine Runs.iload_n (j := 1) dX9_pay_5 rfl ?_
  refine Runs.iload_n (j := 2) dX9_pay_6 rfl ?_
  refine Runs.iload_n (j := 3) dX9_pay_7 rfl ?_
  refine Runs.callSi (y := mX9_noPay) (n := 3) (as := [vi x1, vi x2, vi x3]) (st := []) dX9_pay_8 oc_X9_noPay sm_X9_noPay ml_X9_216 rfl ⟨(Nat.le_of_ble_eq_true rfl), (Nat.le_of_ble_eq_true rfl)⟩ (Nat.le_of_ble_eq_true rfl) (Nat.le_of_ble_eq_true rfl) (Or.inl rfl) hC (fun z M1 hQ => ?_)
  exact k z M1 hQ
theorem kX9_pay_11 {X : Scr} {M : Mem} {P : Option AV → Mem → Prop} {x1 x2 x3 xs0 : Int} (k1 : xs0 = 0 → Runs X mX9_pay 21 [(0, vr 200), (1, vi x1), (2, vi x2), (3, vi x3)] [] M P) (k2 : xs0 ≠ 0 → Runs X mX9_pay 18 [(4, vi xs0)] [] M P) : Runs X mX9_pay 11 [(0, vr 200), (1, vi x1), (2, vi x2), (3, vi x3)] [vi xs0] M P := by
  refine Runs.istore (loc' := [(0, vr 200), (1, vi x1), (2, vi x2), (3, vi x3), (4, vi xs0)]) dX9_pay_11 (by decide) rfl ?_
  refine Runs.iload (j := 4) dX9_pay_13 rfl ?_
  refine Runs.if_eq (tgt := 21) dX9_pay_15 (by decide) (fun h => ?_) (fun h => ?_)
  · refine Runs.picks (loc' := [(0, vr 200), (1, vi x1), (2, vi x2), (3, vi x3)]) [0, 1, 2, 3] rfl ?_
    exact k1 h
  · refine Runs.picks (loc' := [(4, vi xs0)]) [4] rfl ?_
    exact k2 h
theorem kX9_pay_18 {X : Scr} {M : Mem} {P : Option AV → Mem → Prop} {x4 : Int} (k : P (some (vi x4)) M) : Runs X mX9_pay 18 [(4, vi x4)] [] M P := by
  refine Runs.iload (j := 0) dX9_pay_18 rfl ?_
  exact Runs.reti dX9_pay_20 rfl k
theorem kX9_pay_21 {X : Scr} {M : Mem} {P Q : Option AV → Mem → Prop} {x1 x2 x3 : Int} (hC : Call X mX9_findFewest [vr 200, vi x1, vi x2, vi x3] M Q) (k : ∀ (z : Int) (M1 : Mem), Q (some (vi z)) M1 → Runs X mX9_pay 28 [(0, vr 200), (1, vi x1), (2, vi x2)] [vi z] M1 P) : Runs X mX9_pay 21 [(0, vr 200), (1, vi x1), (2, vi x2), (3, vi x3)] [] M P := by
  refine Runs.aload_n (j := 0) dX9_pay_21 rfl ?_
  refine Runs.iload_n (j := 1) dX9_pay_22 rfl ?_
  refine Runs.iload_n (j := 2) dX9_pay_23 rfl ?_
  refine Runs.iload_n (j := 3) dX9_pay_24 rfl ?_
  refine Runs.callVi (y := mX9_findFewest) (n := 3) (as := [vi x1, vi x2, vi x3]) (st := []) (q := (RX9, TX9, 48)) dX9_pay_25 oc_X9_findFewest im_X9_findFewest se_X9_findFewest ml_X9_220 rfl ⟨(Nat.le_of_ble_eq_true rfl), (Nat.le_of_ble_eq_true rfl)⟩ (Nat.le_of_ble_eq_true rfl) (Nat.le_of_ble_eq_true rfl) rfl rfl rfl (Or.inl rfl) hC (fun z M1 hQ => ?_)
  refine Runs.picks (loc' := [(0, vr 200), (1, vi x1), (2, vi x2)]) [0, 1, 2] rfl ?_
  exact k z M1 hQ
theorem kX9_pay_28 {X : Scr} {M : Mem} {P : Option AV → Mem → Prop} {x1 x2 xs0 : Int} (k1 : xs0 ≠ (-9 : Int) → Runs X mX9_pay 40 [(0, vr 200), (1, vi x1), (2, vi x2), (5, vi xs0)] [] M P) (k2 : xs0 = (-9 : Int) → Runs X mX9_pay 37 [] [] M P) : Runs X mX9_pay 28 [(0, vr 200), (1, vi x1), (2, vi x2)] [vi xs0] M P := by
  refine Runs.istore (loc' := [(0, vr 200), (1, vi x1), (2, vi x2), (5, vi xs0)]) dX9_pay_28 (by decide) rfl ?_
  refine Runs.iload (j := 3) dX9_pay_30 rfl ?_
  refine Runs.bipush dX9_pay_32 (by decide) (by decide) ?_
  refine Runs.icmp_ne (tgt := 40) dX9_pay_34 (by decide) (fun h => ?_) (fun h => ?_)
  · exact k1 h
  · refine Runs.picks (loc' := []) [] rfl ?_
    exact k2 h
theorem kX9_pay_37 {X : Scr} {M : Mem} {P : Option AV → Mem → Prop} (k : P (some (vi (-3 : Int))) M) : Runs X mX9_pay 37 [] [] M P := by
  refine Runs.bipush dX9_pay_37 (by decide) (by decide) ?_
  exact Runs.reti dX9_pay_39 rfl k
theorem kX9_pay_40 {X : Scr} {M : Mem} {P : Option AV → Mem → Prop} {x1 x2 x5 : Int} (k1 : (M 200 30) ≠ (8 : Int) → Runs X mX9_pay 52 [(0, vr 200), (1, vi x1), (2, vi x2), (5, vi x5)] [] M P) (k2 : (M 200 30) = (8 : Int) → Runs X mX9_pay 49 [] [] M P) : Runs X mX9_pay 40 [(0, vr 200), (1, vi x1), (2, vi x2), (5, vi x5)] [] M P := by
  refine Runs.aload_n (j := 0) dX9_pay_40 rfl ?_
  refine Runs.geti (ci := 9) (j := 30) (C := RX9) (T := TX9) (N := 48) dX9_pay_41 rfl cls_X9 (by decide) rfl fl_X9_169 (Or.inl rfl) ?_
  refine Runs.bipush dX9_pay_44 (by decide) (by decide) ?_
  refine Runs.icmp_ne (tgt := 52) dX9_pay_46 (by decide) (fun h => ?_) (fun h => ?_)
  · exact k1 h
  · refine Runs.picks (loc' := []) [] rfl ?_
    exact k2 h
theorem kX9_pay_49 {X : Scr} {M : Mem} {P : Option AV → Mem → Prop} (k : P (some (vi (-4 : Int))) M) : Runs X mX9_pay 49 [] [] M P := by
  refine Runs.bipush dX9_pay_49 (by decide) (by decide) ?_
  exact Runs.reti dX9_pay_51 rfl k
theorem kX9_pay_52 {X : Scr} {M : Mem} {P Q : Option AV → Mem → Prop} {x1 x2 x5 : Int} (hC : Call X mX9_lay [vr 200, vr 329, vi ((121 : Int) * (M 200 30))] M Q) (k : ∀ (M1 : Mem), Q none M1 → Runs X mX9_pay 67 [(0, vr 200), (1, vi x1), (2, vi x2), (5, vi x5)] [] M1 P) (h1 : -2147483648 ≤ ((121 : Int) * (M 200 30)) ∧ ((121 : Int) * (M 200 30)) ≤ 2147483647 := by omega) : Runs X mX9_pay 52 [(0, vr 200), (1, vi x1), (2, vi x2), (5, vi x5)] [] M P := by
  refine Runs.aload_n (j := 0) dX9_pay_52 rfl ?_
  refine Runs.aload_n (j := 0) dX9_pay_53 rfl ?_
  refine Runs.getr (o' := 329) (ci := 9) (j := 29) (C := RX9) (T := TX9) (N := 48) dX9_pay_54 rfl cls_X9 (by decide) rfl fl_X9_72 rfl ⟨rfl, "", Or.inr ⟨_, rfl⟩⟩ ?_
  refine Runs.bipush dX9_pay_57 (by decide) (by decide) ?_
  refine Runs.aload_n (j := 0) dX9_pay_59 rfl ?_
  refine Runs.geti (ci := 9) (j := 30) (C := RX9) (T := TX9) (N := 48) dX9_pay_60 rfl cls_X9 (by decide) rfl fl_X9_169 (Or.inl rfl) ?_
  refine Runs.imul dX9_pay_63 h1 ?_
  refine Runs.callVv (y := mX9_lay) (n := 2) (as := [vr 329, vi ((121 : Int) * (M 200 30))]) (st := []) (q := (RX9, TX9, 48)) dX9_pay_64 oc_X9_lay im_X9_lay se_X9_lay ml_X9_223 rfl ⟨(Nat.le_of_ble_eq_true rfl), (Nat.le_of_ble_eq_true rfl)⟩ (Nat.le_of_ble_eq_true rfl) (Nat.le_of_ble_eq_true rfl) rfl rfl rfl rfl hC (fun M1 hQ => ?_)
  exact k M1 hQ
theorem kX9_pay_67 {X : Scr} {M : Mem} {P Q : Option AV → Mem → Prop} {x1 x2 x5 : Int} (hC : Call X mX9_goOver [vr 200, vi ((up2 M 200 30 ((M 200 30) + (1 : Int))) 200 39), vi x2] (up2 M 200 30 ((M 200 30) + (1 : Int))) Q) (k : ∀ (M1 : Mem), Q none M1 → Runs X mX9_pay 86 [(0, vr 200), (1, vi x1), (5, vi x5)] [] M1 P) (h1 : -2147483648 ≤ ((M 200 30) + (1 : Int)) ∧ ((M 200 30) + (1 : Int)) ≤ 2147483647 := by omega) : Runs X mX9_pay 67 [(0, vr 200), (1, vi x1), (2, vi x2), (5, vi x5)] [] M P := by
  refine Runs.aload_n (j := 0) dX9_pay_67 rfl ?_
  refine Runs.dup dX9_pay_68 (by intro z h; cases h) ?_
  refine Runs.geti (ci := 9) (j := 30) (C := RX9) (T := TX9) (N := 48) dX9_pay_69 rfl cls_X9 (by decide) rfl fl_X9_169 (Or.inl rfl) ?_
  refine Runs.iconst dX9_pay_72 (by decide) ?_
  refine Runs.iadd dX9_pay_73 h1 ?_
  refine Runs.puti (ci := 9) (j := 30) (C := RX9) (T := TX9) (N := 48) dX9_pay_74 rfl cls_X9 (by decide) rfl fl_X9_169 rfl rfl ?_
  refine Runs.aload_n (j := 0) dX9_pay_77 rfl ?_
  refine Runs.aload_n (j := 0) dX9_pay_78 rfl ?_
  refine Runs.geti (ci := 9) (j := 39) (C := RX9) (T := TX9) (N := 48) dX9_pay_79 rfl cls_X9 (by decide) rfl fl_X9_205 (Or.inl rfl) ?_
  refine Runs.iload_n (j := 2) dX9_pay_82 rfl ?_
  refine Runs.callVv (y := mX9_goOver) (n := 2) (as := [vi ((up2 M 200 30 ((M 200 30) + (1 : Int))) 200 39), vi x2]) (st := []) (q := (RX9, TX9, 48)) dX9_pay_83 oc_X9_goOver im_X9_goOver se_X9_goOver ml_X9_227 rfl ⟨(Nat.le_of_ble_eq_true rfl), (Nat.le_of_ble_eq_true rfl)⟩ (Nat.le_of_ble_eq_true rfl) (Nat.le_of_ble_eq_true rfl) rfl rfl rfl rfl hC (fun M1 hQ => ?_)
  refine Runs.picks (loc' := [(0, vr 200), (1, vi x1), (5, vi x5)]) [0, 1, 3] rfl ?_
  exact k M1 hQ
theorem kX9_pay_86 {X : Scr} {M : Mem} {P Q : Option AV → Mem → Prop} {x1 x5 : Int} (hC : Call X mX9_goOver [vr 200, vi (M 200 40), vi x1] M Q) (k : ∀ (M1 : Mem), Q none M1 → Runs X mX9_pay 95 [(5, vi x5)] [] M1 P) : Runs X mX9_pay 86 [(0, vr 200), (1, vi x1), (5, vi x5)] [] M P := by
  refine Runs.aload_n (j := 0) dX9_pay_86 rfl ?_
  refine Runs.aload_n (j := 0) dX9_pay_87 rfl ?_
  refine Runs.geti (ci := 9) (j := 40) (C := RX9) (T := TX9) (N := 48) dX9_pay_88 rfl cls_X9 (by decide) rfl fl_X9_208 (Or.inl rfl) ?_
  refine Runs.iload_n (j := 1) dX9_pay_91 rfl ?_
  refine Runs.callVv (y := mX9_goOver) (n := 2) (as := [vi (M 200 40), vi x1]) (st := []) (q := (RX9, TX9, 48)) dX9_pay_92 oc_X9_goOver im_X9_goOver se_X9_goOver ml_X9_227 rfl ⟨(Nat.le_of_ble_eq_true rfl), (Nat.le_of_ble_eq_true rfl)⟩ (Nat.le_of_ble_eq_true rfl) (Nat.le_of_ble_eq_true rfl) rfl rfl rfl rfl hC (fun M1 hQ => ?_)
  refine Runs.picks (loc' := [(5, vi x5)]) [2] rfl ?_
  exact k M1 hQ
theorem kX9_pay_95 {X : Scr} {M : Mem} {P : Option AV → Mem → Prop} {x5 : Int} (k : P (some (vi x5)) M) : Runs X mX9_pay 95 [(5, vi x5)] [] M P := by
  refine Runs.iload (j := 0) dX9_pay_95 rfl ?_
  exact Runs.reti dX9_pay_97 rfl k
theorem kX9_undo_0 {X : Scr} {M : Mem} {P : Option AV → Mem → Prop} (k1 : ((up2 M 200 0 (0 : Int)) 200 30) ≠ 0 → Runs X mX9_undo 15 [(0, vr 200)] [] (up2 M 200 0 (0 : Int)) P) (k2 : ((up2 M 200 0 (0 : Int)) 200 30) = 0 → Runs X mX9_undo 12 [] [] (up2 M 200 0 (0 : Int)) P) : Runs X mX9_undo 0 [(0, vr 200)] [] M P := by
  refine Runs.aload_n (j := 0) dX9_undo_0 rfl ?_
  refine Runs.iconst dX9_undo_1 (by decide) ?_
  refine Runs.puti (ci := 9) (j := 0) (C := RX9) (T := TX9) (N := 48) dX9_undo_2 rfl cls_X9 (by decide) rfl fl_X9_108 rfl rfl ?_
  refine Runs.aload_n (j := 0) dX9_undo_5 rfl ?_
  refine Runs.geti (ci := 9) (j := 30) (C := RX9) (T := TX9) (N := 48) dX9_undo_6 rfl cls_X9 (by decide) rfl fl_X9_169 (Or.inl rfl) ?_
  refine Runs.if_ne (tgt := 15) dX9_undo_9 (by decide) (fun h => ?_) (fun h => ?_)
  · exact k1 h
  · refine Runs.picks (loc' := []) [] rfl ?_
    exact k2 h
theorem kX9_undo_12 {X : Scr} {M : Mem} {P : Option AV → Mem → Prop} (k : P (some (vi (-3 : Int))) M) : Runs X mX9_undo 12 [] [] M P := by
  refine Runs.bipush dX9_undo_12 (by decide) (by decide) ?_
  exact Runs.reti dX9_undo_14 rfl k
theorem kX9_undo_15 {X : Scr} {M : Mem} {P Q : Option AV → Mem → Prop} (hC : Call X mX9_take [vr 200, vr 329, vi ((121 : Int) * ((up2 M 200 30 ((M 200 30) - (1 : Int))) 200 30))] (up2 M 200 30 ((M 200 30) - (1 : Int))) Q) (k : ∀ (M1 : Mem), Q none M1 → Runs X mX9_undo 40 [(0, vr 200)] [] M1 P) (h1 : -2147483648 ≤ ((M 200 30) - (1 : Int)) ∧ ((M 200 30) - (1 : Int)) ≤ 2147483647 := by omega) (h2 : -2147483648 ≤ ((121 : Int) * ((up2 M 200 30 ((M 200 30) - (1 : Int))) 200 30)) ∧ ((121 : Int) * ((up2 M 200 30 ((M 200 30) - (1 : Int))) 200 30)) ≤ 2147483647 := by omega) : Runs X mX9_undo 15 [(0, vr 200)] [] M P := by
  refine Runs.aload_n (j := 0) dX9_undo_15 rfl ?_
  refine Runs.dup dX9_undo_16 (by intro z h; cases h) ?_
  refine Runs.geti (ci := 9) (j := 30) (C := RX9) (T := TX9) (N := 48) dX9_undo_17 rfl cls_X9 (by decide) rfl fl_X9_169 (Or.inl rfl) ?_
  refine Runs.iconst dX9_undo_20 (by decide) ?_
  refine Runs.isub dX9_undo_21 h1 ?_
  refine Runs.puti (ci := 9) (j := 30) (C := RX9) (T := TX9) (N := 48) dX9_undo_22 rfl cls_X9 (by decide) rfl fl_X9_169 rfl rfl ?_
  refine Runs.aload_n (j := 0) dX9_undo_25 rfl ?_
  refine Runs.aload_n (j := 0) dX9_undo_26 rfl ?_
  refine Runs.getr (o' := 329) (ci := 9) (j := 29) (C := RX9) (T := TX9) (N := 48) dX9_undo_27 rfl cls_X9 (by decide) rfl fl_X9_72 rfl ⟨rfl, "", Or.inr ⟨_, rfl⟩⟩ ?_
  refine Runs.bipush dX9_undo_30 (by decide) (by decide) ?_
  refine Runs.aload_n (j := 0) dX9_undo_32 rfl ?_
  refine Runs.geti (ci := 9) (j := 30) (C := RX9) (T := TX9) (N := 48) dX9_undo_33 rfl cls_X9 (by decide) rfl fl_X9_169 (Or.inl rfl) ?_
  refine Runs.imul dX9_undo_36 h2 ?_
  refine Runs.callVv (y := mX9_take) (n := 2) (as := [vr 329, vi ((121 : Int) * ((up2 M 200 30 ((M 200 30) - (1 : Int))) 200 30))]) (st := []) (q := (RX9, TX9, 48)) dX9_undo_37 oc_X9_take im_X9_take se_X9_take ml_X9_231 rfl ⟨(Nat.le_of_ble_eq_true rfl), (Nat.le_of_ble_eq_true rfl)⟩ (Nat.le_of_ble_eq_true rfl) (Nat.le_of_ble_eq_true rfl) rfl rfl rfl rfl hC (fun M1 hQ => ?_)
  exact k M1 hQ
theorem kX9_undo_40 {X : Scr} {M : Mem} {P : Option AV → Mem → Prop} (k : P (some (vi (M 200 30))) M) : Runs X mX9_undo 40 [(0, vr 200)] [] M P := by
  refine Runs.aload_n (j := 0) dX9_undo_40 rfl ?_
  refine Runs.geti (ci := 9) (j := 30) (C := RX9) (T := TX9) (N := 48) dX9_undo_41 rfl cls_X9 (by decide) rfl fl_X9_169 (Or.inl rfl) ?_
  exact Runs.reti dX9_undo_44 rfl k
theorem kX9_findMuch_0 {X : Scr} {M : Mem} {P Q : Option AV → Mem → Prop} {x1 x2 : Int} (hC : Call X mX9_setOf [vr 200, vi x1] M Q) (k : ∀ (z : Int) (M1 : Mem), Q (some (vi z)) M1 → Runs X mX9_findMuch 5 [(0, vr 200), (2, vi x2)] [vi z] M1 P) : Runs X mX9_findMuch 0 [(0, vr 200), (1, vi x1), (2, vi x2)] [] M P := by
  refine Runs.aload_n (j := 0) dX9_findMuch_0 rfl ?_
  refine Runs.iload_n (j := 1) dX9_findMuch_1 rfl ?_
  refine Runs.callVi (y := mX9_setOf) (n := 1) (as := [vi x1]) (st := []) (q := (RX9, TX9, 48)) dX9_findMuch_2 oc_X9_setOf im_X9_setOf se_X9_setOf ml_X9_193 rfl ⟨(Nat.le_of_ble_eq_true rfl), (Nat.le_of_ble_eq_true rfl)⟩ (Nat.le_of_ble_eq_true rfl) (Nat.le_of_ble_eq_true rfl) rfl rfl rfl (Or.inl rfl) hC (fun z M1 hQ => ?_)
  refine Runs.picks (loc' := [(0, vr 200), (2, vi x2)]) [0, 2] rfl ?_
  exact k z M1 hQ
theorem kX9_findMuch_5 {X : Scr} {M : Mem} {P : Option AV → Mem → Prop} {x2 xs0 : Int} (k : Runs X mX9_findMuch 16 [(0, vr 200), (2, vi x2), (3, vi xs0), (4, vi (-9 : Int)), (5, vi (0 : Int)), (6, vi (1 : Int))] [] M P) : Runs X mX9_findMuch 5 [(0, vr 200), (2, vi x2)] [vi xs0] M P := by
  refine Runs.istore_n (loc' := [(0, vr 200), (2, vi x2), (3, vi xs0)]) dX9_findMuch_5 rfl (by decide) rfl ?_
  refine Runs.bipush dX9_findMuch_6 (by decide) (by decide) ?_
  refine Runs.istore (loc' := [(0, vr 200), (2, vi x2), (3, vi xs0), (4, vi (-9 : Int))]) dX9_findMuch_8 (by decide) rfl ?_
  refine Runs.iconst dX9_findMuch_10 (by decide) ?_
  refine Runs.istore (loc' := [(0, vr 200), (2, vi x2), (3, vi xs0), (4, vi (-9 : Int)), (5, vi (0 : Int))]) dX9_findMuch_11 (by decide) rfl ?_
  refine Runs.iconst dX9_findMuch_13 (by decide) ?_
  refine Runs.istore (loc' := [(0, vr 200), (2, vi x2), (3, vi xs0), (4, vi (-9 : Int)), (5, vi (0 : Int)), (6, vi (1 : Int))]) dX9_findMuch_14 (by decide) rfl ?_
  exact k
theorem kX9_findMuch_16 {X : Scr} {M : Mem} {P : Option AV → Mem → Prop} {x2 x3 x4 x5 x6 : Int} (k1 : x6 = 0 → Runs X mX9_findMuch 116 [(4, vi x4)] [] M P) (k2 : x6 ≠ 0 → Runs X mX9_findMuch 21 [(0, vr 200), (2, vi x2), (3, vi x3), (4, vi x4), (5, vi x5)] [] M P) : Runs X mX9_findMuch 16 [(0, vr 200), (2, vi x2), (3, vi x3), (4, vi x4), (5, vi x5), (6, vi x6)] [] M P := by
  refine Runs.iload (j := 5) dX9_findMuch_16 rfl ?_
  refine Runs.if_eq (tgt := 116) dX9_findMuch_18 (by decide) (fun h => ?_) (fun h => ?_)
  · refine Runs.picks (loc' := [(4, vi x4)]) [3] rfl ?_
    exact k1 h
  · refine Runs.picks (loc' := [(0, vr 200), (2, vi x2), (3, vi x3), (4, vi x4), (5, vi x5)]) [0, 1, 2, 3, 4] rfl ?_
    exact k2 h
theorem kX9_findMuch_21 {X : Scr} {M : Mem} {P Q : Option AV → Mem → Prop} {x2 x3 x4 x5 : Int} (hC : Call X mX9_worthOf [vr 200, vi x5] M Q) (k : ∀ (z : Int) (M1 : Mem), Q (some (vi z)) M1 → Runs X mX9_findMuch 27 [(0, vr 200), (2, vi x2), (3, vi x3), (4, vi x4), (5, vi x5)] [vi z] M1 P) : Runs X mX9_findMuch 21 [(0, vr 200), (2, vi x2), (3, vi x3), (4, vi x4), (5, vi x5)] [] M P := by
  refine Runs.aload_n (j := 0) dX9_findMuch_21 rfl ?_
  refine Runs.iload (j := 4) dX9_findMuch_22 rfl ?_
  refine Runs.callVi (y := mX9_worthOf) (n := 1) (as := [vi x5]) (st := []) (q := (RX9, TX9, 48)) dX9_findMuch_24 oc_X9_worthOf im_X9_worthOf se_X9_worthOf ml_X9_196 rfl ⟨(Nat.le_of_ble_eq_true rfl), (Nat.le_of_ble_eq_true rfl)⟩ (Nat.le_of_ble_eq_true rfl) (Nat.le_of_ble_eq_true rfl) rfl rfl rfl (Or.inl rfl) hC (fun z M1 hQ => ?_)
  exact k z M1 hQ
theorem kX9_findMuch_27 {X : Scr} {M : Mem} {P : Option AV → Mem → Prop} {x2 x3 x4 x5 xs0 : Int} (k1 : x4 = (-9 : Int) → Runs X mX9_findMuch 65 [(0, vr 200), (2, vi x2), (3, vi x3), (4, vi x4), (5, vi x5), (7, vi xs0)] [] M P) (k2 : x4 ≠ (-9 : Int) → Runs X mX9_findMuch 36 [(0, vr 200), (2, vi x2), (3, vi x3), (4, vi x4), (5, vi x5), (7, vi xs0)] [] M P) : Runs X mX9_findMuch 27 [(0, vr 200), (2, vi x2), (3, vi x3), (4, vi x4), (5, vi x5)] [vi xs0] M P := by
  refine Runs.istore (loc' := [(0, vr 200), (2, vi x2), (3, vi x3), (4, vi x4), (5, vi x5), (7, vi xs0)]) dX9_findMuch_27 (by decide) rfl ?_
  refine Runs.iload (j := 3) dX9_findMuch_29 rfl ?_
  refine Runs.bipush dX9_findMuch_31 (by decide) (by decide) ?_
  refine Runs.icmp_eq (tgt := 65) dX9_findMuch_33 (by decide) (fun h => ?_) (fun h => ?_)
  · exact k1 h
  · exact k2 h
theorem kX9_findMuch_36 {X : Scr} {M : Mem} {P : Option AV → Mem → Prop} {x2 x3 x4 x5 x7 : Int} (k1 : x7 < x4 → Runs X mX9_findMuch 65 [(0, vr 200), (2, vi x2), (3, vi x3), (4, vi x4), (5, vi x5), (7, vi x7)] [] M P) (k2 : x4 ≤ x7 → Runs X mX9_findMuch 43 [(0, vr 200), (2, vi x2), (3, vi x3), (4, vi x4), (5, vi x5), (7, vi x7)] [] M P) : Runs X mX9_findMuch 36 [(0, vr 200), (2, vi x2), (3, vi x3), (4, vi x4), (5, vi x5), (7, vi x7)] [] M P := by
  refine Runs.iload (j := 5) dX9_findMuch_36 rfl ?_
  refine Runs.iload (j := 3) dX9_findMuch_38 rfl ?_
  refine Runs.icmp_lt (tgt := 65) dX9_findMuch_40 (by decide) (fun h => ?_) (fun h => ?_)
  · exact k1 h
  · exact k2 h
theorem kX9_findMuch_43 {X : Scr} {M : Mem} {P : Option AV → Mem → Prop} {x2 x3 x4 x5 x7 : Int} (k1 : x7 ≠ x4 → Runs X mX9_findMuch 69 [(0, vr 200), (2, vi x2), (3, vi x3), (4, vi x4), (5, vi x5), (7, vi x7)] [] M P) (k2 : x7 = x4 → Runs X mX9_findMuch 50 [(0, vr 200), (2, vi x2), (3, vi x3), (4, vi x4), (5, vi x5), (7, vi x7)] [] M P) : Runs X mX9_findMuch 43 [(0, vr 200), (2, vi x2), (3, vi x3), (4, vi x4), (5, vi x5), (7, vi x7)] [] M P := by
  refine Runs.iload (j := 5) dX9_findMuch_43 rfl ?_
  refine Runs.iload (j := 3) dX9_findMuch_45 rfl ?_
  refine Runs.icmp_ne (tgt := 69) dX9_findMuch_47 (by decide) (fun h => ?_) (fun h => ?_)
  · exact k1 h
  · exact k2 h
theorem kX9_findMuch_50 {X : Scr} {M : Mem} {P Q : Option AV → Mem → Prop} {x2 x3 x4 x5 x7 : Int} (hC : Call X mX9_many [vi x5] M Q) (k : ∀ (z : Int) (M1 : Mem), Q (some (vi z)) M1 → Runs X mX9_findMuch 55 [(0, vr 200), (2, vi x2), (3, vi x3), (4, vi x4), (5, vi x5), (7, vi x7)] [vi z] M1 P) : Runs X mX9_findMuch 50 [(0, vr 200), (2, vi x2), (3, vi x3), (4, vi x4), (5, vi x5), (7, vi x7)] [] M P := by
  refine Runs.iload (j := 4) dX9_findMuch_50 rfl ?_
  refine Runs.callSi (y := mX9_many) (n := 1) (as := [vi x5]) (st := []) dX9_findMuch_52 oc_X9_many sm_X9_many ml_X9_202 rfl ⟨(Nat.le_of_ble_eq_true rfl), (Nat.le_of_ble_eq_true rfl)⟩ (Nat.le_of_ble_eq_true rfl) (Nat.le_of_ble_eq_true rfl) (Or.inl rfl) hC (fun z M1 hQ => ?_)
  exact k z M1 hQ
theorem kX9_findMuch_55 {X : Scr} {M : Mem} {P Q : Option AV → Mem → Prop} {x2 x3 x4 x5 x7 xs0 : Int} (hC : Call X mX9_many [vi (M 200 41)] M Q) (k : ∀ (z : Int) (M1 : Mem), Q (some (vi z)) M1 → Runs X mX9_findMuch 62 [(0, vr 200), (2, vi x2), (3, vi x3), (4, vi x4), (5, vi x5), (7, vi x7)] [vi z, vi xs0] M1 P) : Runs X mX9_findMuch 55 [(0, vr 200), (2, vi x2), (3, vi x3), (4, vi x4), (5, vi x5), (7, vi x7)] [vi xs0] M P := by
  refine Runs.aload_n (j := 0) dX9_findMuch_55 rfl ?_
  refine Runs.geti (ci := 9) (j := 41) (C := RX9) (T := TX9) (N := 48) dX9_findMuch_56 rfl cls_X9 (by decide) rfl fl_X9_234 (Or.inl rfl) ?_
  refine Runs.callSi (y := mX9_many) (n := 1) (as := [vi (M 200 41)]) (st := [vi xs0]) dX9_findMuch_59 oc_X9_many sm_X9_many ml_X9_202 rfl ⟨(Nat.le_of_ble_eq_true rfl), (Nat.le_of_ble_eq_true rfl)⟩ (Nat.le_of_ble_eq_true rfl) (Nat.le_of_ble_eq_true rfl) (Or.inl rfl) hC (fun z M1 hQ => ?_)
  exact k z M1 hQ
theorem kX9_findMuch_62 {X : Scr} {M : Mem} {P : Option AV → Mem → Prop} {x2 x3 x4 x5 x7 xs0 xs1 : Int} (k1 : xs1 ≤ xs0 → Runs X mX9_findMuch 69 [(0, vr 200), (2, vi x2), (3, vi x3), (4, vi x4), (5, vi x5), (7, vi x7)] [] M P) (k2 : xs0 < xs1 → Runs X mX9_findMuch 65 [(0, vr 200), (2, vi x2), (3, vi x3), (4, vi x4), (5, vi x5), (7, vi x7)] [] M P) : Runs X mX9_findMuch 62 [(0, vr 200), (2, vi x2), (3, vi x3), (4, vi x4), (5, vi x5), (7, vi x7)] [vi xs1, vi xs0] M P := by
  refine Runs.icmp_ge (tgt := 69) dX9_findMuch_62 (by decide) (fun h => ?_) (fun h => ?_)
  · exact k1 h
  · exact k2 h
theorem kX9_findMuch_65 {X : Scr} {M : Mem} {P : Option AV → Mem → Prop} {x2 x3 x4 x5 x7 : Int} (k : Runs X mX9_findMuch 70 [(0, vr 200), (2, vi x2), (3, vi x3), (4, vi x4), (5, vi x5), (7, vi x7)] [vi (1 : Int)] M P) : Runs X mX9_findMuch 65 [(0, vr 200), (2, vi x2), (3, vi x3), (4, vi x4), (5, vi x5), (7, vi x7)] [] M P := by
  refine Runs.iconst dX9_findMuch_65 (by decide) ?_
  refine Runs.goto (tgt := 70) dX9_findMuch_66 (by decide) ?_
  exact k
theorem kX9_findMuch_69 {X : Scr} {M : Mem} {P : Option AV → Mem → Prop} {x2 x3 x4 x5 x7 : Int} (k : Runs X mX9_findMuch 70 [(0, vr 200), (2, vi x2), (3, vi x3), (4, vi x4), (5, vi x5), (7, vi x7)] [vi (0 : Int)] M P) : Runs X mX9_findMuch 69 [(0, vr 200), (2, vi x2), (3, vi x3), (4, vi x4), (5, vi x5), (7, vi x7)] [] M P := by
  refine Runs.iconst dX9_findMuch_69 (by decide) ?_
  exact k
theorem kX9_findMuch_70 {X : Scr} {M : Mem} {P : Option AV → Mem → Prop} {x2 x3 x4 x5 x7 xs0 : Int} (k1 : x7 < x2 → Runs X mX9_findMuch 93 [(0, vr 200), (2, vi x2), (3, vi x3), (4, vi x4), (5, vi x5)] [] M P) (k2 : x2 ≤ x7 → Runs X mX9_findMuch 78 [(0, vr 200), (2, vi x2), (3, vi x3), (4, vi x4), (5, vi x5), (7, vi x7), (8, vi xs0)] [] M P) : Runs X mX9_findMuch 70 [(0, vr 200), (2, vi x2), (3, vi x3), (4, vi x4), (5, vi x5), (7, vi x7)] [vi xs0] M P := by
  refine Runs.istore (loc' := [(0, vr 200), (2, vi x2), (3, vi x3), (4, vi x4), (5, vi x5), (7, vi x7), (8, vi xs0)]) dX9_findMuch_70 (by decide) rfl ?_
  refine Runs.iload (j := 5) dX9_findMuch_72 rfl ?_
  refine Runs.iload_n (j := 1) dX9_findMuch_74 rfl ?_
  refine Runs.icmp_lt (tgt := 93) dX9_findMuch_75 (by decide) (fun h => ?_) (fun h => ?_)
  · refine Runs.picks (loc' := [(0, vr 200), (2, vi x2), (3, vi x3), (4, vi x4), (5, vi x5)]) [0, 1, 2, 3, 4] rfl ?_
    exact k1 h
  · exact k2 h
theorem kX9_findMuch_78 {X : Scr} {M : Mem} {P : Option AV → Mem → Prop} {x2 x3 x4 x5 x7 x8 : Int} (k1 : x8 = 0 → Runs X mX9_findMuch 93 [(0, vr 200), (2, vi x2), (3, vi x3), (4, vi x4), (5, vi x5)] [] M P) (k2 : x8 ≠ 0 → Runs X mX9_findMuch 83 [(0, vr 200), (2, vi x2), (3, vi x3), (5, vi x5), (7, vi x7)] [] M P) : Runs X mX9_findMuch 78 [(0, vr 200), (2, vi x2), (3, vi x3), (4, vi x4), (5, vi x5), (7, vi x7), (8, vi x8)] [] M P := by
  refine Runs.iload (j := 6) dX9_findMuch_78 rfl ?_
  refine Runs.if_eq (tgt := 93) dX9_findMuch_80 (by decide) (fun h => ?_) (fun h => ?_)
  · refine Runs.picks (loc' := [(0, vr 200), (2, vi x2), (3, vi x3), (4, vi x4), (5, vi x5)]) [0, 1, 2, 3, 4] rfl ?_
    exact k1 h
  · refine Runs.picks (loc' := [(0, vr 200), (2, vi x2), (3, vi x3), (5, vi x5), (7, vi x7)]) [0, 1, 2, 4, 5] rfl ?_
    exact k2 h
theorem kX9_findMuch_83 {X : Scr} {M : Mem} {P : Option AV → Mem → Prop} {x2 x3 x5 x7 : Int} (k : Runs X mX9_findMuch 93 [(0, vr 200), (2, vi x2), (3, vi x3), (4, vi x7), (5, vi x5)] [] (up2 M 200 41 x5) P) : Runs X mX9_findMuch 83 [(0, vr 200), (2, vi x2), (3, vi x3), (5, vi x5), (7, vi x7)] [] M P := by
  refine Runs.iload (j := 4) dX9_findMuch_83 rfl ?_
  refine Runs.istore (loc' := [(0, vr 200), (2, vi x2), (3, vi x3), (4, vi x7), (5, vi x5), (7, vi x7)]) dX9_findMuch_85 (by decide) rfl ?_
  refine Runs.aload_n (j := 0) dX9_findMuch_87 rfl ?_
  refine Runs.iload (j := 4) dX9_findMuch_88 rfl ?_
  refine Runs.puti (ci := 9) (j := 41) (C := RX9) (T := TX9) (N := 48) dX9_findMuch_90 rfl cls_X9 (by decide) rfl fl_X9_234 rfl rfl ?_
  refine Runs.picks (loc' := [(0, vr 200), (2, vi x2), (3, vi x3), (4, vi x7), (5, vi x5)]) [0, 1, 2, 3, 4] rfl ?_
  exact k
theorem kX9_findMuch_93 {X : Scr} {M : Mem} {P Q : Option AV → Mem → Prop} {x2 x3 x4 x5 : Int} (hC : Call X mX9_next [vi x5, vi x3] M Q) (k : ∀ (z : Int) (M1 : Mem), Q (some (vi z)) M1 → Runs X mX9_findMuch 99 [(0, vr 200), (2, vi x2), (3, vi x3), (4, vi x4)] [vi z] M1 P) : Runs X mX9_findMuch 93 [(0, vr 200), (2, vi x2), (3, vi x3), (4, vi x4), (5, vi x5)] [] M P := by
  refine Runs.iload (j := 4) dX9_findMuch_93 rfl ?_
  refine Runs.iload_n (j := 2) dX9_findMuch_95 rfl ?_
  refine Runs.callSi (y := mX9_next) (n := 2) (as := [vi x5, vi x3]) (st := []) dX9_findMuch_96 oc_X9_next sm_X9_next ml_X9_211 rfl ⟨(Nat.le_of_ble_eq_true rfl), (Nat.le_of_ble_eq_true rfl)⟩ (Nat.le_of_ble_eq_true rfl) (Nat.le_of_ble_eq_true rfl) (Or.inl rfl) hC (fun z M1 hQ => ?_)
  refine Runs.picks (loc' := [(0, vr 200), (2, vi x2), (3, vi x3), (4, vi x4)]) [0, 1, 2, 3] rfl ?_
  exact k z M1 hQ
theorem kX9_findMuch_99 {X : Scr} {M : Mem} {P : Option AV → Mem → Prop} {x2 x3 x4 xs0 : Int} (k1 : xs0 = 0 → Runs X mX9_findMuch 110 [(0, vr 200), (2, vi x2), (3, vi x3), (4, vi x4), (5, vi xs0)] [] M P) (k2 : xs0 ≠ 0 → Runs X mX9_findMuch 106 [(0, vr 200), (2, vi x2), (3, vi x3), (4, vi x4), (5, vi xs0)] [] M P) : Runs X mX9_findMuch 99 [(0, vr 200), (2, vi x2), (3, vi x3), (4, vi x4)] [vi xs0] M P := by
  refine Runs.istore (loc' := [(0, vr 200), (2, vi x2), (3, vi x3), (4, vi x4), (5, vi xs0)]) dX9_findMuch_99 (by decide) rfl ?_
  refine Runs.iload (j := 4) dX9_findMuch_101 rfl ?_
  refine Runs.if_eq (tgt := 110) dX9_findMuch_103 (by decide) (fun h => ?_) (fun h => ?_)
  · exact k1 h
  · exact k2 h
theorem kX9_findMuch_106 {X : Scr} {M : Mem} {P : Option AV → Mem → Prop} {x2 x3 x4 x5 : Int} (k : Runs X mX9_findMuch 111 [(0, vr 200), (2, vi x2), (3, vi x3), (4, vi x4), (5, vi x5)] [vi (1 : Int)] M P) : Runs X mX9_findMuch 106 [(0, vr 200), (2, vi x2), (3, vi x3), (4, vi x4), (5, vi x5)] [] M P := by
  refine Runs.iconst dX9_findMuch_106 (by decide) ?_
  refine Runs.goto (tgt := 111) dX9_findMuch_107 (by decide) ?_
  exact k
theorem kX9_findMuch_110 {X : Scr} {M : Mem} {P : Option AV → Mem → Prop} {x2 x3 x4 x5 : Int} (k : Runs X mX9_findMuch 111 [(0, vr 200), (2, vi x2), (3, vi x3), (4, vi x4), (5, vi x5)] [vi (0 : Int)] M P) : Runs X mX9_findMuch 110 [(0, vr 200), (2, vi x2), (3, vi x3), (4, vi x4), (5, vi x5)] [] M P := by
  refine Runs.iconst dX9_findMuch_110 (by decide) ?_
  exact k
theorem kX9_findMuch_111 {X : Scr} {M : Mem} {P : Option AV → Mem → Prop} {x2 x3 x4 x5 xs0 : Int} (k : Runs X mX9_findMuch 16 [(0, vr 200), (2, vi x2), (3, vi x3), (4, vi x4), (5, vi x5), (6, vi xs0)] [] M P) : Runs X mX9_findMuch 111 [(0, vr 200), (2, vi x2), (3, vi x3), (4, vi x4), (5, vi x5)] [vi xs0] M P := by
  refine Runs.istore (loc' := [(0, vr 200), (2, vi x2), (3, vi x3), (4, vi x4), (5, vi x5), (6, vi xs0)]) dX9_findMuch_111 (by decide) rfl ?_
  refine Runs.goto (tgt := 16) dX9_findMuch_113 (by decide) ?_
  exact k
theorem kX9_findMuch_116 {X : Scr} {M : Mem} {P : Option AV → Mem → Prop} {x4 : Int} (k : P (some (vi x4)) M) : Runs X mX9_findMuch 116 [(4, vi x4)] [] M P := by
  refine Runs.iload (j := 0) dX9_findMuch_116 rfl ?_
  exact Runs.reti dX9_findMuch_118 rfl k
theorem kX9_tooMuch_0 {X : Scr} {M : Mem} {P Q : Option AV → Mem → Prop} {x1 x2 x3 : Int} (hC : Call X mX9_noOne [vi x1] (up2 M 200 0 (0 : Int)) Q) (k : ∀ (z : Int) (M1 : Mem), Q (some (vi z)) M1 → Runs X mX9_tooMuch 9 [(0, vr 200), (1, vi x1), (2, vi x2), (3, vi x3)] [vi z] M1 P) : Runs X mX9_tooMuch 0 [(0, vr 200), (1, vi x1), (2, vi x2), (3, vi x3)] [] M P := by
  refine Runs.aload_n (j := 0) dX9_tooMuch_0 rfl ?_
  refine Runs.iconst dX9_tooMuch_1 (by decide) ?_
  refine Runs.puti (ci := 9) (j := 0) (C := RX9) (T := TX9) (N := 48) dX9_tooMuch_2 rfl cls_X9 (by decide) rfl fl_X9_108 rfl rfl ?_
  refine Runs.iload_n (j := 1) dX9_tooMuch_5 rfl ?_
  refine Runs.callSi (y := mX9_noOne) (n := 1) (as := [vi x1]) (st := []) dX9_tooMuch_6 oc_X9_noOne sm_X9_noOne ml_X9_190 rfl ⟨(Nat.le_of_ble_eq_true rfl), (Nat.le_of_ble_eq_true rfl)⟩ (Nat.le_of_ble_eq_true rfl) (Nat.le_of_ble_eq_true rfl) (Or.inr rfl) hC (fun z M1 hQ => ?_)
  exact k z M1 hQ
theorem kX9_tooMuch_9 {X : Scr} {M : Mem} {P : Option AV → Mem → Prop} {x1 x2 x3 xs0 : Int} (k1 : xs0 = 0 → Runs X mX9_tooMuch 14 [(0, vr 200), (1, vi x1), (2, vi x2), (3, vi x3)] [] M P) (k2 : xs0 ≠ 0 → Runs X mX9_tooMuch 12 [] [] M P) : Runs X mX9_tooMuch 9 [(0, vr 200), (1, vi x1), (2, vi x2), (3, vi x3)] [vi xs0] M P := by
  refine Runs.if_eq (tgt := 14) dX9_tooMuch_9 (by decide) (fun h => ?_) (fun h => ?_)
  · exact k1 h
  · refine Runs.picks (loc' := []) [] rfl ?_
    exact k2 h
theorem kX9_tooMuch_12 {X : Scr} {M : Mem} {P : Option AV → Mem → Prop} (k : P (some (vi (-1 : Int))) M) : Runs X mX9_tooMuch 12 [] [] M P := by
  refine Runs.iconst dX9_tooMuch_12 (by decide) ?_
  exact Runs.reti dX9_tooMuch_13 rfl k
theorem kX9_tooMuch_14 {X : Scr} {M : Mem} {P Q : Option AV → Mem → Prop} {x1 x2 x3 : Int} (hC : Call X mX9_in [vl x2, vl (0 : Int), vl (999 : Int)] M Q) (k : ∀ (z : Int) (M1 : Mem), Q (some (vi z)) M1 → Runs X mX9_tooMuch 23 [(0, vr 200), (1, vi x1), (2, vi x2), (3, vi x3)] [vi z] M1 P) : Runs X mX9_tooMuch 14 [(0, vr 200), (1, vi x1), (2, vi x2), (3, vi x3)] [] M P := by
  refine Runs.iload_n (j := 2) dX9_tooMuch_14 rfl ?_
  refine Runs.i2l dX9_tooMuch_15 ?_
  refine Runs.lconst (z := 0) dX9_tooMuch_16 rfl (by decide) ?_
  refine Runs.ldc2 (z := 999) dX9_tooMuch_17 w4_170 (by decide) (by decide) ?_
  refine Runs.callSi (y := mX9_in) (n := 3) (as := [vl x2, vl (0 : Int), vl (999 : Int)]) (st := []) dX9_tooMuch_20 oc_X9_in sm_X9_in ml_X9_114 rfl ⟨(Nat.le_of_ble_eq_true rfl), (Nat.le_of_ble_eq_true rfl)⟩ (Nat.le_of_ble_eq_true rfl) (Nat.le_of_ble_eq_true rfl) (Or.inr rfl) hC (fun z M1 hQ => ?_)
  exact k z M1 hQ
theorem kX9_tooMuch_23 {X : Scr} {M : Mem} {P : Option AV → Mem → Prop} {x1 x2 x3 xs0 : Int} (k1 : xs0 ≠ 0 → Runs X mX9_tooMuch 29 [(0, vr 200), (1, vi x1), (2, vi x2), (3, vi x3)] [] M P) (k2 : xs0 = 0 → Runs X mX9_tooMuch 26 [] [] M P) : Runs X mX9_tooMuch 23 [(0, vr 200), (1, vi x1), (2, vi x2), (3, vi x3)] [vi xs0] M P := by
  refine Runs.if_ne (tgt := 29) dX9_tooMuch_23 (by decide) (fun h => ?_) (fun h => ?_)
  · exact k1 h
  · refine Runs.picks (loc' := []) [] rfl ?_
    exact k2 h
theorem kX9_tooMuch_26 {X : Scr} {M : Mem} {P : Option AV → Mem → Prop} (k : P (some (vi (-2 : Int))) M) : Runs X mX9_tooMuch 26 [] [] M P := by
  refine Runs.bipush dX9_tooMuch_26 (by decide) (by decide) ?_
  exact Runs.reti dX9_tooMuch_28 rfl k
theorem kX9_tooMuch_29 {X : Scr} {M : Mem} {P Q : Option AV → Mem → Prop} {x1 x2 x3 : Int} (hC : Call X mX9_findMuch [vr 200, vi x1, vi x2] M Q) (k : ∀ (z : Int) (M1 : Mem), Q (some (vi z)) M1 → Runs X mX9_tooMuch 35 [(0, vr 200), (3, vi x3)] [vi z] M1 P) : Runs X mX9_tooMuch 29 [(0, vr 200), (1, vi x1), (2, vi x2), (3, vi x3)] [] M P := by
  refine Runs.aload_n (j := 0) dX9_tooMuch_29 rfl ?_
  refine Runs.iload_n (j := 1) dX9_tooMuch_30 rfl ?_
  refine Runs.iload_n (j := 2) dX9_tooMuch_31 rfl ?_
  refine Runs.callVi (y := mX9_findMuch) (n := 2) (as := [vi x1, vi x2]) (st := []) (q := (RX9, TX9, 48)) dX9_tooMuch_32 oc_X9_findMuch im_X9_findMuch se_X9_findMuch ml_X9_237 rfl ⟨(Nat.le_of_ble_eq_true rfl), (Nat.le_of_ble_eq_true rfl)⟩ (Nat.le_of_ble_eq_true rfl) (Nat.le_of_ble_eq_true rfl) rfl rfl rfl (Or.inl rfl) hC (fun z M1 hQ => ?_)
  refine Runs.picks (loc' := [(0, vr 200), (3, vi x3)]) [0, 3] rfl ?_
  exact k z M1 hQ
theorem kX9_tooMuch_35 {X : Scr} {M : Mem} {P : Option AV → Mem → Prop} {x3 xs0 : Int} (k1 : xs0 = (-9 : Int) → Runs X mX9_tooMuch 48 [(4, vi xs0)] [] M P) (k2 : xs0 ≠ (-9 : Int) → Runs X mX9_tooMuch 44 [(0, vr 200), (3, vi x3), (4, vi xs0)] [] M P) : Runs X mX9_tooMuch 35 [(0, vr 200), (3, vi x3)] [vi xs0] M P := by
  refine Runs.istore (loc' := [(0, vr 200), (3, vi x3), (4, vi xs0)]) dX9_tooMuch_35 (by decide) rfl ?_
  refine Runs.iload (j := 2) dX9_tooMuch_37 rfl ?_
  refine Runs.bipush dX9_tooMuch_39 (by decide) (by decide) ?_
  refine Runs.icmp_eq (tgt := 48) dX9_tooMuch_41 (by decide) (fun h => ?_) (fun h => ?_)
  · refine Runs.picks (loc' := [(4, vi xs0)]) [2] rfl ?_
    exact k1 h
  · exact k2 h
theorem kX9_tooMuch_44 {X : Scr} {M : Mem} {P : Option AV → Mem → Prop} {x3 x4 : Int} (k1 : x3 ≠ 0 → Runs X mX9_tooMuch 53 [(0, vr 200)] [] M P) (k2 : x3 = 0 → Runs X mX9_tooMuch 48 [(4, vi x4)] [] M P) : Runs X mX9_tooMuch 44 [(0, vr 200), (3, vi x3), (4, vi x4)] [] M P := by
  refine Runs.iload_n (j := 1) dX9_tooMuch_44 rfl ?_
  refine Runs.if_ne (tgt := 53) dX9_tooMuch_45 (by decide) (fun h => ?_) (fun h => ?_)
  · refine Runs.picks (loc' := [(0, vr 200)]) [0] rfl ?_
    exact k1 h
  · refine Runs.picks (loc' := [(4, vi x4)]) [2] rfl ?_
    exact k2 h
theorem kX9_tooMuch_48 {X : Scr} {M : Mem} {P : Option AV → Mem → Prop} {x4 : Int} (k : Runs X mX9_tooMuch 57 [] [vi x4] M P) : Runs X mX9_tooMuch 48 [(4, vi x4)] [] M P := by
  refine Runs.iload (j := 0) dX9_tooMuch_48 rfl ?_
  refine Runs.goto (tgt := 57) dX9_tooMuch_50 (by decide) ?_
  refine Runs.picks (loc' := []) [] rfl ?_
  exact k
theorem kX9_tooMuch_53 {X : Scr} {M : Mem} {P : Option AV → Mem → Prop} (k : Runs X mX9_tooMuch 57 [] [vi (M 200 41)] M P) : Runs X mX9_tooMuch 53 [(0, vr 200)] [] M P := by
  refine Runs.aload_n (j := 0) dX9_tooMuch_53 rfl ?_
  refine Runs.geti (ci := 9) (j := 41) (C := RX9) (T := TX9) (N := 48) dX9_tooMuch_54 rfl cls_X9 (by decide) rfl fl_X9_234 (Or.inl rfl) ?_
  refine Runs.picks (loc' := []) [] rfl ?_
  exact k
theorem kX9_tooMuch_57 {X : Scr} {M : Mem} {P : Option AV → Mem → Prop} {xs0 : Int} (k : P (some (vi xs0)) M) : Runs X mX9_tooMuch 57 [] [vi xs0] M P := by
  exact Runs.reti dX9_tooMuch_57 rfl k
theorem kX9_sums_0 {X : Scr} {M : Mem} {P Q : Option AV → Mem → Prop} {x1 x2 x3 : Int} (hC : Call X mX9_noPay [vi x1, vi x2, vi (0 : Int)] (up2 M 200 0 (0 : Int)) Q) (k : ∀ (z : Int) (M1 : Mem), Q (some (vi z)) M1 → Runs X mX9_sums 11 [(0, vr 200), (1, vi x1), (2, vi x2), (3, vi x3)] [vi z] M1 P) : Runs X mX9_sums 0 [(0, vr 200), (1, vi x1), (2, vi x2), (3, vi x3)] [] M P := by
  refine Runs.aload_n (j := 0) dX9_sums_0 rfl ?_
  refine Runs.iconst dX9_sums_1 (by decide) ?_
  refine Runs.puti (ci := 9) (j := 0) (C := RX9) (T := TX9) (N := 48) dX9_sums_2 rfl cls_X9 (by decide) rfl fl_X9_108 rfl rfl ?_
  refine Runs.iload_n (j := 1) dX9_sums_5 rfl ?_
  refine Runs.iload_n (j := 2) dX9_sums_6 rfl ?_
  refine Runs.iconst dX9_sums_7 (by decide) ?_
  refine Runs.callSi (y := mX9_noPay) (n := 3) (as := [vi x1, vi x2, vi (0 : Int)]) (st := []) dX9_sums_8 oc_X9_noPay sm_X9_noPay ml_X9_216 rfl ⟨(Nat.le_of_ble_eq_true rfl), (Nat.le_of_ble_eq_true rfl)⟩ (Nat.le_of_ble_eq_true rfl) (Nat.le_of_ble_eq_true rfl) (Or.inl rfl) hC (fun z M1 hQ => ?_)
  exact k z M1 hQ
theorem kX9_sums_11 {X : Scr} {M : Mem} {P : Option AV → Mem → Prop} {x1 x2 x3 xs0 : Int} (k1 : xs0 = 0 → Runs X mX9_sums 21 [(0, vr 200), (1, vi x1), (2, vi x2), (3, vi x3)] [] M P) (k2 : xs0 ≠ 0 → Runs X mX9_sums 18 [(4, vi xs0)] [] M P) : Runs X mX9_sums 11 [(0, vr 200), (1, vi x1), (2, vi x2), (3, vi x3)] [vi xs0] M P := by
  refine Runs.istore (loc' := [(0, vr 200), (1, vi x1), (2, vi x2), (3, vi x3), (4, vi xs0)]) dX9_sums_11 (by decide) rfl ?_
  refine Runs.iload (j := 4) dX9_sums_13 rfl ?_
  refine Runs.if_eq (tgt := 21) dX9_sums_15 (by decide) (fun h => ?_) (fun h => ?_)
  · refine Runs.picks (loc' := [(0, vr 200), (1, vi x1), (2, vi x2), (3, vi x3)]) [0, 1, 2, 3] rfl ?_
    exact k1 h
  · refine Runs.picks (loc' := [(4, vi xs0)]) [4] rfl ?_
    exact k2 h
theorem kX9_sums_18 {X : Scr} {M : Mem} {P : Option AV → Mem → Prop} {x4 : Int} (k : P (some (vi x4)) M) : Runs X mX9_sums 18 [(4, vi x4)] [] M P := by
  refine Runs.iload (j := 0) dX9_sums_18 rfl ?_
  exact Runs.reti dX9_sums_20 rfl k
theorem kX9_sums_21 {X : Scr} {M : Mem} {P Q : Option AV → Mem → Prop} {x1 x2 x3 : Int} (hC : Call X mX9_in [vl x3, vl (1 : Int), vl (999 : Int)] M Q) (k : ∀ (z : Int) (M1 : Mem), Q (some (vi z)) M1 → Runs X mX9_sums 30 [(0, vr 200), (1, vi x1), (2, vi x2), (3, vi x3)] [vi z] M1 P) : Runs X mX9_sums 21 [(0, vr 200), (1, vi x1), (2, vi x2), (3, vi x3)] [] M P := by
  refine Runs.iload_n (j := 3) dX9_sums_21 rfl ?_
  refine Runs.i2l dX9_sums_22 ?_
  refine Runs.lconst (z := 1) dX9_sums_23 rfl (by decide) ?_
  refine Runs.ldc2 (z := 999) dX9_sums_24 w4_170 (by decide) (by decide) ?_
  refine Runs.callSi (y := mX9_in) (n := 3) (as := [vl x3, vl (1 : Int), vl (999 : Int)]) (st := []) dX9_sums_27 oc_X9_in sm_X9_in ml_X9_114 rfl ⟨(Nat.le_of_ble_eq_true rfl), (Nat.le_of_ble_eq_true rfl)⟩ (Nat.le_of_ble_eq_true rfl) (Nat.le_of_ble_eq_true rfl) (Or.inr rfl) hC (fun z M1 hQ => ?_)
  exact k z M1 hQ
theorem kX9_sums_30 {X : Scr} {M : Mem} {P : Option AV → Mem → Prop} {x1 x2 x3 xs0 : Int} (k1 : xs0 ≠ 0 → Runs X mX9_sums 36 [(0, vr 200), (1, vi x1), (2, vi x2), (3, vi x3)] [] M P) (k2 : xs0 = 0 → Runs X mX9_sums 33 [] [] M P) : Runs X mX9_sums 30 [(0, vr 200), (1, vi x1), (2, vi x2), (3, vi x3)] [vi xs0] M P := by
  refine Runs.if_ne (tgt := 36) dX9_sums_30 (by decide) (fun h => ?_) (fun h => ?_)
  · exact k1 h
  · refine Runs.picks (loc' := []) [] rfl ?_
    exact k2 h
theorem kX9_sums_33 {X : Scr} {M : Mem} {P : Option AV → Mem → Prop} (k : P (some (vi (-2 : Int))) M) : Runs X mX9_sums 33 [] [] M P := by
  refine Runs.bipush dX9_sums_33 (by decide) (by decide) ?_
  exact Runs.reti dX9_sums_35 rfl k
theorem kX9_sums_36 {X : Scr} {M : Mem} {P : Option AV → Mem → Prop} {x1 x2 x3 : Int} (k : Runs X mX9_sums 39 [(0, vr 200), (1, vi x1), (2, vi x2), (3, vi x3), (5, vi (0 : Int))] [] M P) : Runs X mX9_sums 36 [(0, vr 200), (1, vi x1), (2, vi x2), (3, vi x3)] [] M P := by
  refine Runs.iconst dX9_sums_36 (by decide) ?_
  refine Runs.istore (loc' := [(0, vr 200), (1, vi x1), (2, vi x2), (3, vi x3), (5, vi (0 : Int))]) dX9_sums_37 (by decide) rfl ?_
  exact k
theorem kX9_sums_39 {X : Scr} {M : Mem} {P : Option AV → Mem → Prop} {x1 x2 x3 x5 : Int} (k1 : (1000 : Int) ≤ x5 → Runs X mX9_sums 61 [(0, vr 200), (1, vi x1), (2, vi x2), (3, vi x3)] [] M P) (k2 : x5 < (1000 : Int) → Runs X mX9_sums 47 [(0, vr 200), (1, vi x1), (2, vi x2), (3, vi x3), (5, vi x5)] [] M P) : Runs X mX9_sums 39 [(0, vr 200), (1, vi x1), (2, vi x2), (3, vi x3), (5, vi x5)] [] M P := by
  refine Runs.iload (j := 4) dX9_sums_39 rfl ?_
  refine Runs.sipush dX9_sums_41 (by decide) (by decide) ?_
  refine Runs.icmp_ge (tgt := 61) dX9_sums_44 (by decide) (fun h => ?_) (fun h => ?_)
  · refine Runs.picks (loc' := [(0, vr 200), (1, vi x1), (2, vi x2), (3, vi x3)]) [0, 1, 2, 3] rfl ?_
    exact k1 h
  · exact k2 h
theorem kX9_sums_47 {X : Scr} {M : Mem} {P : Option AV → Mem → Prop} {x1 x2 x3 x5 : Int} (k : Runs X mX9_sums 39 [(0, vr 200), (1, vi x1), (2, vi x2), (3, vi x3), (5, vi (x5 + (1 : Int)))] [] (up2 M 347 (x5).toNat (0 : Int)) P) (h1 : 0 ≤ x5 := by omega) (h2 : x5 < ((1000 : Nat) : Int) := by omega) (h3 : 0 ≤ (0 : Int) ∧ (0 : Int) ≤ 1 := by omega) (h4 : -2147483648 ≤ (x5 + (1 : Int)) ∧ (x5 + (1 : Int)) ≤ 2147483647 := by omega) : Runs X mX9_sums 47 [(0, vr 200), (1, vi x1), (2, vi x2), (3, vi x3), (5, vi x5)] [] M P := by
  refine Runs.aload_n (j := 0) dX9_sums_47 rfl ?_
  refine Runs.getr (o' := 347) (ci := 9) (j := 47) (C := RX9) (T := TX9) (N := 48) dX9_sums_48 rfl cls_X9 (by decide) rfl fl_X9_105 rfl ⟨rfl, "", Or.inr ⟨_, rfl⟩⟩ ?_
  refine Runs.iload (j := 4) dX9_sums_51 rfl ?_
  refine Runs.iconst dX9_sums_53 (by decide) ?_
  refine Runs.zast dX9_sums_54 rfl h1 h2 h3 ?_
  refine Runs.iinc (k := 4) (loc' := [(0, vr 200), (1, vi x1), (2, vi x2), (3, vi x3), (5, vi (x5 + (1 : Int)))]) dX9_sums_55 rfl h4 (by decide) rfl ?_
  refine Runs.goto (tgt := 39) dX9_sums_58 (by decide) ?_
  exact k
theorem kX9_sums_61 {X : Scr} {M : Mem} {P Q : Option AV → Mem → Prop} {x1 x2 x3 : Int} (hC : Call X mX9_setOf [vr 200, vi x1] M Q) (k : ∀ (z : Int) (M1 : Mem), Q (some (vi z)) M1 → Runs X mX9_sums 66 [(0, vr 200), (2, vi x2), (3, vi x3)] [vi z] M1 P) : Runs X mX9_sums 61 [(0, vr 200), (1, vi x1), (2, vi x2), (3, vi x3)] [] M P := by
  refine Runs.aload_n (j := 0) dX9_sums_61 rfl ?_
  refine Runs.iload_n (j := 1) dX9_sums_62 rfl ?_
  refine Runs.callVi (y := mX9_setOf) (n := 1) (as := [vi x1]) (st := []) (q := (RX9, TX9, 48)) dX9_sums_63 oc_X9_setOf im_X9_setOf se_X9_setOf ml_X9_193 rfl ⟨(Nat.le_of_ble_eq_true rfl), (Nat.le_of_ble_eq_true rfl)⟩ (Nat.le_of_ble_eq_true rfl) (Nat.le_of_ble_eq_true rfl) rfl rfl rfl (Or.inl rfl) hC (fun z M1 hQ => ?_)
  refine Runs.picks (loc' := [(0, vr 200), (2, vi x2), (3, vi x3)]) [0, 2, 3] rfl ?_
  exact k z M1 hQ
theorem kX9_sums_66 {X : Scr} {M : Mem} {P Q : Option AV → Mem → Prop} {x2 x3 xs0 : Int} (hC : Call X mX9_setOf [vr 200, vi x2] M Q) (k : ∀ (z : Int) (M1 : Mem), Q (some (vi z)) M1 → Runs X mX9_sums 73 [(0, vr 200), (3, vi x3), (5, vi xs0)] [vi z] M1 P) : Runs X mX9_sums 66 [(0, vr 200), (2, vi x2), (3, vi x3)] [vi xs0] M P := by
  refine Runs.istore (loc' := [(0, vr 200), (2, vi x2), (3, vi x3), (5, vi xs0)]) dX9_sums_66 (by decide) rfl ?_
  refine Runs.aload_n (j := 0) dX9_sums_68 rfl ?_
  refine Runs.iload_n (j := 1) dX9_sums_69 rfl ?_
  refine Runs.callVi (y := mX9_setOf) (n := 1) (as := [vi x2]) (st := []) (q := (RX9, TX9, 48)) dX9_sums_70 oc_X9_setOf im_X9_setOf se_X9_setOf ml_X9_193 rfl ⟨(Nat.le_of_ble_eq_true rfl), (Nat.le_of_ble_eq_true rfl)⟩ (Nat.le_of_ble_eq_true rfl) (Nat.le_of_ble_eq_true rfl) rfl rfl rfl (Or.inl rfl) hC (fun z M1 hQ => ?_)
  refine Runs.picks (loc' := [(0, vr 200), (3, vi x3), (5, vi xs0)]) [0, 2, 3] rfl ?_
  exact k z M1 hQ
theorem kX9_sums_73 {X : Scr} {M : Mem} {P : Option AV → Mem → Prop} {x3 x5 xs0 : Int} (k : Runs X mX9_sums 81 [(0, vr 200), (3, vi x3), (5, vi x5), (6, vi xs0), (7, vi (0 : Int)), (8, vi (1 : Int))] [] M P) : Runs X mX9_sums 73 [(0, vr 200), (3, vi x3), (5, vi x5)] [vi xs0] M P := by
  refine Runs.istore (loc' := [(0, vr 200), (3, vi x3), (5, vi x5), (6, vi xs0)]) dX9_sums_73 (by decide) rfl ?_
  refine Runs.iconst dX9_sums_75 (by decide) ?_
  refine Runs.istore (loc' := [(0, vr 200), (3, vi x3), (5, vi x5), (6, vi xs0), (7, vi (0 : Int))]) dX9_sums_76 (by decide) rfl ?_
  refine Runs.iconst dX9_sums_78 (by decide) ?_
  refine Runs.istore (loc' := [(0, vr 200), (3, vi x3), (5, vi x5), (6, vi xs0), (7, vi (0 : Int)), (8, vi (1 : Int))]) dX9_sums_79 (by decide) rfl ?_
  exact k
theorem kX9_sums_81 {X : Scr} {M : Mem} {P : Option AV → Mem → Prop} {x3 x5 x6 x7 x8 : Int} (k1 : x8 = 0 → Runs X mX9_sums 180 [(0, vr 200), (3, vi x3)] [] M P) (k2 : x8 ≠ 0 → Runs X mX9_sums 86 [(0, vr 200), (3, vi x3), (5, vi x5), (6, vi x6), (7, vi x7)] [] M P) : Runs X mX9_sums 81 [(0, vr 200), (3, vi x3), (5, vi x5), (6, vi x6), (7, vi x7), (8, vi x8)] [] M P := by
  refine Runs.iload (j := 5) dX9_sums_81 rfl ?_
  refine Runs.if_eq (tgt := 180) dX9_sums_83 (by decide) (fun h => ?_) (fun h => ?_)
  · refine Runs.picks (loc' := [(0, vr 200), (3, vi x3)]) [0, 1] rfl ?_
    exact k1 h
  · refine Runs.picks (loc' := [(0, vr 200), (3, vi x3), (5, vi x5), (6, vi x6), (7, vi x7)]) [0, 1, 2, 3, 4] rfl ?_
    exact k2 h
theorem kX9_sums_86 {X : Scr} {M : Mem} {P : Option AV → Mem → Prop} {x3 x5 x6 x7 : Int} (k : Runs X mX9_sums 92 [(0, vr 200), (3, vi x3), (5, vi x5), (6, vi x6), (7, vi x7), (9, vi (0 : Int)), (10, vi (1 : Int))] [] M P) : Runs X mX9_sums 86 [(0, vr 200), (3, vi x3), (5, vi x5), (6, vi x6), (7, vi x7)] [] M P := by
  refine Runs.iconst dX9_sums_86 (by decide) ?_
  refine Runs.istore (loc' := [(0, vr 200), (3, vi x3), (5, vi x5), (6, vi x6), (7, vi x7), (9, vi (0 : Int))]) dX9_sums_87 (by decide) rfl ?_
  refine Runs.iconst dX9_sums_89 (by decide) ?_
  refine Runs.istore (loc' := [(0, vr 200), (3, vi x3), (5, vi x5), (6, vi x6), (7, vi x7), (9, vi (0 : Int)), (10, vi (1 : Int))]) dX9_sums_90 (by decide) rfl ?_
  exact k
theorem kX9_sums_92 {X : Scr} {M : Mem} {P : Option AV → Mem → Prop} {x3 x5 x6 x7 x9 x10 : Int} (k1 : x10 = 0 → Runs X mX9_sums 156 [(0, vr 200), (3, vi x3), (5, vi x5), (6, vi x6), (7, vi x7)] [] M P) (k2 : x10 ≠ 0 → Runs X mX9_sums 97 [(0, vr 200), (3, vi x3), (5, vi x5), (6, vi x6), (7, vi x7), (9, vi x9)] [] M P) : Runs X mX9_sums 92 [(0, vr 200), (3, vi x3), (5, vi x5), (6, vi x6), (7, vi x7), (9, vi x9), (10, vi x10)] [] M P := by
  refine Runs.iload (j := 6) dX9_sums_92 rfl ?_
  refine Runs.if_eq (tgt := 156) dX9_sums_94 (by decide) (fun h => ?_) (fun h => ?_)
  · refine Runs.picks (loc' := [(0, vr 200), (3, vi x3), (5, vi x5), (6, vi x6), (7, vi x7)]) [0, 1, 2, 3, 4] rfl ?_
    exact k1 h
  · refine Runs.picks (loc' := [(0, vr 200), (3, vi x3), (5, vi x5), (6, vi x6), (7, vi x7), (9, vi x9)]) [0, 1, 2, 3, 4, 5] rfl ?_
    exact k2 h
theorem kX9_sums_97 {X : Scr} {M : Mem} {P Q : Option AV → Mem → Prop} {x3 x5 x6 x7 x9 : Int} (hC : Call X mX9_worthOf [vr 200, vi x7] M Q) (k : ∀ (z : Int) (M1 : Mem), Q (some (vi z)) M1 → Runs X mX9_sums 103 [(0, vr 200), (3, vi x3), (5, vi x5), (6, vi x6), (7, vi x7), (9, vi x9)] [vi z] M1 P) : Runs X mX9_sums 97 [(0, vr 200), (3, vi x3), (5, vi x5), (6, vi x6), (7, vi x7), (9, vi x9)] [] M P := by
  refine Runs.aload_n (j := 0) dX9_sums_97 rfl ?_
  refine Runs.iload (j := 4) dX9_sums_98 rfl ?_
  refine Runs.callVi (y := mX9_worthOf) (n := 1) (as := [vi x7]) (st := []) (q := (RX9, TX9, 48)) dX9_sums_100 oc_X9_worthOf im_X9_worthOf se_X9_worthOf ml_X9_196 rfl ⟨(Nat.le_of_ble_eq_true rfl), (Nat.le_of_ble_eq_true rfl)⟩ (Nat.le_of_ble_eq_true rfl) (Nat.le_of_ble_eq_true rfl) rfl rfl rfl (Or.inl rfl) hC (fun z M1 hQ => ?_)
  exact k z M1 hQ
theorem kX9_sums_103 {X : Scr} {M : Mem} {P Q : Option AV → Mem → Prop} {x3 x5 x6 x7 x9 xs0 : Int} (hC : Call X mX9_worthOf [vr 200, vi x9] M Q) (k : ∀ (z : Int) (M1 : Mem), Q (some (vi z)) M1 → Runs X mX9_sums 109 [(0, vr 200), (3, vi x3), (5, vi x5), (6, vi x6), (7, vi x7), (9, vi x9)] [vi z, vi xs0] M1 P) : Runs X mX9_sums 103 [(0, vr 200), (3, vi x3), (5, vi x5), (6, vi x6), (7, vi x7), (9, vi x9)] [vi xs0] M P := by
  refine Runs.aload_n (j := 0) dX9_sums_103 rfl ?_
  refine Runs.iload (j := 5) dX9_sums_104 rfl ?_
  refine Runs.callVi (y := mX9_worthOf) (n := 1) (as := [vi x9]) (st := [vi xs0]) (q := (RX9, TX9, 48)) dX9_sums_106 oc_X9_worthOf im_X9_worthOf se_X9_worthOf ml_X9_196 rfl ⟨(Nat.le_of_ble_eq_true rfl), (Nat.le_of_ble_eq_true rfl)⟩ (Nat.le_of_ble_eq_true rfl) (Nat.le_of_ble_eq_true rfl) rfl rfl rfl (Or.inl rfl) hC (fun z M1 hQ => ?_)
  exact k z M1 hQ
theorem kX9_sums_109 {X : Scr} {M : Mem} {P Q : Option AV → Mem → Prop} {x3 x5 x6 x7 x9 xs0 xs1 : Int} (hC : Call X mX9_in [vl (xs0 - xs1), vl (1 : Int), vl x3] M Q) (k : ∀ (z : Int) (M1 : Mem), Q (some (vi z)) M1 → Runs X mX9_sums 121 [(0, vr 200), (3, vi x3), (5, vi x5), (6, vi x6), (7, vi x7), (9, vi x9), (11, vi (xs0 - xs1))] [vi z] M1 P) (h1 : -2147483648 ≤ (xs0 - xs1) ∧ (xs0 - xs1) ≤ 2147483647 := by omega) : Runs X mX9_sums 109 [(0, vr 200), (3, vi x3), (5, vi x5), (6, vi x6), (7, vi x7), (9, vi x9)] [vi xs1, vi xs0] M P := by
  refine Runs.isub dX9_sums_109 h1 ?_
  refine Runs.istore (loc' := [(0, vr 200), (3, vi x3), (5, vi x5), (6, vi x6), (7, vi x7), (9, vi x9), (11, vi (xs0 - xs1))]) dX9_sums_110 (by decide) rfl ?_
  refine Runs.iload (j := 6) dX9_sums_112 rfl ?_
  refine Runs.i2l dX9_sums_114 ?_
  refine Runs.lconst (z := 1) dX9_sums_115 rfl (by decide) ?_
  refine Runs.iload_n (j := 1) dX9_sums_116 rfl ?_
  refine Runs.i2l dX9_sums_117 ?_
  refine Runs.callSi (y := mX9_in) (n := 3) (as := [vl (xs0 - xs1), vl (1 : Int), vl x3]) (st := []) dX9_sums_118 oc_X9_in sm_X9_in ml_X9_114 rfl ⟨(Nat.le_of_ble_eq_true rfl), (Nat.le_of_ble_eq_true rfl)⟩ (Nat.le_of_ble_eq_true rfl) (Nat.le_of_ble_eq_true rfl) (Or.inr rfl) hC (fun z M1 hQ => ?_)
  exact k z M1 hQ
theorem kX9_sums_121 {X : Scr} {M : Mem} {P : Option AV → Mem → Prop} {x3 x5 x6 x7 x9 x11 xs0 : Int} (k1 : xs0 = 0 → Runs X mX9_sums 132 [(0, vr 200), (3, vi x3), (5, vi x5), (6, vi x6), (7, vi x7), (9, vi x9)] [] M P) (k2 : xs0 ≠ 0 → Runs X mX9_sums 124 [(0, vr 200), (3, vi x3), (5, vi x5), (6, vi x6), (7, vi x7), (9, vi x9), (11, vi x11)] [] M P) : Runs X mX9_sums 121 [(0, vr 200), (3, vi x3), (5, vi x5), (6, vi x6), (7, vi x7), (9, vi x9), (11, vi x11)] [vi xs0] M P := by
  refine Runs.if_eq (tgt := 132) dX9_sums_121 (by decide) (fun h => ?_) (fun h => ?_)
  · refine Runs.picks (loc' := [(0, vr 200), (3, vi x3), (5, vi x5), (6, vi x6), (7, vi x7), (9, vi x9)]) [0, 1, 2, 3, 4, 5] rfl ?_
    exact k1 h
  · exact k2 h
theorem kX9_sums_124 {X : Scr} {M : Mem} {P : Option AV → Mem → Prop} {x3 x5 x6 x7 x9 x11 : Int} (k : Runs X mX9_sums 132 [(0, vr 200), (3, vi x3), (5, vi x5), (6, vi x6), (7, vi x7), (9, vi x9)] [] (up2 M 347 (x11).toNat (1 : Int)) P) (h1 : 0 ≤ x11 := by omega) (h2 : x11 < ((1000 : Nat) : Int) := by omega) (h3 : 0 ≤ (1 : Int) ∧ (1 : Int) ≤ 1 := by omega) : Runs X mX9_sums 124 [(0, vr 200), (3, vi x3), (5, vi x5), (6, vi x6), (7, vi x7), (9, vi x9), (11, vi x11)] [] M P := by
  refine Runs.aload_n (j := 0) dX9_sums_124 rfl ?_
  refine Runs.getr (o' := 347) (ci := 9) (j := 47) (C := RX9) (T := TX9) (N := 48) dX9_sums_125 rfl cls_X9 (by decide) rfl fl_X9_105 rfl ⟨rfl, "", Or.inr ⟨_, rfl⟩⟩ ?_
  refine Runs.iload (j := 6) dX9_sums_128 rfl ?_
  refine Runs.iconst dX9_sums_130 (by decide) ?_
  refine Runs.zast dX9_sums_131 rfl h1 h2 h3 ?_
  refine Runs.picks (loc' := [(0, vr 200), (3, vi x3), (5, vi x5), (6, vi x6), (7, vi x7), (9, vi x9)]) [0, 1, 2, 3, 4, 5] rfl ?_
  exact k
theorem kX9_sums_132 {X : Scr} {M : Mem} {P Q : Option AV → Mem → Prop} {x3 x5 x6 x7 x9 : Int} (hC : Call X mX9_next [vi x9, vi x6] M Q) (k : ∀ (z : Int) (M1 : Mem), Q (some (vi z)) M1 → Runs X mX9_sums 139 [(0, vr 200), (3, vi x3), (5, vi x5), (6, vi x6), (7, vi x7)] [vi z] M1 P) : Runs X mX9_sums 132 [(0, vr 200), (3, vi x3), (5, vi x5), (6, vi x6), (7, vi x7), (9, vi x9)] [] M P := by
  refine Runs.iload (j := 5) dX9_sums_132 rfl ?_
  refine Runs.iload (j := 3) dX9_sums_134 rfl ?_
  refine Runs.callSi (y := mX9_next) (n := 2) (as := [vi x9, vi x6]) (st := []) dX9_sums_136 oc_X9_next sm_X9_next ml_X9_211 rfl ⟨(Nat.le_of_ble_eq_true rfl), (Nat.le_of_ble_eq_true rfl)⟩ (Nat.le_of_ble_eq_true rfl) (Nat.le_of_ble_eq_true rfl) (Or.inl rfl) hC (fun z M1 hQ => ?_)
  refine Runs.picks (loc' := [(0, vr 200), (3, vi x3), (5, vi x5), (6, vi x6), (7, vi x7)]) [0, 1, 2, 3, 4] rfl ?_
  exact k z M1 hQ
theorem kX9_sums_139 {X : Scr} {M : Mem} {P : Option AV → Mem → Prop} {x3 x5 x6 x7 xs0 : Int} (k1 : xs0 = 0 → Runs X mX9_sums 150 [(0, vr 200), (3, vi x3), (5, vi x5), (6, vi x6), (7, vi x7), (9, vi xs0)] [] M P) (k2 : xs0 ≠ 0 → Runs X mX9_sums 146 [(0, vr 200), (3, vi x3), (5, vi x5), (6, vi x6), (7, vi x7), (9, vi xs0)] [] M P) : Runs X mX9_sums 139 [(0, vr 200), (3, vi x3), (5, vi x5), (6, vi x6), (7, vi x7)] [vi xs0] M P := by
  refine Runs.istore (loc' := [(0, vr 200), (3, vi x3), (5, vi x5), (6, vi x6), (7, vi x7), (9, vi xs0)]) dX9_sums_139 (by decide) rfl ?_
  refine Runs.iload (j := 5) dX9_sums_141 rfl ?_
  refine Runs.if_eq (tgt := 150) dX9_sums_143 (by decide) (fun h => ?_) (fun h => ?_)
  · exact k1 h
  · exact k2 h
theorem kX9_sums_146 {X : Scr} {M : Mem} {P : Option AV → Mem → Prop} {x3 x5 x6 x7 x9 : Int} (k : Runs X mX9_sums 151 [(0, vr 200), (3, vi x3), (5, vi x5), (6, vi x6), (7, vi x7), (9, vi x9)] [vi (1 : Int)] M P) : Runs X mX9_sums 146 [(0, vr 200), (3, vi x3), (5, vi x5), (6, vi x6), (7, vi x7), (9, vi x9)] [] M P := by
  refine Runs.iconst dX9_sums_146 (by decide) ?_
  refine Runs.goto (tgt := 151) dX9_sums_147 (by decide) ?_
  exact k
theorem kX9_sums_150 {X : Scr} {M : Mem} {P : Option AV → Mem → Prop} {x3 x5 x6 x7 x9 : Int} (k : Runs X mX9_sums 151 [(0, vr 200), (3, vi x3), (5, vi x5), (6, vi x6), (7, vi x7), (9, vi x9)] [vi (0 : Int)] M P) : Runs X mX9_sums 150 [(0, vr 200), (3, vi x3), (5, vi x5), (6, vi x6), (7, vi x7), (9, vi x9)] [] M P := by
  refine Runs.iconst dX9_sums_150 (by decide) ?_
  exact k
theorem kX9_sums_151 {X : Scr} {M : Mem} {P : Option AV → Mem → Prop} {x3 x5 x6 x7 x9 xs0 : Int} (k : Runs X mX9_sums 92 [(0, vr 200), (3, vi x3), (5, vi x5), (6, vi x6), (7, vi x7), (9, vi x9), (10, vi xs0)] [] M P) : Runs X mX9_sums 151 [(0, vr 200), (3, vi x3), (5, vi x5), (6, vi x6), (7, vi x7), (9, vi x9)] [vi xs0] M P := by
  refine Runs.istore (loc' := [(0, vr 200), (3, vi x3), (5, vi x5), (6, vi x6), (7, vi x7), (9, vi x9), (10, vi xs0)]) dX9_sums_151 (by decide) rfl ?_
  refine Runs.goto (tgt := 92) dX9_sums_153 (by decide) ?_
  exact k
theorem kX9_sums_156 {X : Scr} {M : Mem} {P Q : Option AV → Mem → Prop} {x3 x5 x6 x7 : Int} (hC : Call X mX9_next [vi x7, vi x5] M Q) (k : ∀ (z : Int) (M1 : Mem), Q (some (vi z)) M1 → Runs X mX9_sums 163 [(0, vr 200), (3, vi x3), (5, vi x5), (6, vi x6)] [vi z] M1 P) : Runs X mX9_sums 156 [(0, vr 200), (3, vi x3), (5, vi x5), (6, vi x6), (7, vi x7)] [] M P := by
  refine Runs.iload (j := 4) dX9_sums_156 rfl ?_
  refine Runs.iload (j := 2) dX9_sums_158 rfl ?_
  refine Runs.callSi (y := mX9_next) (n := 2) (as := [vi x7, vi x5]) (st := []) dX9_sums_160 oc_X9_next sm_X9_next ml_X9_211 rfl ⟨(Nat.le_of_ble_eq_true rfl), (Nat.le_of_ble_eq_true rfl)⟩ (Nat.le_of_ble_eq_true rfl) (Nat.le_of_ble_eq_true rfl) (Or.inl rfl) hC (fun z M1 hQ => ?_)
  refine Runs.picks (loc' := [(0, vr 200), (3, vi x3), (5, vi x5), (6, vi x6)]) [0, 1, 2, 3] rfl ?_
  exact k z M1 hQ
theorem kX9_sums_163 {X : Scr} {M : Mem} {P : Option AV → Mem → Prop} {x3 x5 x6 xs0 : Int} (k1 : xs0 = 0 → Runs X mX9_sums 174 [(0, vr 200), (3, vi x3), (5, vi x5), (6, vi x6), (7, vi xs0)] [] M P) (k2 : xs0 ≠ 0 → Runs X mX9_sums 170 [(0, vr 200), (3, vi x3), (5, vi x5), (6, vi x6), (7, vi xs0)] [] M P) : Runs X mX9_sums 163 [(0, vr 200), (3, vi x3), (5, vi x5), (6, vi x6)] [vi xs0] M P := by
  refine Runs.istore (loc' := [(0, vr 200), (3, vi x3), (5, vi x5), (6, vi x6), (7, vi xs0)]) dX9_sums_163 (by decide) rfl ?_
  refine Runs.iload (j := 4) dX9_sums_165 rfl ?_
  refine Runs.if_eq (tgt := 174) dX9_sums_167 (by decide) (fun h => ?_) (fun h => ?_)
  · exact k1 h
  · exact k2 h
theorem kX9_sums_170 {X : Scr} {M : Mem} {P : Option AV → Mem → Prop} {x3 x5 x6 x7 : Int} (k : Runs X mX9_sums 175 [(0, vr 200), (3, vi x3), (5, vi x5), (6, vi x6), (7, vi x7)] [vi (1 : Int)] M P) : Runs X mX9_sums 170 [(0, vr 200), (3, vi x3), (5, vi x5), (6, vi x6), (7, vi x7)] [] M P := by
  refine Runs.iconst dX9_sums_170 (by decide) ?_
  refine Runs.goto (tgt := 175) dX9_sums_171 (by decide) ?_
  exact k
theorem kX9_sums_174 {X : Scr} {M : Mem} {P : Option AV → Mem → Prop} {x3 x5 x6 x7 : Int} (k : Runs X mX9_sums 175 [(0, vr 200), (3, vi x3), (5, vi x5), (6, vi x6), (7, vi x7)] [vi (0 : Int)] M P) : Runs X mX9_sums 174 [(0, vr 200), (3, vi x3), (5, vi x5), (6, vi x6), (7, vi x7)] [] M P := by
  refine Runs.iconst dX9_sums_174 (by decide) ?_
  exact k
theorem kX9_sums_175 {X : Scr} {M : Mem} {P : Option AV → Mem → Prop} {x3 x5 x6 x7 xs0 : Int} (k : Runs X mX9_sums 81 [(0, vr 200), (3, vi x3), (5, vi x5), (6, vi x6), (7, vi x7), (8, vi xs0)] [] M P) : Runs X mX9_sums 175 [(0, vr 200), (3, vi x3), (5, vi x5), (6, vi x6), (7, vi x7)] [vi xs0] M P := by
  refine Runs.istore (loc' := [(0, vr 200), (3, vi x3), (5, vi x5), (6, vi x6), (7, vi x7), (8, vi xs0)]) dX9_sums_175 (by decide) rfl ?_
  refine Runs.goto (tgt := 81) dX9_sums_177 (by decide) ?_
  exact k
theorem kX9_sums_180 {X : Scr} {M : Mem} {P : Option AV → Mem → Prop} {x3 : Int} (k : Runs X mX9_sums 186 [(0, vr 200), (3, vi x3), (9, vi (0 : Int)), (10, vi (1 : Int))] [] M P) : Runs X mX9_sums 180 [(0, vr 200), (3, vi x3)] [] M P := by
  refine Runs.iconst dX9_sums_180 (by decide) ?_
  refine Runs.istore (loc' := [(0, vr 200), (3, vi x3), (9, vi (0 : Int))]) dX9_sums_181 (by decide) rfl ?_
  refine Runs.iconst dX9_sums_183 (by decide) ?_
  refine Runs.istore (loc' := [(0, vr 200), (3, vi x3), (9, vi (0 : Int)), (10, vi (1 : Int))]) dX9_sums_184 (by decide) rfl ?_
  exact k
theorem kX9_sums_186 {X : Scr} {M : Mem} {P : Option AV → Mem → Prop} {x3 x9 x10 : Int} (k1 : x3 < x10 → Runs X mX9_sums 218 [(9, vi x9)] [] M P) (k2 : x10 ≤ x3 → Runs X mX9_sums 192 [(0, vr 200), (3, vi x3), (9, vi x9), (10, vi x10)] [] M P) : Runs X mX9_sums 186 [(0, vr 200), (3, vi x3), (9, vi x9), (10, vi x10)] [] M P := by
  refine Runs.iload (j := 3) dX9_sums_186 rfl ?_
  refine Runs.iload_n (j := 1) dX9_sums_188 rfl ?_
  refine Runs.icmp_gt (tgt := 218) dX9_sums_189 (by decide) (fun h => ?_) (fun h => ?_)
  · refine Runs.picks (loc' := [(9, vi x9)]) [2] rfl ?_
    exact k1 h
  · exact k2 h
theorem kX9_sums_192 {X : Scr} {M : Mem} {P : Option AV → Mem → Prop} {x3 x9 x10 : Int} (k1 : (M 347 (x10).toNat) = 0 → Runs X mX9_sums 208 [(0, vr 200), (3, vi x3), (10, vi x10)] [vi x9] M P) (k2 : (M 347 (x10).toNat) ≠ 0 → Runs X mX9_sums 204 [(0, vr 200), (3, vi x3), (10, vi x10)] [vi x9] M P) (h1 : 0 ≤ x10 := by omega) (h2 : x10 < ((1000 : Nat) : Int) := by omega) : Runs X mX9_sums 192 [(0, vr 200), (3, vi x3), (9, vi x9), (10, vi x10)] [] M P := by
  refine Runs.iload (j := 2) dX9_sums_192 rfl ?_
  refine Runs.aload_n (j := 0) dX9_sums_194 rfl ?_
  refine Runs.getr (o' := 347) (ci := 9) (j := 47) (C := RX9) (T := TX9) (N := 48) dX9_sums_195 rfl cls_X9 (by decide) rfl fl_X9_105 rfl ⟨rfl, "", Or.inr ⟨_, rfl⟩⟩ ?_
  refine Runs.iload (j := 3) dX9_sums_198 rfl ?_
  refine Runs.zald dX9_sums_200 rfl h1 h2 ?_
  refine Runs.if_eq (tgt := 208) dX9_sums_201 (by decide) (fun h => ?_) (fun h => ?_)
  · refine Runs.picks (loc' := [(0, vr 200), (3, vi x3), (10, vi x10)]) [0, 1, 3] rfl ?_
    exact k1 h
  · refine Runs.picks (loc' := [(0, vr 200), (3, vi x3), (10, vi x10)]) [0, 1, 3] rfl ?_
    exact k2 h
theorem kX9_sums_204 {X : Scr} {M : Mem} {P : Option AV → Mem → Prop} {x3 x10 xs0 : Int} (k : Runs X mX9_sums 209 [(0, vr 200), (3, vi x3), (10, vi x10)] [vi (1 : Int), vi xs0] M P) : Runs X mX9_sums 204 [(0, vr 200), (3, vi x3), (10, vi x10)] [vi xs0] M P := by
  refine Runs.iconst dX9_sums_204 (by decide) ?_
  refine Runs.goto (tgt := 209) dX9_sums_205 (by decide) ?_
  exact k
theorem kX9_sums_208 {X : Scr} {M : Mem} {P : Option AV → Mem → Prop} {x3 x10 xs0 : Int} (k : Runs X mX9_sums 209 [(0, vr 200), (3, vi x3), (10, vi x10)] [vi (0 : Int), vi xs0] M P) : Runs X mX9_sums 208 [(0, vr 200), (3, vi x3), (10, vi x10)] [vi xs0] M P := by
  refine Runs.iconst dX9_sums_208 (by decide) ?_
  exact k
theorem kX9_sums_209 {X : Scr} {M : Mem} {P : Option AV → Mem → Prop} {x3 x10 xs0 xs1 : Int} (k : Runs X mX9_sums 186 [(0, vr 200), (3, vi x3), (9, vi (xs0 + xs1)), (10, vi (x10 + (1 : Int)))] [] M P) (h1 : -2147483648 ≤ (xs0 + xs1) ∧ (xs0 + xs1) ≤ 2147483647 := by omega) (h2 : -2147483648 ≤ (x10 + (1 : Int)) ∧ (x10 + (1 : Int)) ≤ 2147483647 := by omega) : Runs X mX9_sums 209 [(0, vr 200), (3, vi x3), (10, vi x10)] [vi xs1, vi xs0] M P := by
  refine Runs.iadd dX9_sums_209 h1 ?_
  refine Runs.istore (loc' := [(0, vr 200), (3, vi x3), (9, vi (xs0 + xs1)), (10, vi x10)]) dX9_sums_210 (by decide) rfl ?_
  refine Runs.iinc (k := 3) (loc' := [(0, vr 200), (3, vi x3), (9, vi (xs0 + xs1)), (10, vi (x10 + (1 : Int)))]) dX9_sums_212 rfl h2 (by decide) rfl ?_
  refine Runs.goto (tgt := 186) dX9_sums_215 (by decide) ?_
  exact k
theorem kX9_sums_218 {X : Scr} {M : Mem} {P : Option AV → Mem → Prop} {x9 : Int} (k : P (some (vi x9)) M) : Runs X mX9_sums 218 [(9, vi x9)] [] M P := by
  refine Runs.iload (j := 0) dX9_sums_218 rfl ?_
  exact Runs.reti dX9_sums_220 rfl k
theorem kX9_spent_0 {X : Scr} {M : Mem} {P Q : Option AV → Mem → Prop} {x1 x2 : Int} (hC : Call X mX9_noOne [vi x1] (up2 M 200 0 (0 : Int)) Q) (k : ∀ (z : Int) (M1 : Mem), Q (some (vi z)) M1 → Runs X mX9_spent 9 [(0, vr 200), (1, vi x1), (2, vi x2)] [vi z] M1 P) : Runs X mX9_spent 0 [(0, vr 200), (1, vi x1), (2, vi x2)] [] M P := by
  refine Runs.aload_n (j := 0) dX9_spent_0 rfl ?_
  refine Runs.iconst dX9_spent_1 (by decide) ?_
  refine Runs.puti (ci := 9) (j := 0) (C := RX9) (T := TX9) (N := 48) dX9_spent_2 rfl cls_X9 (by decide) rfl fl_X9_108 rfl rfl ?_
  refine Runs.iload_n (j := 1) dX9_spent_5 rfl ?_
  refine Runs.callSi (y := mX9_noOne) (n := 1) (as := [vi x1]) (st := []) dX9_spent_6 oc_X9_noOne sm_X9_noOne ml_X9_190 rfl ⟨(Nat.le_of_ble_eq_true rfl), (Nat.le_of_ble_eq_true rfl)⟩ (Nat.le_of_ble_eq_true rfl) (Nat.le_of_ble_eq_true rfl) (Or.inr rfl) hC (fun z M1 hQ => ?_)
  exact k z M1 hQ
theorem kX9_spent_9 {X : Scr} {M : Mem} {P : Option AV → Mem → Prop} {x1 x2 xs0 : Int} (k1 : xs0 = 0 → Runs X mX9_spent 14 [(0, vr 200), (1, vi x1), (2, vi x2)] [] M P) (k2 : xs0 ≠ 0 → Runs X mX9_spent 12 [] [] M P) : Runs X mX9_spent 9 [(0, vr 200), (1, vi x1), (2, vi x2)] [vi xs0] M P := by
  refine Runs.if_eq (tgt := 14) dX9_spent_9 (by decide) (fun h => ?_) (fun h => ?_)
  · exact k1 h
  · refine Runs.picks (loc' := []) [] rfl ?_
    exact k2 h
theorem kX9_spent_12 {X : Scr} {M : Mem} {P : Option AV → Mem → Prop} (k : P (some (vi (-1 : Int))) M) : Runs X mX9_spent 12 [] [] M P := by
  refine Runs.iconst dX9_spent_12 (by decide) ?_
  exact Runs.reti dX9_spent_13 rfl k
theorem kX9_spent_14 {X : Scr} {M : Mem} {P Q : Option AV → Mem → Prop} {x1 x2 : Int} (hC : Call X mX9_setOf [vr 200, vi x1] M Q) (k : ∀ (z : Int) (M1 : Mem), Q (some (vi z)) M1 → Runs X mX9_spent 20 [(0, vr 200), (2, vi x2)] [vi z, vr 200] M1 P) : Runs X mX9_spent 14 [(0, vr 200), (1, vi x1), (2, vi x2)] [] M P := by
  refine Runs.aload_n (j := 0) dX9_spent_14 rfl ?_
  refine Runs.aload_n (j := 0) dX9_spent_15 rfl ?_
  refine Runs.iload_n (j := 1) dX9_spent_16 rfl ?_
  refine Runs.callVi (y := mX9_setOf) (n := 1) (as := [vi x1]) (st := [vr 200]) (q := (RX9, TX9, 48)) dX9_spent_17 oc_X9_setOf im_X9_setOf se_X9_setOf ml_X9_193 rfl ⟨(Nat.le_of_ble_eq_true rfl), (Nat.le_of_ble_eq_true rfl)⟩ (Nat.le_of_ble_eq_true rfl) (Nat.le_of_ble_eq_true rfl) rfl rfl rfl (Or.inl rfl) hC (fun z M1 hQ => ?_)
  refine Runs.picks (loc' := [(0, vr 200), (2, vi x2)]) [0, 2] rfl ?_
  exact k z M1 hQ
theorem kX9_spent_20 {X : Scr} {M : Mem} {P Q : Option AV → Mem → Prop} {x2 xs1 : Int} (hC : Call X mX9_worthOf [vr 200, vi xs1] M Q) (k : ∀ (z : Int) (M1 : Mem), Q (some (vi z)) M1 → Runs X mX9_spent 23 [(0, vr 200), (2, vi x2)] [vi z] M1 P) : Runs X mX9_spent 20 [(0, vr 200), (2, vi x2)] [vi xs1, vr 200] M P := by
  refine Runs.callVi (y := mX9_worthOf) (n := 1) (as := [vi xs1]) (st := []) (q := (RX9, TX9, 48)) dX9_spent_20 oc_X9_worthOf im_X9_worthOf se_X9_worthOf ml_X9_196 rfl ⟨(Nat.le_of_ble_eq_true rfl), (Nat.le_of_ble_eq_true rfl)⟩ (Nat.le_of_ble_eq_true rfl) (Nat.le_of_ble_eq_true rfl) rfl rfl rfl (Or.inl rfl) hC (fun z M1 hQ => ?_)
  exact k z M1 hQ
theorem kX9_spent_23 {X : Scr} {M : Mem} {P : Option AV → Mem → Prop} {x2 xs0 : Int} (k : Runs X mX9_spent 36 [(0, vr 200), (2, vi x2), (3, vi xs0), (4, vi (0 : Int)), (5, vi (0 : Int)), (6, vi (0 : Int)), (7, vi (1 : Int))] [] M P) : Runs X mX9_spent 23 [(0, vr 200), (2, vi x2)] [vi xs0] M P := by
  refine Runs.istore_n (loc' := [(0, vr 200), (2, vi x2), (3, vi xs0)]) dX9_spent_23 rfl (by decide) rfl ?_
  refine Runs.iconst dX9_spent_24 (by decide) ?_
  refine Runs.istore (loc' := [(0, vr 200), (2, vi x2), (3, vi xs0), (4, vi (0 : Int))]) dX9_spent_25 (by decide) rfl ?_
  refine Runs.iconst dX9_spent_27 (by decide) ?_
  refine Runs.istore (loc' := [(0, vr 200), (2, vi x2), (3, vi xs0), (4, vi (0 : Int)), (5, vi (0 : Int))]) dX9_spent_28 (by decide) rfl ?_
  refine Runs.iconst dX9_spent_30 (by decide) ?_
  refine Runs.istore (loc' := [(0, vr 200), (2, vi x2), (3, vi xs0), (4, vi (0 : Int)), (5, vi (0 : Int)), (6, vi (0 : Int))]) dX9_spent_31 (by decide) rfl ?_
  refine Runs.iconst dX9_spent_33 (by decide) ?_
  refine Runs.istore (loc' := [(0, vr 200), (2, vi x2), (3, vi xs0), (4, vi (0 : Int)), (5, vi (0 : Int)), (6, vi (0 : Int)), (7, vi (1 : Int))]) dX9_spent_34 (by decide) rfl ?_
  exact k
theorem kX9_spent_36 {X : Scr} {M : Mem} {P : Option AV → Mem → Prop} {x2 x3 x4 x5 x6 x7 : Int} (k1 : (zshl (1 : Int) (M 200 15)) ≤ x7 → Runs X mX9_spent 168 [(2, vi x2), (4, vi x4), (6, vi x6)] [] M P) (k2 : x7 < (zshl (1 : Int) (M 200 15)) → Runs X mX9_spent 47 [(0, vr 200), (2, vi x2), (3, vi x3), (4, vi x4), (5, vi x5), (6, vi x6), (7, vi x7)] [] M P) : Runs X mX9_spent 36 [(0, vr 200), (2, vi x2), (3, vi x3), (4, vi x4), (5, vi x5), (6, vi x6), (7, vi x7)] [] M P := by
  refine Runs.iload (j := 6) dX9_spent_36 rfl ?_
  refine Runs.iconst dX9_spent_38 (by decide) ?_
  refine Runs.aload_n (j := 0) dX9_spent_39 rfl ?_
  refine Runs.geti (ci := 9) (j := 15) (C := RX9) (T := TX9) (N := 48) dX9_spent_40 rfl cls_X9 (by decide) rfl fl_X9_162 (Or.inl rfl) ?_
  refine Runs.ishl dX9_spent_43 ?_
  refine Runs.icmp_ge (tgt := 168) dX9_spent_44 (by decide) (fun h => ?_) (fun h => ?_)
  · refine Runs.picks (loc' := [(2, vi x2), (4, vi x4), (6, vi x6)]) [1, 3, 5] rfl ?_
    exact k1 h
  · exact k2 h
theorem kX9_spent_47 {X : Scr} {M : Mem} {P : Option AV → Mem → Prop} {x2 x3 x4 x5 x6 x7 : Int} (k : Runs X mX9_spent 56 [(0, vr 200), (2, vi x2), (3, vi x3), (4, vi x4), (5, vi x5), (6, vi x6), (7, vi x7), (8, vi (0 : Int)), (9, vi (0 : Int)), (10, vi (0 : Int))] [] M P) : Runs X mX9_spent 47 [(0, vr 200), (2, vi x2), (3, vi x3), (4, vi x4), (5, vi x5), (6, vi x6), (7, vi x7)] [] M P := by
  refine Runs.iconst dX9_spent_47 (by decide) ?_
  refine Runs.istore (loc' := [(0, vr 200), (2, vi x2), (3, vi x3), (4, vi x4), (5, vi x5), (6, vi x6), (7, vi x7), (8, vi (0 : Int))]) dX9_spent_48 (by decide) rfl ?_
  refine Runs.iconst dX9_spent_50 (by decide) ?_
  refine Runs.istore (loc' := [(0, vr 200), (2, vi x2), (3, vi x3), (4, vi x4), (5, vi x5), (6, vi x6), (7, vi x7), (8, vi (0 : Int)), (9, vi (0 : Int))]) dX9_spent_51 (by decide) rfl ?_
  refine Runs.iconst dX9_spent_53 (by decide) ?_
  refine Runs.istore (loc' := [(0, vr 200), (2, vi x2), (3, vi x3), (4, vi x4), (5, vi x5), (6, vi x6), (7, vi x7), (8, vi (0 : Int)), (9, vi (0 : Int)), (10, vi (0 : Int))]) dX9_spent_54 (by decide) rfl ?_
  exact k
theorem kX9_spent_56 {X : Scr} {M : Mem} {P : Option AV → Mem → Prop} {x2 x3 x4 x5 x6 x7 x8 x9 x10 : Int} (k1 : (M 200 15) ≤ x10 → Runs X mX9_spent 123 [(0, vr 200), (2, vi x2), (3, vi x3), (4, vi x4), (5, vi x5), (6, vi x6), (7, vi x7), (8, vi x8), (9, vi x9)] [] M P) (k2 : x10 < (M 200 15) → Runs X mX9_spent 65 [(0, vr 200), (2, vi x2), (3, vi x3), (4, vi x4), (5, vi x5), (6, vi x6), (7, vi x7), (8, vi x8), (9, vi x9), (10, vi x10)] [] M P) : Runs X mX9_spent 56 [(0, vr 200), (2, vi x2), (3, vi x3), (4, vi x4), (5, vi x5), (6, vi x6), (7, vi x7), (8, vi x8), (9, vi x9), (10, vi x10)] [] M P := by
  refine Runs.iload (j := 9) dX9_spent_56 rfl ?_
  refine Runs.aload_n (j := 0) dX9_spent_58 rfl ?_
  refine Runs.geti (ci := 9) (j := 15) (C := RX9) (T := TX9) (N := 48) dX9_spent_59 rfl cls_X9 (by decide) rfl fl_X9_162 (Or.inl rfl) ?_
  refine Runs.icmp_ge (tgt := 123) dX9_spent_62 (by decide) (fun h => ?_) (fun h => ?_)
  · refine Runs.picks (loc' := [(0, vr 200), (2, vi x2), (3, vi x3), (4, vi x4), (5, vi x5), (6, vi x6), (7, vi x7), (8, vi x8), (9, vi x9)]) [0, 1, 2, 3, 4, 5, 6, 7, 8] rfl ?_
    exact k1 h
  · exact k2 h
theorem kX9_spent_65 {X : Scr} {M : Mem} {P Q : Option AV → Mem → Prop} {x2 x3 x4 x5 x6 x7 x8 x9 x10 : Int} (hC : Call X mX9_has [vi x7, vi x10] M Q) (k : ∀ (z : Int) (M1 : Mem), Q (some (vi z)) M1 → Runs X mX9_spent 74 [(0, vr 200), (2, vi x2), (3, vi x3), (4, vi x4), (5, vi x5), (6, vi x6), (7, vi x7), (9, vi x9), (10, vi x10)] [vi z, vi x8] M1 P) : Runs X mX9_spent 65 [(0, vr 200), (2, vi x2), (3, vi x3), (4, vi x4), (5, vi x5), (6, vi x6), (7, vi x7), (8, vi x8), (9, vi x9), (10, vi x10)] [] M P := by
  refine Runs.iload (j := 7) dX9_spent_65 rfl ?_
  refine Runs.iload (j := 6) dX9_spent_67 rfl ?_
  refine Runs.iload (j := 9) dX9_spent_69 rfl ?_
  refine Runs.callSi (y := mX9_has) (n := 2) (as := [vi x7, vi x10]) (st := [vi x8]) dX9_spent_71 oc_X9_has sm_X9_has ml_X9_186 rfl ⟨(Nat.le_of_ble_eq_true rfl), (Nat.le_of_ble_eq_true rfl)⟩ (Nat.le_of_ble_eq_true rfl) (Nat.le_of_ble_eq_true rfl) (Or.inr rfl) hC (fun z M1 hQ => ?_)
  refine Runs.picks (loc' := [(0, vr 200), (2, vi x2), (3, vi x3), (4, vi x4), (5, vi x5), (6, vi x6), (7, vi x7), (9, vi x9), (10, vi x10)]) [0, 1, 2, 3, 4, 5, 6, 8, 9] rfl ?_
  exact k z M1 hQ
theorem kX9_spent_74 {X : Scr} {M : Mem} {P : Option AV → Mem → Prop} {x2 x3 x4 x5 x6 x7 x9 x10 xs0 xs1 : Int} (k1 : xs1 = 0 → Runs X mX9_spent 87 [(0, vr 200), (2, vi x2), (3, vi x3), (4, vi x4), (5, vi x5), (6, vi x6), (7, vi x7), (9, vi x9), (10, vi x10)] [vi xs0] M P) (k2 : xs1 ≠ 0 → Runs X mX9_spent 77 [(0, vr 200), (2, vi x2), (3, vi x3), (4, vi x4), (5, vi x5), (6, vi x6), (7, vi x7), (9, vi x9), (10, vi x10)] [vi xs0] M P) : Runs X mX9_spent 74 [(0, vr 200), (2, vi x2), (3, vi x3), (4, vi x4), (5, vi x5), (6, vi x6), (7, vi x7), (9, vi x9), (10, vi x10)] [vi xs1, vi xs0] M P := by
  refine Runs.if_eq (tgt := 87) dX9_spent_74 (by decide) (fun h => ?_) (fun h => ?_)
  · exact k1 h
  · exact k2 h
theorem kX9_spent_77 {X : Scr} {M : Mem} {P : Option AV → Mem → Prop} {x2 x3 x4 x5 x6 x7 x9 x10 xs0 : Int} (k : Runs X mX9_spent 88 [(0, vr 200), (2, vi x2), (3, vi x3), (4, vi x4), (5, vi x5), (6, vi x6), (7, vi x7), (9, vi x9), (10, vi x10)] [vi (M 316 (x10).toNat), vi xs0] M P) (h1 : 0 ≤ x10 := by omega) (h2 : x10 < ((4 : Nat) : Int) := by omega) : Runs X mX9_spent 77 [(0, vr 200), (2, vi x2), (3, vi x3), (4, vi x4), (5, vi x5), (6, vi x6), (7, vi x7), (9, vi x9), (10, vi x10)] [vi xs0] M P := by
  refine Runs.aload_n (j := 0) dX9_spent_77 rfl ?_
  refine Runs.getr (o' := 316) (ci := 9) (j := 16) (C := RX9) (T := TX9) (N := 48) dX9_spent_78 rfl cls_X9 (by decide) rfl fl_X9_45 rfl ⟨rfl, "", Or.inr ⟨_, rfl⟩⟩ ?_
  refine Runs.iload (j := 8) dX9_spent_81 rfl ?_
  refine Runs.iald dX9_spent_83 rfl h1 h2 ?_
  refine Runs.goto (tgt := 88) dX9_spent_84 (by decide) ?_
  exact k
theorem kX9_spent_87 {X : Scr} {M : Mem} {P : Option AV → Mem → Prop} {x2 x3 x4 x5 x6 x7 x9 x10 xs0 : Int} (k : Runs X mX9_spent 88 [(0, vr 200), (2, vi x2), (3, vi x3), (4, vi x4), (5, vi x5), (6, vi x6), (7, vi x7), (9, vi x9), (10, vi x10)] [vi (0 : Int), vi xs0] M P) : Runs X mX9_spent 87 [(0, vr 200), (2, vi x2), (3, vi x3), (4, vi x4), (5, vi x5), (6, vi x6), (7, vi x7), (9, vi x9), (10, vi x10)] [vi xs0] M P := by
  refine Runs.iconst dX9_spent_87 (by decide) ?_
  exact k
theorem kX9_spent_88 {X : Scr} {M : Mem} {P Q : Option AV → Mem → Prop} {x2 x3 x4 x5 x6 x7 x9 x10 xs0 xs1 : Int} (hC : Call X mX9_has [vi x7, vi x10] M Q) (k : ∀ (z : Int) (M1 : Mem), Q (some (vi z)) M1 → Runs X mX9_spent 100 [(0, vr 200), (2, vi x2), (3, vi x3), (4, vi x4), (5, vi x5), (6, vi x6), (7, vi x7), (8, vi (xs0 + xs1)), (10, vi x10)] [vi z, vi x9] M1 P) (h1 : -2147483648 ≤ (xs0 + xs1) ∧ (xs0 + xs1) ≤ 2147483647 := by omega) : Runs X mX9_spent 88 [(0, vr 200), (2, vi x2), (3, vi x3), (4, vi x4), (5, vi x5), (6, vi x6), (7, vi x7), (9, vi x9), (10, vi x10)] [vi xs1, vi xs0] M P := by
  refine Runs.iadd dX9_spent_88 h1 ?_
  refine Runs.istore (loc' := [(0, vr 200), (2, vi x2), (3, vi x3), (4, vi x4), (5, vi x5), (6, vi x6), (7, vi x7), (8, vi (xs0 + xs1)), (9, vi x9), (10, vi x10)]) dX9_spent_89 (by decide) rfl ?_
  refine Runs.iload (j := 8) dX9_spent_91 rfl ?_
  refine Runs.iload (j := 6) dX9_spent_93 rfl ?_
  refine Runs.iload (j := 9) dX9_spent_95 rfl ?_
  refine Runs.callSi (y := mX9_has) (n := 2) (as := [vi x7, vi x10]) (st := [vi x9]) dX9_spent_97 oc_X9_has sm_X9_has ml_X9_186 rfl ⟨(Nat.le_of_ble_eq_true rfl), (Nat.le_of_ble_eq_true rfl)⟩ (Nat.le_of_ble_eq_true rfl) (Nat.le_of_ble_eq_true rfl) (Or.inr rfl) hC (fun z M1 hQ => ?_)
  refine Runs.picks (loc' := [(0, vr 200), (2, vi x2), (3, vi x3), (4, vi x4), (5, vi x5), (6, vi x6), (7, vi x7), (8, vi (xs0 + xs1)), (10, vi x10)]) [0, 1, 2, 3, 4, 5, 6, 7, 9] rfl ?_
  exact k z M1 hQ
theorem kX9_spent_100 {X : Scr} {M : Mem} {P : Option AV → Mem → Prop} {x2 x3 x4 x5 x6 x7 x8 x10 xs0 xs1 : Int} (k1 : xs1 = 0 → Runs X mX9_spent 113 [(0, vr 200), (2, vi x2), (3, vi x3), (4, vi x4), (5, vi x5), (6, vi x6), (7, vi x7), (8, vi x8), (10, vi x10)] [vi xs0] M P) (k2 : xs1 ≠ 0 → Runs X mX9_spent 103 [(0, vr 200), (2, vi x2), (3, vi x3), (4, vi x4), (5, vi x5), (6, vi x6), (7, vi x7), (8, vi x8), (10, vi x10)] [vi xs0] M P) : Runs X mX9_spent 100 [(0, vr 200), (2, vi x2), (3, vi x3), (4, vi x4), (5, vi x5), (6, vi x6), (7, vi x7), (8, vi x8), (10, vi x10)] [vi xs1, vi xs0] M P := by
  refine Runs.if_eq (tgt := 113) dX9_spent_100 (by decide) (fun h => ?_) (fun h => ?_)
  · exact k1 h
  · exact k2 h
theorem kX9_spent_103 {X : Scr} {M : Mem} {P : Option AV → Mem → Prop} {x2 x3 x4 x5 x6 x7 x8 x10 xs0 : Int} (k : Runs X mX9_spent 114 [(0, vr 200), (2, vi x2), (3, vi x3), (4, vi x4), (5, vi x5), (6, vi x6), (7, vi x7), (8, vi x8), (10, vi x10)] [vi (M 317 (x10).toNat), vi xs0] M P) (h1 : 0 ≤ x10 := by omega) (h2 : x10 < ((4 : Nat) : Int) := by omega) : Runs X mX9_spent 103 [(0, vr 200), (2, vi x2), (3, vi x3), (4, vi x4), (5, vi x5), (6, vi x6), (7, vi x7), (8, vi x8), (10, vi x10)] [vi xs0] M P := by
  refine Runs.aload_n (j := 0) dX9_spent_103 rfl ?_
  refine Runs.getr (o' := 317) (ci := 9) (j := 17) (C := RX9) (T := TX9) (N := 48) dX9_spent_104 rfl cls_X9 (by decide) rfl fl_X9_48 rfl ⟨rfl, "", Or.inr ⟨_, rfl⟩⟩ ?_
  refine Runs.iload (j := 8) dX9_spent_107 rfl ?_
  refine Runs.iald dX9_spent_109 rfl h1 h2 ?_
  refine Runs.goto (tgt := 114) dX9_spent_110 (by decide) ?_
  exact k
theorem kX9_spent_113 {X : Scr} {M : Mem} {P : Option AV → Mem → Prop} {x2 x3 x4 x5 x6 x7 x8 x10 xs0 : Int} (k : Runs X mX9_spent 114 [(0, vr 200), (2, vi x2), (3, vi x3), (4, vi x4), (5, vi x5), (6, vi x6), (7, vi x7), (8, vi x8), (10, vi x10)] [vi (0 : Int), vi xs0] M P) : Runs X mX9_spent 113 [(0, vr 200), (2, vi x2), (3, vi x3), (4, vi x4), (5, vi x5), (6, vi x6), (7, vi x7), (8, vi x8), (10, vi x10)] [vi xs0] M P := by
  refine Runs.iconst dX9_spent_113 (by decide) ?_
  exact k
theorem kX9_spent_114 {X : Scr} {M : Mem} {P : Option AV → Mem → Prop} {x2 x3 x4 x5 x6 x7 x8 x10 xs0 xs1 : Int} (k : Runs X mX9_spent 56 [(0, vr 200), (2, vi x2), (3, vi x3), (4, vi x4), (5, vi x5), (6, vi x6), (7, vi x7), (8, vi x8), (9, vi (xs0 + xs1)), (10, vi (x10 + (1 : Int)))] [] M P) (h1 : -2147483648 ≤ (xs0 + xs1) ∧ (xs0 + xs1) ≤ 2147483647 := by omega) (h2 : -2147483648 ≤ (x10 + (1 : Int)) ∧ (x10 + (1 : Int)) ≤ 2147483647 := by omega) : Runs X mX9_spent 114 [(0, vr 200), (2, vi x2), (3, vi x3), (4, vi x4), (5, vi x5), (6, vi x6), (7, vi x7), (8, vi x8), (10, vi x10)] [vi xs1, vi xs0] M P := by
  refine Runs.iadd dX9_spent_114 h1 ?_
  refine Runs.istore (loc' := [(0, vr 200), (2, vi x2), (3, vi x3), (4, vi x4), (5, vi x5), (6, vi x6), (7, vi x7), (8, vi x8), (9, vi (xs0 + xs1)), (10, vi x10)]) dX9_spent_115 (by decide) rfl ?_
  refine Runs.iinc (k := 9) (loc' := [(0, vr 200), (2, vi x2), (3, vi x3), (4, vi x4), (5, vi x5), (6, vi x6), (7, vi x7), (8, vi x8), (9, vi (xs0 + xs1)), (10, vi (x10 + (1 : Int)))]) dX9_spent_117 rfl h2 (by decide) rfl ?_
  refine Runs.goto (tgt := 56) dX9_spent_120 (by decide) ?_
  exact k
theorem kX9_spent_123 {X : Scr} {M : Mem} {P : Option AV → Mem → Prop} {x2 x3 x4 x5 x6 x7 x8 x9 : Int} (k1 : x3 < x8 → Runs X mX9_spent 162 [(0, vr 200), (2, vi x2), (3, vi x3), (4, vi x4), (5, vi x5), (6, vi x6), (7, vi x7)] [] M P) (k2 : x8 ≤ x3 → Runs X mX9_spent 129 [(0, vr 200), (2, vi x2), (3, vi x3), (4, vi x4), (5, vi x5), (6, vi x6), (7, vi x7), (8, vi x8), (9, vi x9)] [] M P) : Runs X mX9_spent 123 [(0, vr 200), (2, vi x2), (3, vi x3), (4, vi x4), (5, vi x5), (6, vi x6), (7, vi x7), (8, vi x8), (9, vi x9)] [] M P := by
  refine Runs.iload (j := 7) dX9_spent_123 rfl ?_
  refine Runs.iload_n (j := 2) dX9_spent_125 rfl ?_
  refine Runs.icmp_gt (tgt := 162) dX9_spent_126 (by decide) (fun h => ?_) (fun h => ?_)
  · refine Runs.picks (loc' := [(0, vr 200), (2, vi x2), (3, vi x3), (4, vi x4), (5, vi x5), (6, vi x6), (7, vi x7)]) [0, 1, 2, 3, 4, 5, 6] rfl ?_
    exact k1 h
  · exact k2 h
theorem kX9_spent_129 {X : Scr} {M : Mem} {P : Option AV → Mem → Prop} {x2 x3 x4 x5 x6 x7 x8 x9 : Int} (k1 : x4 < x9 → Runs X mX9_spent 150 [(0, vr 200), (2, vi x2), (3, vi x3), (7, vi x7), (8, vi x8), (9, vi x9)] [] M P) (k2 : x9 ≤ x4 → Runs X mX9_spent 136 [(0, vr 200), (2, vi x2), (3, vi x3), (4, vi x4), (5, vi x5), (6, vi x6), (7, vi x7), (8, vi x8), (9, vi x9)] [] M P) : Runs X mX9_spent 129 [(0, vr 200), (2, vi x2), (3, vi x3), (4, vi x4), (5, vi x5), (6, vi x6), (7, vi x7), (8, vi x8), (9, vi x9)] [] M P := by
  refine Runs.iload (j := 8) dX9_spent_129 rfl ?_
  refine Runs.iload (j := 3) dX9_spent_131 rfl ?_
  refine Runs.icmp_gt (tgt := 150) dX9_spent_133 (by decide) (fun h => ?_) (fun h => ?_)
  · refine Runs.picks (loc' := [(0, vr 200), (2, vi x2), (3, vi x3), (7, vi x7), (8, vi x8), (9, vi x9)]) [0, 1, 2, 6, 7, 8] rfl ?_
    exact k1 h
  · exact k2 h
theorem kX9_spent_136 {X : Scr} {M : Mem} {P : Option AV → Mem → Prop} {x2 x3 x4 x5 x6 x7 x8 x9 : Int} (k1 : x9 ≠ x4 → Runs X mX9_spent 162 [(0, vr 200), (2, vi x2), (3, vi x3), (4, vi x4), (5, vi x5), (6, vi x6), (7, vi x7)] [] M P) (k2 : x9 = x4 → Runs X mX9_spent 143 [(0, vr 200), (2, vi x2), (3, vi x3), (4, vi x4), (5, vi x5), (6, vi x6), (7, vi x7), (8, vi x8), (9, vi x9)] [] M P) : Runs X mX9_spent 136 [(0, vr 200), (2, vi x2), (3, vi x3), (4, vi x4), (5, vi x5), (6, vi x6), (7, vi x7), (8, vi x8), (9, vi x9)] [] M P := by
  refine Runs.iload (j := 8) dX9_spent_136 rfl ?_
  refine Runs.iload (j := 3) dX9_spent_138 rfl ?_
  refine Runs.icmp_ne (tgt := 162) dX9_spent_140 (by decide) (fun h => ?_) (fun h => ?_)
  · refine Runs.picks (loc' := [(0, vr 200), (2, vi x2), (3, vi x3), (4, vi x4), (5, vi x5), (6, vi x6), (7, vi x7)]) [0, 1, 2, 3, 4, 5, 6] rfl ?_
    exact k1 h
  · exact k2 h
theorem kX9_spent_143 {X : Scr} {M : Mem} {P : Option AV → Mem → Prop} {x2 x3 x4 x5 x6 x7 x8 x9 : Int} (k1 : x5 ≤ x8 → Runs X mX9_spent 162 [(0, vr 200), (2, vi x2), (3, vi x3), (4, vi x4), (5, vi x5), (6, vi x6), (7, vi x7)] [] M P) (k2 : x8 < x5 → Runs X mX9_spent 150 [(0, vr 200), (2, vi x2), (3, vi x3), (7, vi x7), (8, vi x8), (9, vi x9)] [] M P) : Runs X mX9_spent 143 [(0, vr 200), (2, vi x2), (3, vi x3), (4, vi x4), (5, vi x5), (6, vi x6), (7, vi x7), (8, vi x8), (9, vi x9)] [] M P := by
  refine Runs.iload (j := 7) dX9_spent_143 rfl ?_
  refine Runs.iload (j := 4) dX9_spent_145 rfl ?_
  refine Runs.icmp_ge (tgt := 162) dX9_spent_147 (by decide) (fun h => ?_) (fun h => ?_)
  · refine Runs.picks (loc' := [(0, vr 200), (2, vi x2), (3, vi x3), (4, vi x4), (5, vi x5), (6, vi x6), (7, vi x7)]) [0, 1, 2, 3, 4, 5, 6] rfl ?_
    exact k1 h
  · refine Runs.picks (loc' := [(0, vr 200), (2, vi x2), (3, vi x3), (7, vi x7), (8, vi x8), (9, vi x9)]) [0, 1, 2, 6, 7, 8] rfl ?_
    exact k2 h
theorem kX9_spent_150 {X : Scr} {M : Mem} {P : Option AV → Mem → Prop} {x2 x3 x7 x8 x9 : Int} (k : Runs X mX9_spent 162 [(0, vr 200), (2, vi x2), (3, vi x3), (4, vi x9), (5, vi x8), (6, vi x7), (7, vi x7)] [] M P) : Runs X mX9_spent 150 [(0, vr 200), (2, vi x2), (3, vi x3), (7, vi x7), (8, vi x8), (9, vi x9)] [] M P := by
  refine Runs.iload (j := 5) dX9_spent_150 rfl ?_
  refine Runs.istore (loc' := [(0, vr 200), (2, vi x2), (3, vi x3), (4, vi x9), (7, vi x7), (8, vi x8), (9, vi x9)]) dX9_spent_152 (by decide) rfl ?_
  refine Runs.iload (j := 5) dX9_spent_154 rfl ?_
  refine Runs.istore (loc' := [(0, vr 200), (2, vi x2), (3, vi x3), (4, vi x9), (5, vi x8), (7, vi x7), (8, vi x8), (9, vi x9)]) dX9_spent_156 (by decide) rfl ?_
  refine Runs.iload (j := 5) dX9_spent_158 rfl ?_
  refine Runs.istore (loc' := [(0, vr 200), (2, vi x2), (3, vi x3), (4, vi x9), (5, vi x8), (6, vi x7), (7, vi x7), (8, vi x8), (9, vi x9)]) dX9_spent_160 (by decide) rfl ?_
  refine Runs.picks (loc' := [(0, vr 200), (2, vi x2), (3, vi x3), (4, vi x9), (5, vi x8), (6, vi x7), (7, vi x7)]) [0, 1, 2, 3, 4, 5, 6] rfl ?_
  exact k
theorem kX9_spent_162 {X : Scr} {M : Mem} {P : Option AV → Mem → Prop} {x2 x3 x4 x5 x6 x7 : Int} (k : Runs X mX9_spent 36 [(0, vr 200), (2, vi x2), (3, vi x3), (4, vi x4), (5, vi x5), (6, vi x6), (7, vi (x7 + (1 : Int)))] [] M P) (h1 : -2147483648 ≤ (x7 + (1 : Int)) ∧ (x7 + (1 : Int)) ≤ 2147483647 := by omega) : Runs X mX9_spent 162 [(0, vr 200), (2, vi x2), (3, vi x3), (4, vi x4), (5, vi x5), (6, vi x6), (7, vi x7)] [] M P := by
  refine Runs.iinc (k := 6) (loc' := [(0, vr 200), (2, vi x2), (3, vi x3), (4, vi x4), (5, vi x5), (6, vi x6), (7, vi (x7 + (1 : Int)))]) dX9_spent_162 rfl h1 (by decide) rfl ?_
  refine Runs.goto (tgt := 36) dX9_spent_165 (by decide) ?_
  exact k
theorem kX9_spent_168 {X : Scr} {M : Mem} {P : Option AV → Mem → Prop} {x2 x4 x6 : Int} (k1 : x2 = 0 → Runs X mX9_spent 177 [(4, vi x4)] [] M P) (k2 : x2 ≠ 0 → Runs X mX9_spent 172 [(6, vi x6)] [] M P) : Runs X mX9_spent 168 [(2, vi x2), (4, vi x4), (6, vi x6)] [] M P := by
  refine Runs.iload_n (j := 0) dX9_spent_168 rfl ?_
  refine Runs.if_eq (tgt := 177) dX9_spent_169 (by decide) (fun h => ?_) (fun h => ?_)
  · refine Runs.picks (loc' := [(4, vi x4)]) [1] rfl ?_
    exact k1 h
  · refine Runs.picks (loc' := [(6, vi x6)]) [2] rfl ?_
    exact k2 h
theorem kX9_spent_172 {X : Scr} {M : Mem} {P : Option AV → Mem → Prop} {x6 : Int} (k : Runs X mX9_spent 179 [] [vi x6] M P) : Runs X mX9_spent 172 [(6, vi x6)] [] M P := by
  refine Runs.iload (j := 0) dX9_spent_172 rfl ?_
  refine Runs.goto (tgt := 179) dX9_spent_174 (by decide) ?_
  refine Runs.picks (loc' := []) [] rfl ?_
  exact k
theorem kX9_spent_177 {X : Scr} {M : Mem} {P : Option AV → Mem → Prop} {x4 : Int} (k : Runs X mX9_spent 179 [] [vi x4] M P) : Runs X mX9_spent 177 [(4, vi x4)] [] M P := by
  refine Runs.iload (j := 0) dX9_spent_177 rfl ?_
  refine Runs.picks (loc' := []) [] rfl ?_
  exact k
theorem kX9_spent_179 {X : Scr} {M : Mem} {P : Option AV → Mem → Prop} {xs0 : Int} (k : P (some (vi xs0)) M) : Runs X mX9_spent 179 [] [vi xs0] M P := by
  exact Runs.reti dX9_spent_179 rfl k
theorem kX9_add_0 {X : Scr} {M : Mem} {P : Option AV → Mem → Prop} {x1 x2 : Int} (k1 : (((qushr x2 (33 : Int)) / (9 : Int)) % (2 : Int)) ≠ (0 : Int) → Runs X mX9_add 51 [(0, vr 200), (1, vi x1)] [vi ((up2 M 307 ((M 200 6)).toNat ((l2i ((qushr x2 (33 : Int)) % (9 : Int))) + (1 : Int))) 200 6), vr 308] (up2 M 307 ((M 200 6)).toNat ((l2i ((qushr x2 (33 : Int)) % (9 : Int))) + (1 : Int))) P) (k2 : (((qushr x2 (33 : Int)) / (9 : Int)) % (2 : Int)) = (0 : Int) → Runs X mX9_add 47 [(0, vr 200), (1, vi x1)] [vi ((up2 M 307 ((M 200 6)).toNat ((l2i ((qushr x2 (33 : Int)) % (9 : Int))) + (1 : Int))) 200 6), vr 308] (up2 M 307 ((M 200 6)).toNat ((l2i ((qushr x2 (33 : Int)) % (9 : Int))) + (1 : Int))) P) (h1 : 0 ≤ (qushr x2 (33 : Int)) := by omega) (h2 : 0 < (9 : Int) := by omega) (h3 : -2147483648 ≤ ((l2i ((qushr x2 (33 : Int)) % (9 : Int))) + (1 : Int)) ∧ ((l2i ((qushr x2 (33 : Int)) % (9 : Int))) + (1 : Int)) ≤ 2147483647 := by omega) (h4 : 0 ≤ (M 200 6) := by omega) (h5 : (M 200 6) < ((10 : Nat) : Int) := by omega) (h6 : 0 ≤ ((qushr x2 (33 : Int)) / (9 : Int)) := by omega) (h7 : 0 < (2 : Int) := by omega) : Runs X mX9_add 0 [(0, vr 200), (1, vi x1), (2, vl x2)] [] M P := by
  refine Runs.lload_n (j := 2) dX9_add_0 rfl ?_
  refine Runs.bipush dX9_add_1 (by decide) (by decide) ?_
  refine Runs.lushr dX9_add_3 ?_
  refine Runs.lstore (loc' := [(0, vr 200), (1, vi x1), (2, vl x2), (4, vl (qushr x2 (33 : Int)))]) dX9_add_4 (by decide) rfl ?_
  refine Runs.aload_n (j := 0) dX9_add_6 rfl ?_
  refine Runs.getr (o' := 307) (ci := 9) (j := 7) (C := RX9) (T := TX9) (N := 48) dX9_add_7 rfl cls_X9 (by decide) rfl fl_X9_20 rfl ⟨rfl, "", Or.inr ⟨_, rfl⟩⟩ ?_
  refine Runs.aload_n (j := 0) dX9_add_10 rfl ?_
  refine Runs.geti (ci := 9) (j := 6) (C := RX9) (T := TX9) (N := 48) dX9_add_11 rfl cls_X9 (by decide) rfl fl_X9_111 (Or.inl rfl) ?_
  refine Runs.lload (j := 3) dX9_add_14 rfl ?_
  refine Runs.ldc2 (z := 9) dX9_add_16 w4_234 (by decide) (by decide) ?_
  refine Runs.lrem dX9_add_19 h1 h2 ?_
  refine Runs.l2i dX9_add_20 ?_
  refine Runs.iconst dX9_add_21 (by decide) ?_
  refine Runs.iadd dX9_add_22 h3 ?_
  refine Runs.iast dX9_add_23 rfl h4 h5 ?_
  refine Runs.aload_n (j := 0) dX9_add_24 rfl ?_
  refine Runs.getr (o' := 308) (ci := 9) (j := 8) (C := RX9) (T := TX9) (N := 48) dX9_add_25 rfl cls_X9 (by decide) rfl fl_X9_23 rfl ⟨rfl, "", Or.inr ⟨_, rfl⟩⟩ ?_
  refine Runs.aload_n (j := 0) dX9_add_28 rfl ?_
  refine Runs.geti (ci := 9) (j := 6) (C := RX9) (T := TX9) (N := 48) dX9_add_29 rfl cls_X9 (by decide) rfl fl_X9_111 (Or.inl rfl) ?_
  refine Runs.lload (j := 3) dX9_add_32 rfl ?_
  refine Runs.ldc2 (z := 9) dX9_add_34 w4_234 (by decide) (by decide) ?_
  refine Runs.ldiv dX9_add_37 h1 h2 ?_
  refine Runs.ldc2 (z := 2) dX9_add_38 w4_235 (by decide) (by decide) ?_
  refine Runs.lrem dX9_add_41 h6 h7 ?_
  refine Runs.lconst (z := 0) dX9_add_42 rfl (by decide) ?_
  refine Runs.lcmp_ne (tgt := 51) dX9_add_43 dX9_add_44 (by decide) (fun h => ?_) (fun h => ?_)
  · refine Runs.picks (loc' := [(0, vr 200), (1, vi x1)]) [0, 1] rfl ?_
    exact k1 h
  · refine Runs.picks (loc' := [(0, vr 200), (1, vi x1)]) [0, 1] rfl ?_
    exact k2 h
theorem kX9_add_47 {X : Scr} {M : Mem} {P : Option AV → Mem → Prop} {x1 xs1 : Int} (k : Runs X mX9_add 52 [(0, vr 200), (1, vi x1)] [vi (1 : Int), vi xs1, vr 308] M P) : Runs X mX9_add 47 [(0, vr 200), (1, vi x1)] [vi xs1, vr 308] M P := by
  refine Runs.iconst dX9_add_47 (by decide) ?_
  refine Runs.goto (tgt := 52) dX9_add_48 (by decide) ?_
  exact k
theorem kX9_add_51 {X : Scr} {M : Mem} {P : Option AV → Mem → Prop} {x1 xs1 : Int} (k : Runs X mX9_add 52 [(0, vr 200), (1, vi x1)] [vi (0 : Int), vi xs1, vr 308] M P) : Runs X mX9_add 51 [(0, vr 200), (1, vi x1)] [vi xs1, vr 308] M P := by
  refine Runs.iconst dX9_add_51 (by decide) ?_
  exact k
theorem kX9_add_52 {X : Scr} {M : Mem} {P Q : Option AV → Mem → Prop} {x1 xs1 xs2 : Int} (hC : Call X mX9_come [vr 200, vi ((up2 (up2 (up2 (up2 M 308 (xs1).toNat xs2) 309 (((up2 M 308 (xs1).toNat xs2) 200 6)).toNat (0 : Int)) 310 (((up2 (up2 M 308 (xs1).toNat xs2) 309 (((up2 M 308 (xs1).toNat xs2) 200 6)).toNat (0 : Int)) 200 6)).toNat x1) 311 (((up2 (up2 (up2 M 308 (xs1).toNat xs2) 309 (((up2 M 308 (xs1).toNat xs2) 200 6)).toNat (0 : Int)) 310 (((up2 (up2 M 308 (xs1).toNat xs2) 309 (((up2 M 308 (xs1).toNat xs2) 200 6)).toNat (0 : Int)) 200 6)).toNat x1) 200 6)).toNat (0 : Int)) 200 6)] (up2 (up2 (up2 (up2 M 308 (xs1).toNat xs2) 309 (((up2 M 308 (xs1).toNat xs2) 200 6)).toNat (0 : Int)) 310 (((up2 (up2 M 308 (xs1).toNat xs2) 309 (((up2 M 308 (xs1).toNat xs2) 200 6)).toNat (0 : Int)) 200 6)).toNat x1) 311 (((up2 (up2 (up2 M 308 (xs1).toNat xs2) 309 (((up2 M 308 (xs1).toNat xs2) 200 6)).toNat (0 : Int)) 310 (((up2 (up2 M 308 (xs1).toNat xs2) 309 (((up2 M 308 (xs1).toNat xs2) 200 6)).toNat (0 : Int)) 200 6)).toNat x1) 200 6)).toNat (0 : Int)) Q) (k : ∀ (M1 : Mem), Q none M1 → Runs X mX9_add 91 [(0, vr 200)] [] M1 P) (h1 : 0 ≤ xs1 := by omega) (h2 : xs1 < ((10 : Nat) : Int) := by omega) (h3 : 0 ≤ xs2 ∧ xs2 ≤ 1 := by omega) (h4 : 0 ≤ ((up2 M 308 (xs1).toNat xs2) 200 6) := by omega) (h5 : ((up2 M 308 (xs1).toNat xs2) 200 6) < ((10 : Nat) : Int) := by omega) (h6 : 0 ≤ ((up2 (up2 M 308 (xs1).toNat xs2) 309 (((up2 M 308 (xs1).toNat xs2) 200 6)).toNat (0 : Int)) 200 6) := by omega) (h7 : ((up2 (up2 M 308 (xs1).toNat xs2) 309 (((up2 M 308 (xs1).toNat xs2) 200 6)).toNat (0 : Int)) 200 6) < ((10 : Nat) : Int) := by omega) (h8 : 0 ≤ ((up2 (up2 (up2 M 308 (xs1).toNat xs2) 309 (((up2 M 308 (xs1).toNat xs2) 200 6)).toNat (0 : Int)) 310 (((up2 (up2 M 308 (xs1).toNat xs2) 309 (((up2 M 308 (xs1).toNat xs2) 200 6)).toNat (0 : Int)) 200 6)).toNat x1) 200 6) := by omega) (h9 : ((up2 (up2 (up2 M 308 (xs1).toNat xs2) 309 (((up2 M 308 (xs1).toNat xs2) 200 6)).toNat (0 : Int)) 310 (((up2 (up2 M 308 (xs1).toNat xs2) 309 (((up2 M 308 (xs1).toNat xs2) 200 6)).toNat (0 : Int)) 200 6)).toNat x1) 200 6) < ((10 : Nat) : Int) := by omega) (h10 : 0 ≤ (0 : Int) ∧ (0 : Int) ≤ 1 := by omega) : Runs X mX9_add 52 [(0, vr 200), (1, vi x1)] [vi xs2, vi xs1, vr 308] M P := by
  refine Runs.zast dX9_add_52 rfl h1 h2 h3 ?_
  refine Runs.aload_n (j := 0) dX9_add_53 rfl ?_
  refine Runs.getr (o' := 309) (ci := 9) (j := 9) (C := RX9) (T := TX9) (N := 48) dX9_add_54 rfl cls_X9 (by decide) rfl fl_X9_27 rfl ⟨rfl, "", Or.inr ⟨_, rfl⟩⟩ ?_
  refine Runs.aload_n (j := 0) dX9_add_57 rfl ?_
  refine Runs.geti (ci := 9) (j := 6) (C := RX9) (T := TX9) (N := 48) dX9_add_58 rfl cls_X9 (by decide) rfl fl_X9_111 (Or.inl rfl) ?_
  refine Runs.iconst dX9_add_61 (by decide) ?_
  refine Runs.iast dX9_add_62 rfl h4 h5 ?_
  refine Runs.aload_n (j := 0) dX9_add_63 rfl ?_
  refine Runs.getr (o' := 310) (ci := 9) (j := 10) (C := RX9) (T := TX9) (N := 48) dX9_add_64 rfl cls_X9 (by decide) rfl fl_X9_30 rfl ⟨rfl, "", Or.inr ⟨_, rfl⟩⟩ ?_
  refine Runs.aload_n (j := 0) dX9_add_67 rfl ?_
  refine Runs.geti (ci := 9) (j := 6) (C := RX9) (T := TX9) (N := 48) dX9_add_68 rfl cls_X9 (by decide) rfl fl_X9_111 (Or.inl rfl) ?_
  refine Runs.iload_n (j := 1) dX9_add_71 rfl ?_
  refine Runs.iast dX9_add_72 rfl h6 h7 ?_
  refine Runs.aload_n (j := 0) dX9_add_73 rfl ?_
  refine Runs.getr (o' := 311) (ci := 9) (j := 11) (C := RX9) (T := TX9) (N := 48) dX9_add_74 rfl cls_X9 (by decide) rfl fl_X9_33 rfl ⟨rfl, "", Or.inr ⟨_, rfl⟩⟩ ?_
  refine Runs.aload_n (j := 0) dX9_add_77 rfl ?_
  refine Runs.geti (ci := 9) (j := 6) (C := RX9) (T := TX9) (N := 48) dX9_add_78 rfl cls_X9 (by decide) rfl fl_X9_111 (Or.inl rfl) ?_
  refine Runs.iconst dX9_add_81 (by decide) ?_
  refine Runs.zast dX9_add_82 rfl h8 h9 h10 ?_
  refine Runs.aload_n (j := 0) dX9_add_83 rfl ?_
  refine Runs.aload_n (j := 0) dX9_add_84 rfl ?_
  refine Runs.geti (ci := 9) (j := 6) (C := RX9) (T := TX9) (N := 48) dX9_add_85 rfl cls_X9 (by decide) rfl fl_X9_111 (Or.inl rfl) ?_
  refine Runs.callVv (y := mX9_come) (n := 1) (as := [vi ((up2 (up2 (up2 (up2 M 308 (xs1).toNat xs2) 309 (((up2 M 308 (xs1).toNat xs2) 200 6)).toNat (0 : Int)) 310 (((up2 (up2 M 308 (xs1).toNat xs2) 309 (((up2 M 308 (xs1).toNat xs2) 200 6)).toNat (0 : Int)) 200 6)).toNat x1) 311 (((up2 (up2 (up2 M 308 (xs1).toNat xs2) 309 (((up2 M 308 (xs1).toNat xs2) 200 6)).toNat (0 : Int)) 310 (((up2 (up2 M 308 (xs1).toNat xs2) 309 (((up2 M 308 (xs1).toNat xs2) 200 6)).toNat (0 : Int)) 200 6)).toNat x1) 200 6)).toNat (0 : Int)) 200 6)]) (st := []) (q := (RX9, TX9, 48)) dX9_add_88 oc_X9_come im_X9_come se_X9_come ml_X9_165 rfl ⟨(Nat.le_of_ble_eq_true rfl), (Nat.le_of_ble_eq_true rfl)⟩ (Nat.le_of_ble_eq_true rfl) (Nat.le_of_ble_eq_true rfl) rfl rfl rfl rfl hC (fun M1 hQ => ?_)
  refine Runs.picks (loc' := [(0, vr 200)]) [0] rfl ?_
  exact k M1 hQ
theorem kX9_add_91 {X : Scr} {M : Mem} {P : Option AV → Mem → Prop} (k : P none (up2 M 200 6 ((M 200 6) + (1 : Int)))) (h1 : -2147483648 ≤ ((M 200 6) + (1 : Int)) ∧ ((M 200 6) + (1 : Int)) ≤ 2147483647 := by omega) : Runs X mX9_add 91 [(0, vr 200)] [] M P := by
  refine Runs.aload_n (j := 0) dX9_add_91 rfl ?_
  refine Runs.dup dX9_add_92 (by intro z h; cases h) ?_
  refine Runs.geti (ci := 9) (j := 6) (C := RX9) (T := TX9) (N := 48) dX9_add_93 rfl cls_X9 (by decide) rfl fl_X9_111 (Or.inl rfl) ?_
  refine Runs.iconst dX9_add_96 (by decide) ?_
  refine Runs.iadd dX9_add_97 h1 ?_
  refine Runs.puti (ci := 9) (j := 6) (C := RX9) (T := TX9) (N := 48) dX9_add_98 rfl cls_X9 (by decide) rfl fl_X9_111 rfl rfl ?_
  exact Runs.ret0 dX9_add_101 rfl k
theorem kX9_draw_0 {X : Scr} {M : Mem} {P : Option AV → Mem → Prop} {x0 : Int} (k : P (some (vl (wrapL ((wrapL (x0 * (6364136223846793005 : Int))) + (1442695040888963407 : Int))))) M) : Runs X mX9_draw 0 [(0, vl x0)] [] M P := by
  refine Runs.lload_n (j := 0) dX9_draw_0 rfl ?_
  refine Runs.ldc2 (z := 6364136223846793005) dX9_draw_1 w4_228 (by decide) (by decide) ?_
  refine Runs.lmulW dX9_draw_4 ?_
  refine Runs.ldc2 (z := 1442695040888963407) dX9_draw_5 w4_229 (by decide) (by decide) ?_
  refine Runs.laddW dX9_draw_8 ?_
  exact Runs.retl dX9_draw_9 rfl k
theorem kX9_caught_0 {X : Scr} {M : Mem} {P Q : Option AV → Mem → Prop} {x1 x2 : Int} (hC : Call X mX9_noOne [vi x1] (up2 M 200 0 (0 : Int)) Q) (k : ∀ (z : Int) (M1 : Mem), Q (some (vi z)) M1 → Runs X mX9_caught 9 [(0, vr 200), (1, vi x1), (2, vl x2)] [vi z] M1 P) : Runs X mX9_caught 0 [(0, vr 200), (1, vi x1), (2, vl x2)] [] M P := by
  refine Runs.aload_n (j := 0) dX9_caught_0 rfl ?_
  refine Runs.iconst dX9_caught_1 (by decide) ?_
  refine Runs.puti (ci := 9) (j := 0) (C := RX9) (T := TX9) (N := 48) dX9_caught_2 rfl cls_X9 (by decide) rfl fl_X9_108 rfl rfl ?_
  refine Runs.iload_n (j := 1) dX9_caught_5 rfl ?_
  refine Runs.callSi (y := mX9_noOne) (n := 1) (as := [vi x1]) (st := []) dX9_caught_6 oc_X9_noOne sm_X9_noOne ml_X9_190 rfl ⟨(Nat.le_of_ble_eq_true rfl), (Nat.le_of_ble_eq_true rfl)⟩ (Nat.le_of_ble_eq_true rfl) (Nat.le_of_ble_eq_true rfl) (Or.inr rfl) hC (fun z M1 hQ => ?_)
  exact k z M1 hQ
theorem kX9_caught_9 {X : Scr} {M : Mem} {P : Option AV → Mem → Prop} {x1 x2 xs0 : Int} (k1 : xs0 = 0 → Runs X mX9_caught 14 [(0, vr 200), (1, vi x1), (2, vl x2)] [] M P) (k2 : xs0 ≠ 0 → Runs X mX9_caught 12 [] [] M P) : Runs X mX9_caught 9 [(0, vr 200), (1, vi x1), (2, vl x2)] [vi xs0] M P := by
  refine Runs.if_eq (tgt := 14) dX9_caught_9 (by decide) (fun h => ?_) (fun h => ?_)
  · exact k1 h
  · refine Runs.picks (loc' := []) [] rfl ?_
    exact k2 h
theorem kX9_caught_12 {X : Scr} {M : Mem} {P : Option AV → Mem → Prop} (k : P (some (vi (-1 : Int))) M) : Runs X mX9_caught 12 [] [] M P := by
  refine Runs.iconst dX9_caught_12 (by decide) ?_
  exact Runs.reti dX9_caught_13 rfl k
theorem kX9_caught_14 {X : Scr} {M : Mem} {P : Option AV → Mem → Prop} {x1 x2 : Int} (k1 : (M 200 6) ≠ (10 : Int) → Runs X mX9_caught 26 [(0, vr 200), (1, vi x1), (2, vl x2)] [] M P) (k2 : (M 200 6) = (10 : Int) → Runs X mX9_caught 23 [] [] M P) : Runs X mX9_caught 14 [(0, vr 200), (1, vi x1), (2, vl x2)] [] M P := by
  refine Runs.aload_n (j := 0) dX9_caught_14 rfl ?_
  refine Runs.geti (ci := 9) (j := 6) (C := RX9) (T := TX9) (N := 48) dX9_caught_15 rfl cls_X9 (by decide) rfl fl_X9_111 (Or.inl rfl) ?_
  refine Runs.bipush dX9_caught_18 (by decide) (by decide) ?_
  refine Runs.icmp_ne (tgt := 26) dX9_caught_20 (by decide) (fun h => ?_) (fun h => ?_)
  · exact k1 h
  · refine Runs.picks (loc' := []) [] rfl ?_
    exact k2 h
theorem kX9_caught_23 {X : Scr} {M : Mem} {P : Option AV → Mem → Prop} (k : P (some (vi (-4 : Int))) M) : Runs X mX9_caught 23 [] [] M P := by
  refine Runs.bipush dX9_caught_23 (by decide) (by decide) ?_
  exact Runs.reti dX9_caught_25 rfl k
theorem kX9_caught_26 {X : Scr} {M : Mem} {P Q : Option AV → Mem → Prop} {x1 x2 : Int} (hC : Call X mX9_draw [vl x2] M Q) (k : ∀ (z : Int) (M1 : Mem), Q (some (vl z)) M1 → Runs X mX9_caught 32 [(0, vr 200)] [vl z, vi x1, vr 200] M1 P) : Runs X mX9_caught 26 [(0, vr 200), (1, vi x1), (2, vl x2)] [] M P := by
  refine Runs.aload_n (j := 0) dX9_caught_26 rfl ?_
  refine Runs.iload_n (j := 1) dX9_caught_27 rfl ?_
  refine Runs.lload_n (j := 2) dX9_caught_28 rfl ?_
  refine Runs.callSl (y := mX9_draw) (n := 1) (as := [vl x2]) (st := [vi x1, vr 200]) dX9_caught_29 oc_X9_draw sm_X9_draw ml_X9_248 rfl ⟨(Nat.le_of_ble_eq_true rfl), (Nat.le_of_ble_eq_true rfl)⟩ (Nat.le_of_ble_eq_true rfl) (Nat.le_of_ble_eq_true rfl) rfl hC (fun z M1 hQ => ?_)
  refine Runs.picks (loc' := [(0, vr 200)]) [0] rfl ?_
  exact k z M1 hQ
theorem kX9_caught_32 {X : Scr} {M : Mem} {P Q : Option AV → Mem → Prop} {xs1 xs2 : Int} (hC : Call X mX9_add [vr 200, vi xs1, vl xs2] M Q) (k : ∀ (M1 : Mem), Q none M1 → Runs X mX9_caught 35 [(0, vr 200)] [] M1 P) : Runs X mX9_caught 32 [(0, vr 200)] [vl xs2, vi xs1, vr 200] M P := by
  refine Runs.callVv (y := mX9_add) (n := 2) (as := [vi xs1, vl xs2]) (st := []) (q := (RX9, TX9, 48)) dX9_caught_32 oc_X9_add im_X9_add se_X9_add ml_X9_252 rfl ⟨(Nat.le_of_ble_eq_true rfl), (Nat.le_of_ble_eq_true rfl)⟩ (Nat.le_of_ble_eq_true rfl) (Nat.le_of_ble_eq_true rfl) rfl rfl rfl rfl hC (fun M1 hQ => ?_)
  exact k M1 hQ
theorem kX9_caught_35 {X : Scr} {M : Mem} {P : Option AV → Mem → Prop} (k : P (some (vi ((M 200 6) - (1 : Int)))) M) (h1 : -2147483648 ≤ ((M 200 6) - (1 : Int)) ∧ ((M 200 6) - (1 : Int)) ≤ 2147483647 := by omega) : Runs X mX9_caught 35 [(0, vr 200)] [] M P := by
  refine Runs.aload_n (j := 0) dX9_caught_35 rfl ?_
  refine Runs.geti (ci := 9) (j := 6) (C := RX9) (T := TX9) (N := 48) dX9_caught_36 rfl cls_X9 (by decide) rfl fl_X9_111 (Or.inl rfl) ?_
  refine Runs.iconst dX9_caught_39 (by decide) ?_
  refine Runs.isub dX9_caught_40 h1 ?_
  exact Runs.reti dX9_caught_41 rfl k
theorem kX9_washed_0 {X : Scr} {M : Mem} {P Q : Option AV → Mem → Prop} {x1 x2 : Int} (hC : Call X mX9_in [vl x1, vl (1 : Int), vl (10 : Int)] (up2 M 200 0 (0 : Int)) Q) (k : ∀ (z : Int) (M1 : Mem), Q (some (vi z)) M1 → Runs X mX9_washed 14 [(0, vr 200), (1, vi x1), (2, vl x2)] [vi z] M1 P) : Runs X mX9_washed 0 [(0, vr 200), (1, vi x1), (2, vl x2)] [] M P := by
  refine Runs.aload_n (j := 0) dX9_washed_0 rfl ?_
  refine Runs.iconst dX9_washed_1 (by decide) ?_
  refine Runs.puti (ci := 9) (j := 0) (C := RX9) (T := TX9) (N := 48) dX9_washed_2 rfl cls_X9 (by decide) rfl fl_X9_108 rfl rfl ?_
  refine Runs.iload_n (j := 1) dX9_washed_5 rfl ?_
  refine Runs.i2l dX9_washed_6 ?_
  refine Runs.lconst (z := 1) dX9_washed_7 rfl (by decide) ?_
  refine Runs.ldc2 (z := 10) dX9_washed_8 w5_0 (by decide) (by decide) ?_
  refine Runs.callSi (y := mX9_in) (n := 3) (as := [vl x1, vl (1 : Int), vl (10 : Int)]) (st := []) dX9_washed_11 oc_X9_in sm_X9_in ml_X9_114 rfl ⟨(Nat.le_of_ble_eq_true rfl), (Nat.le_of_ble_eq_true rfl)⟩ (Nat.le_of_ble_eq_true rfl) (Nat.le_of_ble_eq_true rfl) (Or.inr rfl) hC (fun z M1 hQ => ?_)
  exact k z M1 hQ
theorem kX9_washed_14 {X : Scr} {M : Mem} {P : Option AV → Mem → Prop} {x1 x2 xs0 : Int} (k1 : xs0 ≠ 0 → Runs X mX9_washed 20 [(0, vr 200), (1, vi x1), (2, vl x2)] [] M P) (k2 : xs0 = 0 → Runs X mX9_washed 17 [] [] M P) : Runs X mX9_washed 14 [(0, vr 200), (1, vi x1), (2, vl x2)] [vi xs0] M P := by
  refine Runs.if_ne (tgt := 20) dX9_washed_14 (by decide) (fun h => ?_) (fun h => ?_)
  · exact k1 h
  · refine Runs.picks (loc' := []) [] rfl ?_
    exact k2 h
theorem kX9_washed_17 {X : Scr} {M : Mem} {P : Option AV → Mem → Prop} (k : P (some (vi (-2 : Int))) M) : Runs X mX9_washed 17 [] [] M P := by
  refine Runs.bipush dX9_washed_17 (by decide) (by decide) ?_
  exact Runs.reti dX9_washed_19 rfl k
theorem kX9_washed_20 {X : Scr} {M : Mem} {P : Option AV → Mem → Prop} {x1 x2 : Int} (k1 : ((M 200 6) + x1) ≤ (10 : Int) → Runs X mX9_washed 34 [(0, vr 200), (1, vi x1), (2, vl x2)] [] M P) (k2 : (10 : Int) < ((M 200 6) + x1) → Runs X mX9_washed 31 [] [] M P) (h1 : -2147483648 ≤ ((M 200 6) + x1) ∧ ((M 200 6) + x1) ≤ 2147483647 := by omega) : Runs X mX9_washed 20 [(0, vr 200), (1, vi x1), (2, vl x2)] [] M P := by
  refine Runs.aload_n (j := 0) dX9_washed_20 rfl ?_
  refine Runs.geti (ci := 9) (j := 6) (C := RX9) (T := TX9) (N := 48) dX9_washed_21 rfl cls_X9 (by decide) rfl fl_X9_111 (Or.inl rfl) ?_
  refine Runs.iload_n (j := 1) dX9_washed_24 rfl ?_
  refine Runs.iadd dX9_washed_25 h1 ?_
  refine Runs.bipush dX9_washed_26 (by decide) (by decide) ?_
  refine Runs.icmp_le (tgt := 34) dX9_washed_28 (by decide) (fun h => ?_) (fun h => ?_)
  · exact k1 h
  · refine Runs.picks (loc' := []) [] rfl ?_
    exact k2 h
theorem kX9_washed_31 {X : Scr} {M : Mem} {P : Option AV → Mem → Prop} (k : P (some (vi (-4 : Int))) M) : Runs X mX9_washed 31 [] [] M P := by
  refine Runs.bipush dX9_washed_31 (by decide) (by decide) ?_
  exact Runs.reti dX9_washed_33 rfl k
theorem kX9_washed_34 {X : Scr} {M : Mem} {P : Option AV → Mem → Prop} {x1 x2 : Int} (k : Runs X mX9_washed 40 [(0, vr 200), (1, vi x1), (4, vl x2), (6, vi (0 : Int))] [] M P) : Runs X mX9_washed 34 [(0, vr 200), (1, vi x1), (2, vl x2)] [] M P := by
  refine Runs.lload_n (j := 2) dX9_washed_34 rfl ?_
  refine Runs.lstore (loc' := [(0, vr 200), (1, vi x1), (2, vl x2), (4, vl x2)]) dX9_washed_35 (by decide) rfl ?_
  refine Runs.iconst dX9_washed_37 (by decide) ?_
  refine Runs.istore (loc' := [(0, vr 200), (1, vi x1), (2, vl x2), (4, vl x2), (6, vi (0 : Int))]) dX9_washed_38 (by decide) rfl ?_
  refine Runs.picks (loc' := [(0, vr 200), (1, vi x1), (4, vl x2), (6, vi (0 : Int))]) [0, 1, 3, 4] rfl ?_
  exact k
theorem kX9_washed_40 {X : Scr} {M : Mem} {P : Option AV → Mem → Prop} {x1 x4 x6 : Int} (k1 : x1 ≤ x6 → Runs X mX9_washed 69 [(0, vr 200)] [] M P) (k2 : x6 < x1 → Runs X mX9_washed 46 [(0, vr 200), (1, vi x1), (4, vl x4), (6, vi x6)] [] M P) : Runs X mX9_washed 40 [(0, vr 200), (1, vi x1), (4, vl x4), (6, vi x6)] [] M P := by
  refine Runs.iload (j := 3) dX9_washed_40 rfl ?_
  refine Runs.iload_n (j := 1) dX9_washed_42 rfl ?_
  refine Runs.icmp_ge (tgt := 69) dX9_washed_43 (by decide) (fun h => ?_) (fun h => ?_)
  · refine Runs.picks (loc' := [(0, vr 200)]) [0] rfl ?_
    exact k1 h
  · exact k2 h
theorem kX9_washed_46 {X : Scr} {M : Mem} {P Q : Option AV → Mem → Prop} {x1 x4 x6 : Int} (hC : Call X mX9_draw [vl x4] M Q) (k : ∀ (z : Int) (M1 : Mem), Q (some (vl z)) M1 → Runs X mX9_washed 51 [(0, vr 200), (1, vi x1), (6, vi x6)] [vl z] M1 P) : Runs X mX9_washed 46 [(0, vr 200), (1, vi x1), (4, vl x4), (6, vi x6)] [] M P := by
  refine Runs.lload (j := 2) dX9_washed_46 rfl ?_
  refine Runs.callSl (y := mX9_draw) (n := 1) (as := [vl x4]) (st := []) dX9_washed_48 oc_X9_draw sm_X9_draw ml_X9_248 rfl ⟨(Nat.le_of_ble_eq_true rfl), (Nat.le_of_ble_eq_true rfl)⟩ (Nat.le_of_ble_eq_true rfl) (Nat.le_of_ble_eq_true rfl) rfl hC (fun z M1 hQ => ?_)
  refine Runs.picks (loc' := [(0, vr 200), (1, vi x1), (6, vi x6)]) [0, 1, 3] rfl ?_
  exact k z M1 hQ
theorem kX9_washed_51 {X : Scr} {M : Mem} {P Q : Option AV → Mem → Prop} {x1 x6 xs0 : Int} (hC : Call X mX9_add [vr 200, vi (x6 % (4 : Int)), vl xs0] M Q) (k : ∀ (M1 : Mem), Q none M1 → Runs X mX9_washed 63 [(0, vr 200), (1, vi x1), (4, vl xs0), (6, vi x6)] [] M1 P) (h1 : 0 ≤ x6 := by omega) (h2 : 0 < (4 : Int) := by omega) : Runs X mX9_washed 51 [(0, vr 200), (1, vi x1), (6, vi x6)] [vl xs0] M P := by
  refine Runs.lstore (loc' := [(0, vr 200), (1, vi x1), (4, vl xs0), (6, vi x6)]) dX9_washed_51 (by decide) rfl ?_
  refine Runs.aload_n (j := 0) dX9_washed_53 rfl ?_
  refine Runs.iload (j := 3) dX9_washed_54 rfl ?_
  refine Runs.iconst dX9_washed_56 (by decide) ?_
  refine Runs.irem dX9_washed_57 h1 h2 ?_
  refine Runs.lload (j := 2) dX9_washed_58 rfl ?_
  refine Runs.callVv (y := mX9_add) (n := 2) (as := [vi (x6 % (4 : Int)), vl xs0]) (st := []) (q := (RX9, TX9, 48)) dX9_washed_60 oc_X9_add im_X9_add se_X9_add ml_X9_252 rfl ⟨(Nat.le_of_ble_eq_true rfl), (Nat.le_of_ble_eq_true rfl)⟩ (Nat.le_of_ble_eq_true rfl) (Nat.le_of_ble_eq_true rfl) rfl rfl rfl rfl hC (fun M1 hQ => ?_)
  exact k M1 hQ
theorem kX9_washed_63 {X : Scr} {M : Mem} {P : Option AV → Mem → Prop} {x1 x4 x6 : Int} (k : Runs X mX9_washed 40 [(0, vr 200), (1, vi x1), (4, vl x4), (6, vi (x6 + (1 : Int)))] [] M P) (h1 : -2147483648 ≤ (x6 + (1 : Int)) ∧ (x6 + (1 : Int)) ≤ 2147483647 := by omega) : Runs X mX9_washed 63 [(0, vr 200), (1, vi x1), (4, vl x4), (6, vi x6)] [] M P := by
  refine Runs.iinc (k := 3) (loc' := [(0, vr 200), (1, vi x1), (4, vl x4), (6, vi (x6 + (1 : Int)))]) dX9_washed_63 rfl h1 (by decide) rfl ?_
  refine Runs.goto (tgt := 40) dX9_washed_66 (by decide) ?_
  exact k
theorem kX9_washed_69 {X : Scr} {M : Mem} {P : Option AV → Mem → Prop} (k : P (some (vi (M 200 6))) M) : Runs X mX9_washed 69 [(0, vr 200)] [] M P := by
  refine Runs.aload_n (j := 0) dX9_washed_69 rfl ?_
  refine Runs.geti (ci := 9) (j := 6) (C := RX9) (T := TX9) (N := 48) dX9_washed_70 rfl cls_X9 (by decide) rfl fl_X9_111 (Or.inl rfl) ?_
  exact Runs.reti dX9_washed_73 rfl k
theorem kX9_life_0 {X : Scr} {M : Mem} {P Q : Option AV → Mem → Prop} {x1 x2 : Int} (hC : Call X mX9_noTooth [vr 200, vi x1] (up2 M 200 0 (0 : Int)) Q) (k : ∀ (z : Int) (M1 : Mem), Q (some (vi z)) M1 → Runs X mX9_life 10 [(0, vr 200), (1, vi x1), (2, vi x2)] [vi z] M1 P) : Runs X mX9_life 0 [(0, vr 200), (1, vi x1), (2, vi x2)] [] M P := by
  refine Runs.aload_n (j := 0) dX9_life_0 rfl ?_
  refine Runs.iconst dX9_life_1 (by decide) ?_
  refine Runs.puti (ci := 9) (j := 0) (C := RX9) (T := TX9) (N := 48) dX9_life_2 rfl cls_X9 (by decide) rfl fl_X9_108 rfl rfl ?_
  refine Runs.aload_n (j := 0) dX9_life_5 rfl ?_
  refine Runs.iload_n (j := 1) dX9_life_6 rfl ?_
  refine Runs.callVi (y := mX9_noTooth) (n := 1) (as := [vi x1]) (st := []) (q := (RX9, TX9, 48)) dX9_life_7 oc_X9_noTooth im_X9_noTooth se_X9_noTooth ml_X9_178 rfl ⟨(Nat.le_of_ble_eq_true rfl), (Nat.le_of_ble_eq_true rfl)⟩ (Nat.le_of_ble_eq_true rfl) (Nat.le_of_ble_eq_true rfl) rfl rfl rfl (Or.inr rfl) hC (fun z M1 hQ => ?_)
  exact k z M1 hQ
theorem kX9_life_10 {X : Scr} {M : Mem} {P : Option AV → Mem → Prop} {x1 x2 xs0 : Int} (k1 : xs0 = 0 → Runs X mX9_life 15 [(0, vr 200), (1, vi x1), (2, vi x2)] [] M P) (k2 : xs0 ≠ 0 → Runs X mX9_life 13 [] [] M P) : Runs X mX9_life 10 [(0, vr 200), (1, vi x1), (2, vi x2)] [vi xs0] M P := by
  refine Runs.if_eq (tgt := 15) dX9_life_10 (by decide) (fun h => ?_) (fun h => ?_)
  · exact k1 h
  · refine Runs.picks (loc' := []) [] rfl ?_
    exact k2 h
theorem kX9_life_13 {X : Scr} {M : Mem} {P : Option AV → Mem → Prop} (k : P (some (vi (-1 : Int))) M) : Runs X mX9_life 13 [] [] M P := by
  refine Runs.iconst dX9_life_13 (by decide) ?_
  exact Runs.reti dX9_life_14 rfl k
theorem kX9_life_15 {X : Scr} {M : Mem} {P Q : Option AV → Mem → Prop} {x1 x2 : Int} (hC : Call X mX9_in [vl x2, vl (1 : Int), vl (999 : Int)] M Q) (k : ∀ (z : Int) (M1 : Mem), Q (some (vi z)) M1 → Runs X mX9_life 24 [(0, vr 200), (1, vi x1), (2, vi x2)] [vi z] M1 P) : Runs X mX9_life 15 [(0, vr 200), (1, vi x1), (2, vi x2)] [] M P := by
  refine Runs.iload_n (j := 2) dX9_life_15 rfl ?_
  refine Runs.i2l dX9_life_16 ?_
  refine Runs.lconst (z := 1) dX9_life_17 rfl (by decide) ?_
  refine Runs.ldc2 (z := 999) dX9_life_18 w4_170 (by decide) (by decide) ?_
  refine Runs.callSi (y := mX9_in) (n := 3) (as := [vl x2, vl (1 : Int), vl (999 : Int)]) (st := []) dX9_life_21 oc_X9_in sm_X9_in ml_X9_114 rfl ⟨(Nat.le_of_ble_eq_true rfl), (Nat.le_of_ble_eq_true rfl)⟩ (Nat.le_of_ble_eq_true rfl) (Nat.le_of_ble_eq_true rfl) (Or.inr rfl) hC (fun z M1 hQ => ?_)
  exact k z M1 hQ
theorem kX9_life_24 {X : Scr} {M : Mem} {P : Option AV → Mem → Prop} {x1 x2 xs0 : Int} (k1 : xs0 ≠ 0 → Runs X mX9_life 30 [(0, vr 200), (1, vi x1), (2, vi x2)] [] M P) (k2 : xs0 = 0 → Runs X mX9_life 27 [] [] M P) : Runs X mX9_life 24 [(0, vr 200), (1, vi x1), (2, vi x2)] [vi xs0] M P := by
  refine Runs.if_ne (tgt := 30) dX9_life_24 (by decide) (fun h => ?_) (fun h => ?_)
  · exact k1 h
  · refine Runs.picks (loc' := []) [] rfl ?_
    exact k2 h
theorem kX9_life_27 {X : Scr} {M : Mem} {P : Option AV → Mem → Prop} (k : P (some (vi (-2 : Int))) M) : Runs X mX9_life 27 [] [] M P := by
  refine Runs.bipush dX9_life_27 (by decide) (by decide) ?_
  exact Runs.reti dX9_life_29 rfl k
theorem kX9_life_30 {X : Scr} {M : Mem} {P Q : Option AV → Mem → Prop} {x1 x2 : Int} (hC : Call X mX9_worth [vr 200, vi x1] M Q) (k : ∀ (z : Int) (M1 : Mem), Q (some (vi z)) M1 → Runs X mX9_life 35 [(0, vr 200), (1, vi x1), (2, vi x2)] [vi z] M1 P) : Runs X mX9_life 30 [(0, vr 200), (1, vi x1), (2, vi x2)] [] M P := by
  refine Runs.aload_n (j := 0) dX9_life_30 rfl ?_
  refine Runs.iload_n (j := 1) dX9_life_31 rfl ?_
  refine Runs.callVi (y := mX9_worth) (n := 1) (as := [vi x1]) (st := []) (q := (RX9, TX9, 48)) dX9_life_32 oc_X9_worth im_X9_worth se_X9_worth ml_X9_182 rfl ⟨(Nat.le_of_ble_eq_true rfl), (Nat.le_of_ble_eq_true rfl)⟩ (Nat.le_of_ble_eq_true rfl) (Nat.le_of_ble_eq_true rfl) rfl rfl rfl (Or.inl rfl) hC (fun z M1 hQ => ?_)
  exact k z M1 hQ
theorem kX9_life_35 {X : Scr} {M : Mem} {P : Option AV → Mem → Prop} {x1 x2 xs0 : Int} (k1 : x2 ≤ xs0 → Runs X mX9_life 42 [(0, vr 200), (1, vi x1), (2, vi x2)] [] M P) (k2 : xs0 < x2 → Runs X mX9_life 39 [] [] M P) : Runs X mX9_life 35 [(0, vr 200), (1, vi x1), (2, vi x2)] [vi xs0] M P := by
  refine Runs.iload_n (j := 2) dX9_life_35 rfl ?_
  refine Runs.icmp_ge (tgt := 42) dX9_life_36 (by decide) (fun h => ?_) (fun h => ?_)
  · exact k1 h
  · refine Runs.picks (loc' := []) [] rfl ?_
    exact k2 h
theorem kX9_life_39 {X : Scr} {M : Mem} {P : Option AV → Mem → Prop} (k : P (some (vi (-9 : Int))) M) : Runs X mX9_life 39 [] [] M P := by
  refine Runs.bipush dX9_life_39 (by decide) (by decide) ?_
  exact Runs.reti dX9_life_41 rfl k
theorem kX9_life_42 {X : Scr} {M : Mem} {P : Option AV → Mem → Prop} {x1 x2 : Int} (k : Runs X mX9_life 49 [(0, vr 200), (1, vi x1), (2, vi x2), (3, vi (M 309 (x1).toNat))] [] M P) (h1 : 0 ≤ x1 := by omega) (h2 : x1 < ((10 : Nat) : Int) := by omega) : Runs X mX9_life 42 [(0, vr 200), (1, vi x1), (2, vi x2)] [] M P := by
  refine Runs.aload_n (j := 0) dX9_life_42 rfl ?_
  refine Runs.getr (o' := 309) (ci := 9) (j := 9) (C := RX9) (T := TX9) (N := 48) dX9_life_43 rfl cls_X9 (by decide) rfl fl_X9_27 rfl ⟨rfl, "", Or.inr ⟨_, rfl⟩⟩ ?_
  refine Runs.iload_n (j := 1) dX9_life_46 rfl ?_
  refine Runs.iald dX9_life_47 rfl h1 h2 ?_
  refine Runs.istore_n (loc' := [(0, vr 200), (1, vi x1), (2, vi x2), (3, vi (M 309 (x1).toNat))]) dX9_life_48 rfl (by decide) rfl ?_
  exact k
theorem kX9_life_49 {X : Scr} {M : Mem} {P : Option AV → Mem → Prop} {x1 x2 x3 : Int} (k1 : (99 : Int) ≤ x3 → Runs X mX9_life 73 [(0, vr 200), (1, vi x1), (3, vi x3)] [] M P) (k2 : x3 < (99 : Int) → Runs X mX9_life 55 [(0, vr 200), (1, vi x1), (2, vi x2), (3, vi x3)] [] M P) : Runs X mX9_life 49 [(0, vr 200), (1, vi x1), (2, vi x2), (3, vi x3)] [] M P := by
  refine Runs.iload_n (j := 3) dX9_life_49 rfl ?_
  refine Runs.bipush dX9_life_50 (by decide) (by decide) ?_
  refine Runs.icmp_ge (tgt := 73) dX9_life_52 (by decide) (fun h => ?_) (fun h => ?_)
  · refine Runs.picks (loc' := [(0, vr 200), (1, vi x1), (3, vi x3)]) [0, 1, 3] rfl ?_
    exact k1 h
  · exact k2 h
theorem kX9_life_55 {X : Scr} {M : Mem} {P Q : Option AV → Mem → Prop} {x1 x2 x3 : Int} (hC : Call X mX9_worthBy [vr 200, vi x1, vi (x3 + (1 : Int))] M Q) (k : ∀ (z : Int) (M1 : Mem), Q (some (vi z)) M1 → Runs X mX9_life 63 [(0, vr 200), (1, vi x1), (2, vi x2), (3, vi x3)] [vi z] M1 P) (h1 : -2147483648 ≤ (x3 + (1 : Int)) ∧ (x3 + (1 : Int)) ≤ 2147483647 := by omega) : Runs X mX9_life 55 [(0, vr 200), (1, vi x1), (2, vi x2), (3, vi x3)] [] M P := by
  refine Runs.aload_n (j := 0) dX9_life_55 rfl ?_
  refine Runs.iload_n (j := 1) dX9_life_56 rfl ?_
  refine Runs.iload_n (j := 3) dX9_life_57 rfl ?_
  refine Runs.iconst dX9_life_58 (by decide) ?_
  refine Runs.iadd dX9_life_59 h1 ?_
  refine Runs.callVi (y := mX9_worthBy) (n := 2) (as := [vi x1, vi (x3 + (1 : Int))]) (st := []) (q := (RX9, TX9, 48)) dX9_life_60 oc_X9_worthBy im_X9_worthBy se_X9_worthBy ml_X9_175 rfl ⟨(Nat.le_of_ble_eq_true rfl), (Nat.le_of_ble_eq_true rfl)⟩ (Nat.le_of_ble_eq_true rfl) (Nat.le_of_ble_eq_true rfl) rfl rfl rfl (Or.inl rfl) hC (fun z M1 hQ => ?_)
  exact k z M1 hQ
theorem kX9_life_63 {X : Scr} {M : Mem} {P : Option AV → Mem → Prop} {x1 x2 x3 xs0 : Int} (k1 : xs0 < x2 → Runs X mX9_life 73 [(0, vr 200), (1, vi x1), (3, vi x3)] [] M P) (k2 : x2 ≤ xs0 → Runs X mX9_life 67 [(0, vr 200), (1, vi x1), (2, vi x2), (3, vi x3)] [] M P) : Runs X mX9_life 63 [(0, vr 200), (1, vi x1), (2, vi x2), (3, vi x3)] [vi xs0] M P := by
  refine Runs.iload_n (j := 2) dX9_life_63 rfl ?_
  refine Runs.icmp_lt (tgt := 73) dX9_life_64 (by decide) (fun h => ?_) (fun h => ?_)
  · refine Runs.picks (loc' := [(0, vr 200), (1, vi x1), (3, vi x3)]) [0, 1, 3] rfl ?_
    exact k1 h
  · exact k2 h
theorem kX9_life_67 {X : Scr} {M : Mem} {P : Option AV → Mem → Prop} {x1 x2 x3 : Int} (k : Runs X mX9_life 49 [(0, vr 200), (1, vi x1), (2, vi x2), (3, vi (x3 + (1 : Int)))] [] M P) (h1 : -2147483648 ≤ (x3 + (1 : Int)) ∧ (x3 + (1 : Int)) ≤ 2147483647 := by omega) : Runs X mX9_life 67 [(0, vr 200), (1, vi x1), (2, vi x2), (3, vi x3)] [] M P := by
  refine Runs.iinc (k := 3) (loc' := [(0, vr 200), (1, vi x1), (2, vi x2), (3, vi (x3 + (1 : Int)))]) dX9_life_67 rfl h1 (by decide) rfl ?_
  refine Runs.goto (tgt := 49) dX9_life_70 (by decide) ?_
  exact k
theorem kX9_life_73 {X : Scr} {M : Mem} {P : Option AV → Mem → Prop} {x1 x3 : Int} (k1 : x3 ≠ (99 : Int) → Runs X mX9_life 85 [(0, vr 200), (1, vi x1), (3, vi x3)] [] M P) (k2 : x3 = (99 : Int) → Runs X mX9_life 79 [] [] M P) : Runs X mX9_life 73 [(0, vr 200), (1, vi x1), (3, vi x3)] [] M P := by
  refine Runs.iload_n (j := 2) dX9_life_73 rfl ?_
  refine Runs.bipush dX9_life_74 (by decide) (by decide) ?_
  refine Runs.icmp_ne (tgt := 85) dX9_life_76 (by decide) (fun h => ?_) (fun h => ?_)
  · exact k1 h
  · refine Runs.picks (loc' := []) [] rfl ?_
    exact k2 h
theorem kX9_life_79 {X : Scr} {M : Mem} {P : Option AV → Mem → Prop} (k : Runs X mX9_life 93 [] [vi (999 : Int)] M P) : Runs X mX9_life 79 [] [] M P := by
  refine Runs.sipush dX9_life_79 (by decide) (by decide) ?_
  refine Runs.goto (tgt := 93) dX9_life_82 (by decide) ?_
  exact k
theorem kX9_life_85 {X : Scr} {M : Mem} {P : Option AV → Mem → Prop} {x1 x3 : Int} (k : Runs X mX9_life 93 [] [vi (x3 - (M 309 (x1).toNat))] M P) (h1 : 0 ≤ x1 := by omega) (h2 : x1 < ((10 : Nat) : Int) := by omega) (h3 : -2147483648 ≤ (x3 - (M 309 (x1).toNat)) ∧ (x3 - (M 309 (x1).toNat)) ≤ 2147483647 := by omega) : Runs X mX9_life 85 [(0, vr 200), (1, vi x1), (3, vi x3)] [] M P := by
  refine Runs.iload_n (j := 2) dX9_life_85 rfl ?_
  refine Runs.aload_n (j := 0) dX9_life_86 rfl ?_
  refine Runs.getr (o' := 309) (ci := 9) (j := 9) (C := RX9) (T := TX9) (N := 48) dX9_life_87 rfl cls_X9 (by decide) rfl fl_X9_27 rfl ⟨rfl, "", Or.inr ⟨_, rfl⟩⟩ ?_
  refine Runs.iload_n (j := 1) dX9_life_90 rfl ?_
  refine Runs.iald dX9_life_91 rfl h1 h2 ?_
  refine Runs.isub dX9_life_92 h3 ?_
  refine Runs.picks (loc' := []) [] rfl ?_
  exact k
theorem kX9_life_93 {X : Scr} {M : Mem} {P : Option AV → Mem → Prop} {xs0 : Int} (k : P (some (vi xs0)) M) : Runs X mX9_life 93 [] [vi xs0] M P := by
  exact Runs.reti dX9_life_93 rfl k
theorem kX9_trace_0 {X : Scr} {M : Mem} {P Q : Option AV → Mem → Prop} {x1 x2 : Int} (hC : Call X mX9_noTooth [vr 200, vi x1] (up2 M 200 0 (0 : Int)) Q) (k : ∀ (z : Int) (M1 : Mem), Q (some (vi z)) M1 → Runs X mX9_trace 10 [(0, vr 200), (1, vi x1), (2, vi x2)] [vi z] M1 P) : Runs X mX9_trace 0 [(0, vr 200), (1, vi x1), (2, vi x2)] [] M P := by
  refine Runs.aload_n (j := 0) dX9_trace_0 rfl ?_
  refine Runs.iconst dX9_trace_1 (by decide) ?_
  refine Runs.puti (ci := 9) (j := 0) (C := RX9) (T := TX9) (N := 48) dX9_trace_2 rfl cls_X9 (by decide) rfl fl_X9_108 rfl rfl ?_
  refine Runs.aload_n (j := 0) dX9_trace_5 rfl ?_
  refine Runs.iload_n (j := 1) dX9_trace_6 rfl ?_
  refine Runs.callVi (y := mX9_noTooth) (n := 1) (as := [vi x1]) (st := []) (q := (RX9, TX9, 48)) dX9_trace_7 oc_X9_noTooth im_X9_noTooth se_X9_noTooth ml_X9_178 rfl ⟨(Nat.le_of_ble_eq_true rfl), (Nat.le_of_ble_eq_true rfl)⟩ (Nat.le_of_ble_eq_true rfl) (Nat.le_of_ble_eq_true rfl) rfl rfl rfl (Or.inr rfl) hC (fun z M1 hQ => ?_)
  exact k z M1 hQ
theorem kX9_trace_10 {X : Scr} {M : Mem} {P : Option AV → Mem → Prop} {x1 x2 xs0 : Int} (k1 : xs0 = 0 → Runs X mX9_trace 15 [(0, vr 200), (1, vi x1), (2, vi x2)] [] M P) (k2 : xs0 ≠ 0 → Runs X mX9_trace 13 [] [] M P) : Runs X mX9_trace 10 [(0, vr 200), (1, vi x1), (2, vi x2)] [vi xs0] M P := by
  refine Runs.if_eq (tgt := 15) dX9_trace_10 (by decide) (fun h => ?_) (fun h => ?_)
  · exact k1 h
  · refine Runs.picks (loc' := []) [] rfl ?_
    exact k2 h
theorem kX9_trace_13 {X : Scr} {M : Mem} {P : Option AV → Mem → Prop} (k : P (some (vi (-1 : Int))) M) : Runs X mX9_trace 13 [] [] M P := by
  refine Runs.iconst dX9_trace_13 (by decide) ?_
  exact Runs.reti dX9_trace_14 rfl k
theorem kX9_trace_15 {X : Scr} {M : Mem} {P Q : Option AV → Mem → Prop} {x1 x2 : Int} (hC : Call X mX9_in [vl x2, vl (0 : Int), vl ((M 313 (x1).toNat) - (1 : Int))] M Q) (k : ∀ (z : Int) (M1 : Mem), Q (some (vi z)) M1 → Runs X mX9_trace 30 [(0, vr 200), (1, vi x1), (2, vi x2)] [vi z] M1 P) (h1 : 0 ≤ x1 := by omega) (h2 : x1 < ((10 : Nat) : Int) := by omega) (h3 : -2147483648 ≤ ((M 313 (x1).toNat) - (1 : Int)) ∧ ((M 313 (x1).toNat) - (1 : Int)) ≤ 2147483647 := by omega) : Runs X mX9_trace 15 [(0, vr 200), (1, vi x1), (2, vi x2)] [] M P := by
  refine Runs.iload_n (j := 2) dX9_trace_15 rfl ?_
  refine Runs.i2l dX9_trace_16 ?_
  refine Runs.lconst (z := 0) dX9_trace_17 rfl (by decide) ?_
  refine Runs.aload_n (j := 0) dX9_trace_18 rfl ?_
  refine Runs.getr (o' := 313) (ci := 9) (j := 13) (C := RX9) (T := TX9) (N := 48) dX9_trace_19 rfl cls_X9 (by decide) rfl fl_X9_39 rfl ⟨rfl, "", Or.inr ⟨_, rfl⟩⟩ ?_
  refine Runs.iload_n (j := 1) dX9_trace_22 rfl ?_
  refine Runs.iald dX9_trace_23 rfl h1 h2 ?_
  refine Runs.iconst dX9_trace_24 (by decide) ?_
  refine Runs.isub dX9_trace_25 h3 ?_
  refine Runs.i2l dX9_trace_26 ?_
  refine Runs.callSi (y := mX9_in) (n := 3) (as := [vl x2, vl (0 : Int), vl ((M 313 (x1).toNat) - (1 : Int))]) (st := []) dX9_trace_27 oc_X9_in sm_X9_in ml_X9_114 rfl ⟨(Nat.le_of_ble_eq_true rfl), (Nat.le_of_ble_eq_true rfl)⟩ (Nat.le_of_ble_eq_true rfl) (Nat.le_of_ble_eq_true rfl) (Or.inr rfl) hC (fun z M1 hQ => ?_)
  exact k z M1 hQ
theorem kX9_trace_30 {X : Scr} {M : Mem} {P : Option AV → Mem → Prop} {x1 x2 xs0 : Int} (k1 : xs0 = 0 → Runs X mX9_trace 47 [] [] M P) (k2 : xs0 ≠ 0 → Runs X mX9_trace 33 [(0, vr 200), (1, vi x1), (2, vi x2)] [] M P) : Runs X mX9_trace 30 [(0, vr 200), (1, vi x1), (2, vi x2)] [vi xs0] M P := by
  refine Runs.if_eq (tgt := 47) dX9_trace_30 (by decide) (fun h => ?_) (fun h => ?_)
  · refine Runs.picks (loc' := []) [] rfl ?_
    exact k1 h
  · exact k2 h
theorem kX9_trace_33 {X : Scr} {M : Mem} {P : Option AV → Mem → Prop} {x1 x2 : Int} (k : Runs X mX9_trace 49 [] [vi (M 314 ((((8 : Int) * x1) + x2)).toNat)] M P) (h1 : -2147483648 ≤ ((8 : Int) * x1) ∧ ((8 : Int) * x1) ≤ 2147483647 := by omega) (h2 : -2147483648 ≤ (((8 : Int) * x1) + x2) ∧ (((8 : Int) * x1) + x2) ≤ 2147483647 := by omega) (h3 : 0 ≤ (((8 : Int) * x1) + x2) := by omega) (h4 : (((8 : Int) * x1) + x2) < ((80 : Nat) : Int) := by omega) : Runs X mX9_trace 33 [(0, vr 200), (1, vi x1), (2, vi x2)] [] M P := by
  refine Runs.aload_n (j := 0) dX9_trace_33 rfl ?_
  refine Runs.getr (o' := 314) (ci := 9) (j := 14) (C := RX9) (T := TX9) (N := 48) dX9_trace_34 rfl cls_X9 (by decide) rfl fl_X9_42 rfl ⟨rfl, "", Or.inr ⟨_, rfl⟩⟩ ?_
  refine Runs.bipush dX9_trace_37 (by decide) (by decide) ?_
  refine Runs.iload_n (j := 1) dX9_trace_39 rfl ?_
  refine Runs.imul dX9_trace_40 h1 ?_
  refine Runs.iload_n (j := 2) dX9_trace_41 rfl ?_
  refine Runs.iadd dX9_trace_42 h2 ?_
  refine Runs.iald dX9_trace_43 rfl h3 h4 ?_
  refine Runs.goto (tgt := 49) dX9_trace_44 (by decide) ?_
  refine Runs.picks (loc' := []) [] rfl ?_
  exact k
theorem kX9_trace_47 {X : Scr} {M : Mem} {P : Option AV → Mem → Prop} (k : Runs X mX9_trace 49 [] [vi (-9 : Int)] M P) : Runs X mX9_trace 47 [] [] M P := by
  refine Runs.bipush dX9_trace_47 (by decide) (by decide) ?_
  exact k
theorem kX9_trace_49 {X : Scr} {M : Mem} {P : Option AV → Mem → Prop} {xs0 : Int} (k : P (some (vi xs0)) M) : Runs X mX9_trace 49 [] [vi xs0] M P := by
  exact Runs.reti dX9_trace_49 rfl k
theorem kX9_inflated_0 {X : Scr} {M : Mem} {P Q : Option AV → Mem → Prop} {x1 x2 : Int} (hC : Call X mX9_in [vl x1, vl (0 : Int), vl (((up2 M 200 0 (0 : Int)) 200 15) - (1 : Int))] (up2 M 200 0 (0 : Int)) Q) (k : ∀ (z : Int) (M1 : Mem), Q (some (vi z)) M1 → Runs X mX9_inflated 18 [(0, vr 200), (1, vi x1), (2, vi x2)] [vi z] M1 P) (h1 : -2147483648 ≤ (((up2 M 200 0 (0 : Int)) 200 15) - (1 : Int)) ∧ (((up2 M 200 0 (0 : Int)) 200 15) - (1 : Int)) ≤ 2147483647 := by omega) : Runs X mX9_inflated 0 [(0, vr 200), (1, vi x1), (2, vi x2)] [] M P := by
  refine Runs.aload_n (j := 0) dX9_inflated_0 rfl ?_
  refine Runs.iconst dX9_inflated_1 (by decide) ?_
  refine Runs.puti (ci := 9) (j := 0) (C := RX9) (T := TX9) (N := 48) dX9_inflated_2 rfl cls_X9 (by decide) rfl fl_X9_108 rfl rfl ?_
  refine Runs.iload_n (j := 1) dX9_inflated_5 rfl ?_
  refine Runs.i2l dX9_inflated_6 ?_
  refine Runs.lconst (z := 0) dX9_inflated_7 rfl (by decide) ?_
  refine Runs.aload_n (j := 0) dX9_inflated_8 rfl ?_
  refine Runs.geti (ci := 9) (j := 15) (C := RX9) (T := TX9) (N := 48) dX9_inflated_9 rfl cls_X9 (by decide) rfl fl_X9_162 (Or.inl rfl) ?_
  refine Runs.iconst dX9_inflated_12 (by decide) ?_
  refine Runs.isub dX9_inflated_13 h1 ?_
  refine Runs.i2l dX9_inflated_14 ?_
  refine Runs.callSi (y := mX9_in) (n := 3) (as := [vl x1, vl (0 : Int), vl (((up2 M 200 0 (0 : Int)) 200 15) - (1 : Int))]) (st := []) dX9_inflated_15 oc_X9_in sm_X9_in ml_X9_114 rfl ⟨(Nat.le_of_ble_eq_true rfl), (Nat.le_of_ble_eq_true rfl)⟩ (Nat.le_of_ble_eq_true rfl) (Nat.le_of_ble_eq_true rfl) (Or.inr rfl) hC (fun z M1 hQ => ?_)
  exact k z M1 hQ
theorem kX9_inflated_18 {X : Scr} {M : Mem} {P : Option AV → Mem → Prop} {x1 x2 xs0 : Int} (k1 : xs0 ≠ 0 → Runs X mX9_inflated 23 [(0, vr 200), (1, vi x1), (2, vi x2)] [] M P) (k2 : xs0 = 0 → Runs X mX9_inflated 21 [] [] M P) : Runs X mX9_inflated 18 [(0, vr 200), (1, vi x1), (2, vi x2)] [vi xs0] M P := by
  refine Runs.if_ne (tgt := 23) dX9_inflated_18 (by decide) (fun h => ?_) (fun h => ?_)
  · exact k1 h
  · refine Runs.picks (loc' := []) [] rfl ?_
    exact k2 h
theorem kX9_inflated_21 {X : Scr} {M : Mem} {P : Option AV → Mem → Prop} (k : P (some (vi (-1 : Int))) M) : Runs X mX9_inflated 21 [] [] M P := by
  refine Runs.iconst dX9_inflated_21 (by decide) ?_
  exact Runs.reti dX9_inflated_22 rfl k
theorem kX9_inflated_23 {X : Scr} {M : Mem} {P Q : Option AV → Mem → Prop} {x1 x2 : Int} (hC : Call X mX9_in [vl x2, vl (0 : Int), vl (9999 : Int)] M Q) (k : ∀ (z : Int) (M1 : Mem), Q (some (vi z)) M1 → Runs X mX9_inflated 32 [(0, vr 200), (1, vi x1), (2, vi x2)] [vi z] M1 P) : Runs X mX9_inflated 23 [(0, vr 200), (1, vi x1), (2, vi x2)] [] M P := by
  refine Runs.iload_n (j := 2) dX9_inflated_23 rfl ?_
  refine Runs.i2l dX9_inflated_24 ?_
  refine Runs.lconst (z := 0) dX9_inflated_25 rfl (by decide) ?_
  refine Runs.ldc2 (z := 9999) dX9_inflated_26 w5_13 (by decide) (by decide) ?_
  refine Runs.callSi (y := mX9_in) (n := 3) (as := [vl x2, vl (0 : Int), vl (9999 : Int)]) (st := []) dX9_inflated_29 oc_X9_in sm_X9_in ml_X9_114 rfl ⟨(Nat.le_of_ble_eq_true rfl), (Nat.le_of_ble_eq_true rfl)⟩ (Nat.le_of_ble_eq_true rfl) (Nat.le_of_ble_eq_true rfl) (Or.inr rfl) hC (fun z M1 hQ => ?_)
  exact k z M1 hQ
theorem kX9_inflated_32 {X : Scr} {M : Mem} {P : Option AV → Mem → Prop} {x1 x2 xs0 : Int} (k1 : xs0 ≠ 0 → Runs X mX9_inflated 38 [(0, vr 200), (1, vi x1), (2, vi x2)] [] M P) (k2 : xs0 = 0 → Runs X mX9_inflated 35 [] [] M P) : Runs X mX9_inflated 32 [(0, vr 200), (1, vi x1), (2, vi x2)] [vi xs0] M P := by
  refine Runs.if_ne (tgt := 38) dX9_inflated_32 (by decide) (fun h => ?_) (fun h => ?_)
  · exact k1 h
  · refine Runs.picks (loc' := []) [] rfl ?_
    exact k2 h
theorem kX9_inflated_35 {X : Scr} {M : Mem} {P : Option AV → Mem → Prop} (k : P (some (vi (-2 : Int))) M) : Runs X mX9_inflated 35 [] [] M P := by
  refine Runs.bipush dX9_inflated_35 (by decide) (by decide) ?_
  exact Runs.reti dX9_inflated_37 rfl k
theorem kX9_inflated_38 {X : Scr} {M : Mem} {P Q : Option AV → Mem → Prop} {x1 x2 : Int} (hC : Call X mX9_worthOf [vr 200, vi ((zshl (1 : Int) (M 200 6)) - (1 : Int))] M Q) (k : ∀ (z : Int) (M1 : Mem), Q (some (vi z)) M1 → Runs X mX9_inflated 50 [(0, vr 200), (1, vi x1), (2, vi x2)] [vi z] M1 P) (h1 : -2147483648 ≤ ((zshl (1 : Int) (M 200 6)) - (1 : Int)) ∧ ((zshl (1 : Int) (M 200 6)) - (1 : Int)) ≤ 2147483647 := by omega) : Runs X mX9_inflated 38 [(0, vr 200), (1, vi x1), (2, vi x2)] [] M P := by
  refine Runs.aload_n (j := 0) dX9_inflated_38 rfl ?_
  refine Runs.iconst dX9_inflated_39 (by decide) ?_
  refine Runs.aload_n (j := 0) dX9_inflated_40 rfl ?_
  refine Runs.geti (ci := 9) (j := 6) (C := RX9) (T := TX9) (N := 48) dX9_inflated_41 rfl cls_X9 (by decide) rfl fl_X9_111 (Or.inl rfl) ?_
  refine Runs.ishl dX9_inflated_44 ?_
  refine Runs.iconst dX9_inflated_45 (by decide) ?_
  refine Runs.isub dX9_inflated_46 h1 ?_
  refine Runs.callVi (y := mX9_worthOf) (n := 1) (as := [vi ((zshl (1 : Int) (M 200 6)) - (1 : Int))]) (st := []) (q := (RX9, TX9, 48)) dX9_inflated_47 oc_X9_worthOf im_X9_worthOf se_X9_worthOf ml_X9_196 rfl ⟨(Nat.le_of_ble_eq_true rfl), (Nat.le_of_ble_eq_true rfl)⟩ (Nat.le_of_ble_eq_true rfl) (Nat.le_of_ble_eq_true rfl) rfl rfl rfl (Or.inl rfl) hC (fun z M1 hQ => ?_)
  exact k z M1 hQ
theorem kX9_inflated_50 {X : Scr} {M : Mem} {P : Option AV → Mem → Prop} {x1 x2 xs0 : Int} (k1 : xs0 ≠ 0 → Runs X mX9_inflated 60 [(0, vr 200), (1, vi x1), (2, vi x2), (3, vi xs0)] [] M P) (k2 : xs0 = 0 → Runs X mX9_inflated 55 [] [] M P) : Runs X mX9_inflated 50 [(0, vr 200), (1, vi x1), (2, vi x2)] [vi xs0] M P := by
  refine Runs.istore_n (loc' := [(0, vr 200), (1, vi x1), (2, vi x2), (3, vi xs0)]) dX9_inflated_50 rfl (by decide) rfl ?_
  refine Runs.iload_n (j := 3) dX9_inflated_51 rfl ?_
  refine Runs.if_ne (tgt := 60) dX9_inflated_52 (by decide) (fun h => ?_) (fun h => ?_)
  · exact k1 h
  · refine Runs.picks (loc' := []) [] rfl ?_
    exact k2 h
theorem kX9_inflated_55 {X : Scr} {M : Mem} {P : Option AV → Mem → Prop} (k : Runs X mX9_inflated 72 [] [vi (-3 : Int)] M P) : Runs X mX9_inflated 55 [] [] M P := by
  refine Runs.bipush dX9_inflated_55 (by decide) (by decide) ?_
  refine Runs.goto (tgt := 72) dX9_inflated_57 (by decide) ?_
  exact k
theorem kX9_inflated_60 {X : Scr} {M : Mem} {P : Option AV → Mem → Prop} {x1 x2 x3 : Int} (k : Runs X mX9_inflated 72 [] [vi (((M 316 (x1).toNat) * (x3 + x2)) / x3)] M P) (h1 : 0 ≤ x1 := by omega) (h2 : x1 < ((4 : Nat) : Int) := by omega) (h3 : -2147483648 ≤ (x3 + x2) ∧ (x3 + x2) ≤ 2147483647 := by omega) (h4 : -2147483648 ≤ ((M 316 (x1).toNat) * (x3 + x2)) ∧ ((M 316 (x1).toNat) * (x3 + x2)) ≤ 2147483647 := by omega) (h5 : 0 ≤ ((M 316 (x1).toNat) * (x3 + x2)) := by omega) (h6 : 0 < x3 := by omega) : Runs X mX9_inflated 60 [(0, vr 200), (1, vi x1), (2, vi x2), (3, vi x3)] [] M P := by
  refine Runs.aload_n (j := 0) dX9_inflated_60 rfl ?_
  refine Runs.getr (o' := 316) (ci := 9) (j := 16) (C := RX9) (T := TX9) (N := 48) dX9_inflated_61 rfl cls_X9 (by decide) rfl fl_X9_45 rfl ⟨rfl, "", Or.inr ⟨_, rfl⟩⟩ ?_
  refine Runs.iload_n (j := 1) dX9_inflated_64 rfl ?_
  refine Runs.iald dX9_inflated_65 rfl h1 h2 ?_
  refine Runs.iload_n (j := 3) dX9_inflated_66 rfl ?_
  refine Runs.iload_n (j := 2) dX9_inflated_67 rfl ?_
  refine Runs.iadd dX9_inflated_68 h3 ?_
  refine Runs.imul dX9_inflated_69 h4 ?_
  refine Runs.iload_n (j := 3) dX9_inflated_70 rfl ?_
  refine Runs.idiv dX9_inflated_71 h5 h6 ?_
  refine Runs.picks (loc' := []) [] rfl ?_
  exact k
theorem kX9_inflated_72 {X : Scr} {M : Mem} {P : Option AV → Mem → Prop} {xs0 : Int} (k : P (some (vi xs0)) M) : Runs X mX9_inflated 72 [] [vi xs0] M P := by
  exact Runs.reti dX9_inflated_72 rfl k
theorem kX9_told_0 {X : Scr} {M : Mem} {P : Option AV → Mem → Prop} {x0 x2 x4 : Int} (k : Runs X mX9_told 6 [(0, vl x0), (2, vl x2), (4, vi x4), (5, vl x0), (7, vl x2)] [] M P) : Runs X mX9_told 0 [(0, vl x0), (2, vl x2), (4, vi x4)] [] M P := by
  refine Runs.lload_n (j := 0) dX9_told_0 rfl ?_
  refine Runs.lstore (loc' := [(0, vl x0), (2, vl x2), (4, vi x4), (5, vl x0)]) dX9_told_1 (by decide) rfl ?_
  refine Runs.lload_n (j := 1) dX9_told_3 rfl ?_
  refine Runs.lstore (loc' := [(0, vl x0), (2, vl x2), (4, vi x4), (5, vl x0), (7, vl x2)]) dX9_told_4 (by decide) rfl ?_
  exact k
theorem kX9_told_6 {X : Scr} {M : Mem} {P : Option AV → Mem → Prop} {x0 x2 x4 x5 x7 : Int} (k1 : x7 = (0 : Int) → Runs X mX9_told 31 [(0, vl x0), (2, vl x2), (4, vi x4), (5, vl x5)] [] M P) (k2 : x7 ≠ (0 : Int) → Runs X mX9_told 13 [(0, vl x0), (2, vl x2), (4, vi x4), (5, vl x5), (7, vl x7)] [] M P) : Runs X mX9_told 6 [(0, vl x0), (2, vl x2), (4, vi x4), (5, vl x5), (7, vl x7)] [] M P := by
  refine Runs.lload (j := 4) dX9_told_6 rfl ?_
  refine Runs.lconst (z := 0) dX9_told_8 rfl (by decide) ?_
  refine Runs.lcmp_eq (tgt := 31) dX9_told_9 dX9_told_10 (by decide) (fun h => ?_) (fun h => ?_)
  · refine Runs.picks (loc' := [(0, vl x0), (2, vl x2), (4, vi x4), (5, vl x5)]) [0, 1, 2, 3] rfl ?_
    exact k1 h
  · exact k2 h
theorem kX9_told_13 {X : Scr} {M : Mem} {P : Option AV → Mem → Prop} {x0 x2 x4 x5 x7 : Int} (k : Runs X mX9_told 6 [(0, vl x0), (2, vl x2), (4, vi x4), (5, vl x7), (7, vl (x5 % x7))] [] M P) (h1 : 0 ≤ x5 := by omega) (h2 : 0 < x7 := by omega) : Runs X mX9_told 13 [(0, vl x0), (2, vl x2), (4, vi x4), (5, vl x5), (7, vl x7)] [] M P := by
  refine Runs.lload (j := 3) dX9_told_13 rfl ?_
  refine Runs.lload (j := 4) dX9_told_15 rfl ?_
  refine Runs.lrem dX9_told_17 h1 h2 ?_
  refine Runs.lstore (loc' := [(0, vl x0), (2, vl x2), (4, vi x4), (5, vl x5), (7, vl x7), (9, vl (x5 % x7))]) dX9_told_18 (by decide) rfl ?_
  refine Runs.lload (j := 4) dX9_told_20 rfl ?_
  refine Runs.lstore (loc' := [(0, vl x0), (2, vl x2), (4, vi x4), (5, vl x7), (7, vl x7), (9, vl (x5 % x7))]) dX9_told_22 (by decide) rfl ?_
  refine Runs.lload (j := 5) dX9_told_24 rfl ?_
  refine Runs.lstore (loc' := [(0, vl x0), (2, vl x2), (4, vi x4), (5, vl x7), (7, vl (x5 % x7)), (9, vl (x5 % x7))]) dX9_told_26 (by decide) rfl ?_
  refine Runs.goto (tgt := 6) dX9_told_28 (by decide) ?_
  refine Runs.picks (loc' := [(0, vl x0), (2, vl x2), (4, vi x4), (5, vl x7), (7, vl (x5 % x7))]) [0, 1, 2, 3, 4] rfl ?_
  exact k
theorem kX9_told_31 {X : Scr} {M : Mem} {P : Option AV → Mem → Prop} {x0 x2 x4 x5 : Int} (k1 : x4 = 0 → Runs X mX9_told 43 [(2, vl x2), (5, vl x5)] [] M P) (k2 : x4 ≠ 0 → Runs X mX9_told 36 [(0, vl x0), (5, vl x5)] [] M P) : Runs X mX9_told 31 [(0, vl x0), (2, vl x2), (4, vi x4), (5, vl x5)] [] M P := by
  refine Runs.iload (j := 2) dX9_told_31 rfl ?_
  refine Runs.if_eq (tgt := 43) dX9_told_33 (by decide) (fun h => ?_) (fun h => ?_)
  · refine Runs.picks (loc' := [(2, vl x2), (5, vl x5)]) [1, 3] rfl ?_
    exact k1 h
  · refine Runs.picks (loc' := [(0, vl x0), (5, vl x5)]) [0, 3] rfl ?_
    exact k2 h
theorem kX9_told_36 {X : Scr} {M : Mem} {P : Option AV → Mem → Prop} {x0 x5 : Int} (k : Runs X mX9_told 47 [] [vl (x0 / x5)] M P) (h1 : 0 ≤ x0 := by omega) (h2 : 0 < x5 := by omega) : Runs X mX9_told 36 [(0, vl x0), (5, vl x5)] [] M P := by
  refine Runs.lload_n (j := 0) dX9_told_36 rfl ?_
  refine Runs.lload (j := 1) dX9_told_37 rfl ?_
  refine Runs.ldiv dX9_told_39 h1 h2 ?_
  refine Runs.goto (tgt := 47) dX9_told_40 (by decide) ?_
  refine Runs.picks (loc' := []) [] rfl ?_
  exact k
theorem kX9_told_43 {X : Scr} {M : Mem} {P : Option AV → Mem → Prop} {x2 x5 : Int} (k : Runs X mX9_told 47 [] [vl (x2 / x5)] M P) (h1 : 0 ≤ x2 := by omega) (h2 : 0 < x5 := by omega) : Runs X mX9_told 43 [(2, vl x2), (5, vl x5)] [] M P := by
  refine Runs.lload_n (j := 0) dX9_told_43 rfl ?_
  refine Runs.lload (j := 1) dX9_told_44 rfl ?_
  refine Runs.ldiv dX9_told_46 h1 h2 ?_
  refine Runs.picks (loc' := []) [] rfl ?_
  exact k
theorem kX9_told_47 {X : Scr} {M : Mem} {P : Option AV → Mem → Prop} {xs0 : Int} (k : P (some (vl xs0)) M) : Runs X mX9_told 47 [] [vl xs0] M P := by
  exact Runs.retl dX9_told_47 rfl k
theorem kX9_power_0 {X : Scr} {M : Mem} {P : Option AV → Mem → Prop} {x0 x2 : Int} (k : Runs X mX9_power 5 [(0, vl x0), (2, vi x2), (3, vl (1 : Int)), (5, vi (0 : Int))] [] M P) : Runs X mX9_power 0 [(0, vl x0), (2, vi x2)] [] M P := by
  refine Runs.lconst (z := 1) dX9_power_0 rfl (by decide) ?_
  refine Runs.lstore_n (loc' := [(0, vl x0), (2, vi x2), (3, vl (1 : Int))]) dX9_power_1 rfl (by decide) rfl ?_
  refine Runs.iconst dX9_power_2 (by decide) ?_
  refine Runs.istore (loc' := [(0, vl x0), (2, vi x2), (3, vl (1 : Int)), (5, vi (0 : Int))]) dX9_power_3 (by decide) rfl ?_
  exact k
theorem kX9_power_5 {X : Scr} {M : Mem} {P : Option AV → Mem → Prop} {x0 x2 x3 x5 : Int} (k1 : x2 ≤ x5 → Runs X mX9_power 21 [(3, vl x3)] [] M P) (k2 : x5 < x2 → Runs X mX9_power 11 [(0, vl x0), (2, vi x2), (3, vl x3), (5, vi x5)] [] M P) : Runs X mX9_power 5 [(0, vl x0), (2, vi x2), (3, vl x3), (5, vi x5)] [] M P := by
  refine Runs.iload (j := 3) dX9_power_5 rfl ?_
  refine Runs.iload_n (j := 1) dX9_power_7 rfl ?_
  refine Runs.icmp_ge (tgt := 21) dX9_power_8 (by decide) (fun h => ?_) (fun h => ?_)
  · refine Runs.picks (loc' := [(3, vl x3)]) [2] rfl ?_
    exact k1 h
  · exact k2 h
theorem kX9_power_11 {X : Scr} {M : Mem} {P : Option AV → Mem → Prop} {x0 x2 x3 x5 : Int} (k : Runs X mX9_power 5 [(0, vl x0), (2, vi x2), (3, vl (x3 * x0)), (5, vi (x5 + (1 : Int)))] [] M P) (h1 : -9223372036854775808 ≤ (x3 * x0) ∧ (x3 * x0) ≤ 9223372036854775807 := by omega) (h2 : -2147483648 ≤ (x5 + (1 : Int)) ∧ (x5 + (1 : Int)) ≤ 2147483647 := by omega) : Runs X mX9_power 11 [(0, vl x0), (2, vi x2), (3, vl x3), (5, vi x5)] [] M P := by
  refine Runs.lload_n (j := 2) dX9_power_11 rfl ?_
  refine Runs.lload_n (j := 0) dX9_power_12 rfl ?_
  refine Runs.lmul dX9_power_13 h1 ?_
  refine Runs.lstore_n (loc' := [(0, vl x0), (2, vi x2), (3, vl (x3 * x0)), (5, vi x5)]) dX9_power_14 rfl (by decide) rfl ?_
  refine Runs.iinc (k := 3) (loc' := [(0, vl x0), (2, vi x2), (3, vl (x3 * x0)), (5, vi (x5 + (1 : Int)))]) dX9_power_15 rfl h2 (by decide) rfl ?_
  refine Runs.goto (tgt := 5) dX9_power_18 (by decide) ?_
  exact k
theorem kX9_power_21 {X : Scr} {M : Mem} {P : Option AV → Mem → Prop} {x3 : Int} (k : P (some (vl x3)) M) : Runs X mX9_power 21 [(3, vl x3)] [] M P := by
  refine Runs.lload_n (j := 0) dX9_power_21 rfl ?_
  exact Runs.retl dX9_power_22 rfl k
theorem kX9_noTenths_0 {X : Scr} {M : Mem} {P Q : Option AV → Mem → Prop} {x0 : Int} (hC : Call X mX9_in [vl x0, vl (0 : Int), vl (10 : Int)] M Q) (k : ∀ (z : Int) (M1 : Mem), Q (some (vi z)) M1 → Runs X mX9_noTenths 9 [] [vi z] M1 P) : Runs X mX9_noTenths 0 [(0, vi x0)] [] M P := by
  refine Runs.iload_n (j := 0) dX9_noTenths_0 rfl ?_
  refine Runs.i2l dX9_noTenths_1 ?_
  refine Runs.lconst (z := 0) dX9_noTenths_2 rfl (by decide) ?_
  refine Runs.ldc2 (z := 10) dX9_noTenths_3 w5_0 (by decide) (by decide) ?_
  refine Runs.callSi (y := mX9_in) (n := 3) (as := [vl x0, vl (0 : Int), vl (10 : Int)]) (st := []) dX9_noTenths_6 oc_X9_in sm_X9_in ml_X9_114 rfl ⟨(Nat.le_of_ble_eq_true rfl), (Nat.le_of_ble_eq_true rfl)⟩ (Nat.le_of_ble_eq_true rfl) (Nat.le_of_ble_eq_true rfl) (Or.inr rfl) hC (fun z M1 hQ => ?_)
  refine Runs.picks (loc' := []) [] rfl ?_
  exact k z M1 hQ
theorem kX9_noTenths_9 {X : Scr} {M : Mem} {P : Option AV → Mem → Prop} {xs0 : Int} (k1 : xs0 ≠ 0 → Runs X mX9_noTenths 16 [] [] M P) (k2 : xs0 = 0 → Runs X mX9_noTenths 12 [] [] M P) : Runs X mX9_noTenths 9 [] [vi xs0] M P := by
  refine Runs.if_ne (tgt := 16) dX9_noTenths_9 (by decide) (fun h => ?_) (fun h => ?_)
  · exact k1 h
  · exact k2 h
theorem kX9_noTenths_12 {X : Scr} {M : Mem} {P : Option AV → Mem → Prop} (k : Runs X mX9_noTenths 17 [] [vi (1 : Int)] M P) : Runs X mX9_noTenths 12 [] [] M P := by
  refine Runs.iconst dX9_noTenths_12 (by decide) ?_
  refine Runs.goto (tgt := 17) dX9_noTenths_13 (by decide) ?_
  exact k
theorem kX9_noTenths_16 {X : Scr} {M : Mem} {P : Option AV → Mem → Prop} (k : Runs X mX9_noTenths 17 [] [vi (0 : Int)] M P) : Runs X mX9_noTenths 16 [] [] M P := by
  refine Runs.iconst dX9_noTenths_16 (by decide) ?_
  exact k
theorem kX9_noTenths_17 {X : Scr} {M : Mem} {P : Option AV → Mem → Prop} {xs0 : Int} (k : P (some (vi xs0)) M) (h1 : 0 ≤ xs0 ∧ xs0 ≤ 1 := by omega) : Runs X mX9_noTenths 17 [] [vi xs0] M P := by
  exact Runs.retz dX9_noTenths_17 rfl h1 k
theorem kX9_doubt_0 {X : Scr} {M : Mem} {P Q : Option AV → Mem → Prop} {x1 x2 x3 x4 x5 x6 : Int} (hC : Call X mX9_noTenths [vi x1] (up2 M 200 0 (0 : Int)) Q) (k : ∀ (z : Int) (M1 : Mem), Q (some (vi z)) M1 → Runs X mX9_doubt 9 [(1, vi x1), (2, vi x2), (3, vi x3), (4, vi x4), (5, vi x5), (6, vi x6)] [vi z] M1 P) : Runs X mX9_doubt 0 [(0, vr 200), (1, vi x1), (2, vi x2), (3, vi x3), (4, vi x4), (5, vi x5), (6, vi x6)] [] M P := by
  refine Runs.aload_n (j := 0) dX9_doubt_0 rfl ?_
  refine Runs.iconst dX9_doubt_1 (by decide) ?_
  refine Runs.puti (ci := 9) (j := 0) (C := RX9) (T := TX9) (N := 48) dX9_doubt_2 rfl cls_X9 (by decide) rfl fl_X9_108 rfl rfl ?_
  refine Runs.iload_n (j := 1) dX9_doubt_5 rfl ?_
  refine Runs.callSi (y := mX9_noTenths) (n := 1) (as := [vi x1]) (st := []) dX9_doubt_6 oc_X9_noTenths sm_X9_noTenths ml_X9_260 rfl ⟨(Nat.le_of_ble_eq_true rfl), (Nat.le_of_ble_eq_true rfl)⟩ (Nat.le_of_ble_eq_true rfl) (Nat.le_of_ble_eq_true rfl) (Or.inr rfl) hC (fun z M1 hQ => ?_)
  refine Runs.picks (loc' := [(1, vi x1), (2, vi x2), (3, vi x3), (4, vi x4), (5, vi x5), (6, vi x6)]) [1, 2, 3, 4, 5, 6] rfl ?_
  exact k z M1 hQ
theorem kX9_doubt_9 {X : Scr} {M : Mem} {P : Option AV → Mem → Prop} {x1 x2 x3 x4 x5 x6 xs0 : Int} (k1 : xs0 ≠ 0 → Runs X mX9_doubt 52 [] [] M P) (k2 : xs0 = 0 → Runs X mX9_doubt 12 [(1, vi x1), (2, vi x2), (3, vi x3), (4, vi x4), (5, vi x5), (6, vi x6)] [] M P) : Runs X mX9_doubt 9 [(1, vi x1), (2, vi x2), (3, vi x3), (4, vi x4), (5, vi x5), (6, vi x6)] [vi xs0] M P := by
  refine Runs.if_ne (tgt := 52) dX9_doubt_9 (by decide) (fun h => ?_) (fun h => ?_)
  · refine Runs.picks (loc' := []) [] rfl ?_
    exact k1 h
  · exact k2 h
theorem kX9_doubt_12 {X : Scr} {M : Mem} {P Q : Option AV → Mem → Prop} {x1 x2 x3 x4 x5 x6 : Int} (hC : Call X mX9_noTenths [vi x2] M Q) (k : ∀ (z : Int) (M1 : Mem), Q (some (vi z)) M1 → Runs X mX9_doubt 16 [(1, vi x1), (2, vi x2), (3, vi x3), (4, vi x4), (5, vi x5), (6, vi x6)] [vi z] M1 P) : Runs X mX9_doubt 12 [(1, vi x1), (2, vi x2), (3, vi x3), (4, vi x4), (5, vi x5), (6, vi x6)] [] M P := by
  refine Runs.iload_n (j := 1) dX9_doubt_12 rfl ?_
  refine Runs.callSi (y := mX9_noTenths) (n := 1) (as := [vi x2]) (st := []) dX9_doubt_13 oc_X9_noTenths sm_X9_noTenths ml_X9_260 rfl ⟨(Nat.le_of_ble_eq_true rfl), (Nat.le_of_ble_eq_true rfl)⟩ (Nat.le_of_ble_eq_true rfl) (Nat.le_of_ble_eq_true rfl) (Or.inr rfl) hC (fun z M1 hQ => ?_)
  exact k z M1 hQ
theorem kX9_doubt_16 {X : Scr} {M : Mem} {P : Option AV → Mem → Prop} {x1 x2 x3 x4 x5 x6 xs0 : Int} (k1 : xs0 ≠ 0 → Runs X mX9_doubt 52 [] [] M P) (k2 : xs0 = 0 → Runs X mX9_doubt 19 [(1, vi x1), (2, vi x2), (3, vi x3), (4, vi x4), (5, vi x5), (6, vi x6)] [] M P) : Runs X mX9_doubt 16 [(1, vi x1), (2, vi x2), (3, vi x3), (4, vi x4), (5, vi x5), (6, vi x6)] [vi xs0] M P := by
  refine Runs.if_ne (tgt := 52) dX9_doubt_16 (by decide) (fun h => ?_) (fun h => ?_)
  · refine Runs.picks (loc' := []) [] rfl ?_
    exact k1 h
  · exact k2 h
theorem kX9_doubt_19 {X : Scr} {M : Mem} {P Q : Option AV → Mem → Prop} {x1 x2 x3 x4 x5 x6 : Int} (hC : Call X mX9_noTenths [vi x3] M Q) (k : ∀ (z : Int) (M1 : Mem), Q (some (vi z)) M1 → Runs X mX9_doubt 23 [(1, vi x1), (2, vi x2), (3, vi x3), (4, vi x4), (5, vi x5), (6, vi x6)] [vi z] M1 P) : Runs X mX9_doubt 19 [(1, vi x1), (2, vi x2), (3, vi x3), (4, vi x4), (5, vi x5), (6, vi x6)] [] M P := by
  refine Runs.iload_n (j := 2) dX9_doubt_19 rfl ?_
  refine Runs.callSi (y := mX9_noTenths) (n := 1) (as := [vi x3]) (st := []) dX9_doubt_20 oc_X9_noTenths sm_X9_noTenths ml_X9_260 rfl ⟨(Nat.le_of_ble_eq_true rfl), (Nat.le_of_ble_eq_true rfl)⟩ (Nat.le_of_ble_eq_true rfl) (Nat.le_of_ble_eq_true rfl) (Or.inr rfl) hC (fun z M1 hQ => ?_)
  exact k z M1 hQ
theorem kX9_doubt_23 {X : Scr} {M : Mem} {P : Option AV → Mem → Prop} {x1 x2 x3 x4 x5 x6 xs0 : Int} (k1 : xs0 ≠ 0 → Runs X mX9_doubt 52 [] [] M P) (k2 : xs0 = 0 → Runs X mX9_doubt 26 [(1, vi x1), (2, vi x2), (3, vi x3), (4, vi x4), (5, vi x5), (6, vi x6)] [] M P) : Runs X mX9_doubt 23 [(1, vi x1), (2, vi x2), (3, vi x3), (4, vi x4), (5, vi x5), (6, vi x6)] [vi xs0] M P := by
  refine Runs.if_ne (tgt := 52) dX9_doubt_23 (by decide) (fun h => ?_) (fun h => ?_)
  · refine Runs.picks (loc' := []) [] rfl ?_
    exact k1 h
  · exact k2 h
theorem kX9_doubt_26 {X : Scr} {M : Mem} {P Q : Option AV → Mem → Prop} {x1 x2 x3 x4 x5 x6 : Int} (hC : Call X mX9_in [vl x4, vl (1 : Int), vl (6 : Int)] M Q) (k : ∀ (z : Int) (M1 : Mem), Q (some (vi z)) M1 → Runs X mX9_doubt 36 [(1, vi x1), (2, vi x2), (3, vi x3), (4, vi x4), (5, vi x5), (6, vi x6)] [vi z] M1 P) : Runs X mX9_doubt 26 [(1, vi x1), (2, vi x2), (3, vi x3), (4, vi x4), (5, vi x5), (6, vi x6)] [] M P := by
  refine Runs.iload (j := 3) dX9_doubt_26 rfl ?_
  refine Runs.i2l dX9_doubt_28 ?_
  refine Runs.lconst (z := 1) dX9_doubt_29 rfl (by decide) ?_
  refine Runs.ldc2 (z := 6) dX9_doubt_30 w5_21 (by decide) (by decide) ?_
  refine Runs.callSi (y := mX9_in) (n := 3) (as := [vl x4, vl (1 : Int), vl (6 : Int)]) (st := []) dX9_doubt_33 oc_X9_in sm_X9_in ml_X9_114 rfl ⟨(Nat.le_of_ble_eq_true rfl), (Nat.le_of_ble_eq_true rfl)⟩ (Nat.le_of_ble_eq_true rfl) (Nat.le_of_ble_eq_true rfl) (Or.inr rfl) hC (fun z M1 hQ => ?_)
  exact k z M1 hQ
theorem kX9_doubt_36 {X : Scr} {M : Mem} {P : Option AV → Mem → Prop} {x1 x2 x3 x4 x5 x6 xs0 : Int} (k1 : xs0 = 0 → Runs X mX9_doubt 52 [] [] M P) (k2 : xs0 ≠ 0 → Runs X mX9_doubt 39 [(1, vi x1), (2, vi x2), (3, vi x3), (4, vi x4), (5, vi x5), (6, vi x6)] [] M P) : Runs X mX9_doubt 36 [(1, vi x1), (2, vi x2), (3, vi x3), (4, vi x4), (5, vi x5), (6, vi x6)] [vi xs0] M P := by
  refine Runs.if_eq (tgt := 52) dX9_doubt_36 (by decide) (fun h => ?_) (fun h => ?_)
  · refine Runs.picks (loc' := []) [] rfl ?_
    exact k1 h
  · exact k2 h
theorem kX9_doubt_39 {X : Scr} {M : Mem} {P Q : Option AV → Mem → Prop} {x1 x2 x3 x4 x5 x6 : Int} (hC : Call X mX9_in [vl x5, vl (0 : Int), vl x4] M Q) (k : ∀ (z : Int) (M1 : Mem), Q (some (vi z)) M1 → Runs X mX9_doubt 49 [(1, vi x1), (2, vi x2), (3, vi x3), (4, vi x4), (5, vi x5), (6, vi x6)] [vi z] M1 P) : Runs X mX9_doubt 39 [(1, vi x1), (2, vi x2), (3, vi x3), (4, vi x4), (5, vi x5), (6, vi x6)] [] M P := by
  refine Runs.iload (j := 4) dX9_doubt_39 rfl ?_
  refine Runs.i2l dX9_doubt_41 ?_
  refine Runs.lconst (z := 0) dX9_doubt_42 rfl (by decide) ?_
  refine Runs.iload (j := 3) dX9_doubt_43 rfl ?_
  refine Runs.i2l dX9_doubt_45 ?_
  refine Runs.callSi (y := mX9_in) (n := 3) (as := [vl x5, vl (0 : Int), vl x4]) (st := []) dX9_doubt_46 oc_X9_in sm_X9_in ml_X9_114 rfl ⟨(Nat.le_of_ble_eq_true rfl), (Nat.le_of_ble_eq_true rfl)⟩ (Nat.le_of_ble_eq_true rfl) (Nat.le_of_ble_eq_true rfl) (Or.inr rfl) hC (fun z M1 hQ => ?_)
  exact k z M1 hQ
theorem kX9_doubt_49 {X : Scr} {M : Mem} {P : Option AV → Mem → Prop} {x1 x2 x3 x4 x5 x6 xs0 : Int} (k1 : xs0 ≠ 0 → Runs X mX9_doubt 56 [(1, vi x1), (2, vi x2), (3, vi x3), (4, vi x4), (5, vi x5), (6, vi x6)] [] M P) (k2 : xs0 = 0 → Runs X mX9_doubt 52 [] [] M P) : Runs X mX9_doubt 49 [(1, vi x1), (2, vi x2), (3, vi x3), (4, vi x4), (5, vi x5), (6, vi x6)] [vi xs0] M P := by
  refine Runs.if_ne (tgt := 56) dX9_doubt_49 (by decide) (fun h => ?_) (fun h => ?_)
  · exact k1 h
  · refine Runs.picks (loc' := []) [] rfl ?_
    exact k2 h
theorem kX9_doubt_52 {X : Scr} {M : Mem} {P : Option AV → Mem → Prop} (k : P (some (vl (-2 : Int))) M) : Runs X mX9_doubt 52 [] [] M P := by
  refine Runs.ldc2 (z := -2) dX9_doubt_52 w5_22 (by decide) (by decide) ?_
  exact Runs.retl dX9_doubt_55 rfl k
theorem kX9_doubt_56 {X : Scr} {M : Mem} {P Q : Option AV → Mem → Prop} {x1 x2 x3 x4 x5 x6 : Int} (hC : Call X mX9_power [vl x2, vi x5] M Q) (k : ∀ (z : Int) (M1 : Mem), Q (some (vl z)) M1 → Runs X mX9_doubt 65 [(1, vi x1), (2, vi x2), (3, vi x3), (4, vi x4), (5, vi x5), (6, vi x6)] [vl z, vl x1] M1 P) : Runs X mX9_doubt 56 [(1, vi x1), (2, vi x2), (3, vi x3), (4, vi x4), (5, vi x5), (6, vi x6)] [] M P := by
  refine Runs.iload_n (j := 0) dX9_doubt_56 rfl ?_
  refine Runs.i2l dX9_doubt_57 ?_
  refine Runs.iload_n (j := 1) dX9_doubt_58 rfl ?_
  refine Runs.i2l dX9_doubt_59 ?_
  refine Runs.iload (j := 4) dX9_doubt_60 rfl ?_
  refine Runs.callSl (y := mX9_power) (n := 2) (as := [vl x2, vi x5]) (st := [vl x1]) dX9_doubt_62 oc_X9_power sm_X9_power ml_X9_267 rfl ⟨(Nat.le_of_ble_eq_true rfl), (Nat.le_of_ble_eq_true rfl)⟩ (Nat.le_of_ble_eq_true rfl) (Nat.le_of_ble_eq_true rfl) rfl hC (fun z M1 hQ => ?_)
  exact k z M1 hQ
theorem kX9_doubt_65 {X : Scr} {M : Mem} {P Q : Option AV → Mem → Prop} {x1 x2 x3 x4 x5 x6 xs0 xs1 : Int} (hC : Call X mX9_power [vl ((10 : Int) - x2), vi (x4 - x5)] M Q) (k : ∀ (z : Int) (M1 : Mem), Q (some (vl z)) M1 → Runs X mX9_doubt 79 [(1, vi x1), (3, vi x3), (4, vi x4), (5, vi x5), (6, vi x6)] [vl z, vl (xs0 * xs1)] M1 P) (h1 : -9223372036854775808 ≤ (xs0 * xs1) ∧ (xs0 * xs1) ≤ 9223372036854775807 := by omega) (h2 : -2147483648 ≤ ((10 : Int) - x2) ∧ ((10 : Int) - x2) ≤ 2147483647 := by omega) (h3 : -2147483648 ≤ (x4 - x5) ∧ (x4 - x5) ≤ 2147483647 := by omega) : Runs X mX9_doubt 65 [(1, vi x1), (2, vi x2), (3, vi x3), (4, vi x4), (5, vi x5), (6, vi x6)] [vl xs1, vl xs0] M P := by
  refine Runs.lmul dX9_doubt_65 h1 ?_
  refine Runs.bipush dX9_doubt_66 (by decide) (by decide) ?_
  refine Runs.iload_n (j := 1) dX9_doubt_68 rfl ?_
  refine Runs.isub dX9_doubt_69 h2 ?_
  refine Runs.i2l dX9_doubt_70 ?_
  refine Runs.iload (j := 3) dX9_doubt_71 rfl ?_
  refine Runs.iload (j := 4) dX9_doubt_73 rfl ?_
  refine Runs.isub dX9_doubt_75 h3 ?_
  refine Runs.callSl (y := mX9_power) (n := 2) (as := [vl ((10 : Int) - x2), vi (x4 - x5)]) (st := [vl (xs0 * xs1)]) dX9_doubt_76 oc_X9_power sm_X9_power ml_X9_267 rfl ⟨(Nat.le_of_ble_eq_true rfl), (Nat.le_of_ble_eq_true rfl)⟩ (Nat.le_of_ble_eq_true rfl) (Nat.le_of_ble_eq_true rfl) rfl hC (fun z M1 hQ => ?_)
  refine Runs.picks (loc' := [(1, vi x1), (3, vi x3), (4, vi x4), (5, vi x5), (6, vi x6)]) [0, 2, 3, 4, 5] rfl ?_
  exact k z M1 hQ
theorem kX9_doubt_79 {X : Scr} {M : Mem} {P Q : Option AV → Mem → Prop} {x1 x3 x4 x5 x6 xs0 xs1 : Int} (hC : Call X mX9_power [vl x3, vi x5] M Q) (k : ∀ (z : Int) (M1 : Mem), Q (some (vl z)) M1 → Runs X mX9_doubt 94 [(3, vi x3), (4, vi x4), (5, vi x5), (6, vi x6), (7, vl (xs0 * xs1))] [vl z, vl ((10 : Int) - x1)] M1 P) (h1 : -9223372036854775808 ≤ (xs0 * xs1) ∧ (xs0 * xs1) ≤ 9223372036854775807 := by omega) (h2 : -2147483648 ≤ ((10 : Int) - x1) ∧ ((10 : Int) - x1) ≤ 2147483647 := by omega) : Runs X mX9_doubt 79 [(1, vi x1), (3, vi x3), (4, vi x4), (5, vi x5), (6, vi x6)] [vl xs1, vl xs0] M P := by
  refine Runs.lmul dX9_doubt_79 h1 ?_
  refine Runs.lstore (loc' := [(1, vi x1), (3, vi x3), (4, vi x4), (5, vi x5), (6, vi x6), (7, vl (xs0 * xs1))]) dX9_doubt_80 (by decide) rfl ?_
  refine Runs.bipush dX9_doubt_82 (by decide) (by decide) ?_
  refine Runs.iload_n (j := 0) dX9_doubt_84 rfl ?_
  refine Runs.isub dX9_doubt_85 h2 ?_
  refine Runs.i2l dX9_doubt_86 ?_
  refine Runs.iload_n (j := 1) dX9_doubt_87 rfl ?_
  refine Runs.i2l dX9_doubt_88 ?_
  refine Runs.iload (j := 3) dX9_doubt_89 rfl ?_
  refine Runs.callSl (y := mX9_power) (n := 2) (as := [vl x3, vi x5]) (st := [vl ((10 : Int) - x1)]) dX9_doubt_91 oc_X9_power sm_X9_power ml_X9_267 rfl ⟨(Nat.le_of_ble_eq_true rfl), (Nat.le_of_ble_eq_true rfl)⟩ (Nat.le_of_ble_eq_true rfl) (Nat.le_of_ble_eq_true rfl) rfl hC (fun z M1 hQ => ?_)
  refine Runs.picks (loc' := [(3, vi x3), (4, vi x4), (5, vi x5), (6, vi x6), (7, vl (xs0 * xs1))]) [1, 2, 3, 4, 5] rfl ?_
  exact k z M1 hQ
theorem kX9_doubt_94 {X : Scr} {M : Mem} {P Q : Option AV → Mem → Prop} {x3 x4 x5 x6 x7 xs0 xs1 : Int} (hC : Call X mX9_power [vl ((10 : Int) - x3), vi (x4 - x5)] M Q) (k : ∀ (z : Int) (M1 : Mem), Q (some (vl z)) M1 → Runs X mX9_doubt 108 [(6, vi x6), (7, vl x7)] [vl z, vl (xs0 * xs1)] M1 P) (h1 : -9223372036854775808 ≤ (xs0 * xs1) ∧ (xs0 * xs1) ≤ 9223372036854775807 := by omega) (h2 : -2147483648 ≤ ((10 : Int) - x3) ∧ ((10 : Int) - x3) ≤ 2147483647 := by omega) (h3 : -2147483648 ≤ (x4 - x5) ∧ (x4 - x5) ≤ 2147483647 := by omega) : Runs X mX9_doubt 94 [(3, vi x3), (4, vi x4), (5, vi x5), (6, vi x6), (7, vl x7)] [vl xs1, vl xs0] M P := by
  refine Runs.lmul dX9_doubt_94 h1 ?_
  refine Runs.bipush dX9_doubt_95 (by decide) (by decide) ?_
  refine Runs.iload_n (j := 0) dX9_doubt_97 rfl ?_
  refine Runs.isub dX9_doubt_98 h2 ?_
  refine Runs.i2l dX9_doubt_99 ?_
  refine Runs.iload (j := 1) dX9_doubt_100 rfl ?_
  refine Runs.iload (j := 2) dX9_doubt_102 rfl ?_
  refine Runs.isub dX9_doubt_104 h3 ?_
  refine Runs.callSl (y := mX9_power) (n := 2) (as := [vl ((10 : Int) - x3), vi (x4 - x5)]) (st := [vl (xs0 * xs1)]) dX9_doubt_105 oc_X9_power sm_X9_power ml_X9_267 rfl ⟨(Nat.le_of_ble_eq_true rfl), (Nat.le_of_ble_eq_true rfl)⟩ (Nat.le_of_ble_eq_true rfl) (Nat.le_of_ble_eq_true rfl) rfl hC (fun z M1 hQ => ?_)
  refine Runs.picks (loc' := [(6, vi x6), (7, vl x7)]) [3, 4] rfl ?_
  exact k z M1 hQ
theorem kX9_doubt_108 {X : Scr} {M : Mem} {P : Option AV → Mem → Prop} {x6 x7 xs0 xs1 : Int} (k1 : (x7 + (xs0 * xs1)) ≠ (0 : Int) → Runs X mX9_doubt 127 [(6, vi x6), (7, vl x7), (9, vl (xs0 * xs1))] [] M P) (k2 : (x7 + (xs0 * xs1)) = (0 : Int) → Runs X mX9_doubt 121 [] [] M P) (h1 : -9223372036854775808 ≤ (xs0 * xs1) ∧ (xs0 * xs1) ≤ 9223372036854775807 := by omega) (h2 : -9223372036854775808 ≤ (x7 + (xs0 * xs1)) ∧ (x7 + (xs0 * xs1)) ≤ 9223372036854775807 := by omega) : Runs X mX9_doubt 108 [(6, vi x6), (7, vl x7)] [vl xs1, vl xs0] M P := by
  refine Runs.lmul dX9_doubt_108 h1 ?_
  refine Runs.lstore (loc' := [(6, vi x6), (7, vl x7), (9, vl (xs0 * xs1))]) dX9_doubt_109 (by decide) rfl ?_
  refine Runs.lload (j := 1) dX9_doubt_111 rfl ?_
  refine Runs.lload (j := 2) dX9_doubt_113 rfl ?_
  refine Runs.ladd dX9_doubt_115 h2 ?_
  refine Runs.lconst (z := 0) dX9_doubt_116 rfl (by decide) ?_
  refine Runs.lcmp_ne (tgt := 127) dX9_doubt_117 dX9_doubt_118 (by decide) (fun h => ?_) (fun h => ?_)
  · exact k1 h
  · refine Runs.picks (loc' := []) [] rfl ?_
    exact k2 h
theorem kX9_doubt_121 {X : Scr} {M : Mem} {P : Option AV → Mem → Prop} (k : Runs X mX9_doubt 139 [] [vl (-3 : Int)] M P) : Runs X mX9_doubt 121 [] [] M P := by
  refine Runs.ldc2 (z := -3) dX9_doubt_121 w5_26 (by decide) (by decide) ?_
  refine Runs.goto (tgt := 139) dX9_doubt_124 (by decide) ?_
  exact k
theorem kX9_doubt_127 {X : Scr} {M : Mem} {P Q : Option AV → Mem → Prop} {x6 x7 x9 : Int} (hC : Call X mX9_told [vl x7, vl (x7 + x9), vi x6] M Q) (k : ∀ (z : Int) (M1 : Mem), Q (some (vl z)) M1 → Runs X mX9_doubt 139 [] [vl z] M1 P) (h1 : -9223372036854775808 ≤ (x7 + x9) ∧ (x7 + x9) ≤ 9223372036854775807 := by omega) : Runs X mX9_doubt 127 [(6, vi x6), (7, vl x7), (9, vl x9)] [] M P := by
  refine Runs.lload (j := 1) dX9_doubt_127 rfl ?_
  refine Runs.lload (j := 1) dX9_doubt_129 rfl ?_
  refine Runs.lload (j := 2) dX9_doubt_131 rfl ?_
  refine Runs.ladd dX9_doubt_133 h1 ?_
  refine Runs.iload (j := 0) dX9_doubt_134 rfl ?_
  refine Runs.callSl (y := mX9_told) (n := 3) (as := [vl x7, vl (x7 + x9), vi x6]) (st := []) dX9_doubt_136 oc_X9_told sm_X9_told ml_X9_273 rfl ⟨(Nat.le_of_ble_eq_true rfl), (Nat.le_of_ble_eq_true rfl)⟩ (Nat.le_of_ble_eq_true rfl) (Nat.le_of_ble_eq_true rfl) rfl hC (fun z M1 hQ => ?_)
  refine Runs.picks (loc' := []) [] rfl ?_
  exact k z M1 hQ
theorem kX9_doubt_139 {X : Scr} {M : Mem} {P : Option AV → Mem → Prop} {xs0 : Int} (k : P (some (vl xs0)) M) : Runs X mX9_doubt 139 [] [vl xs0] M P := by
  exact Runs.retl dX9_doubt_139 rfl k
theorem kX9_among_0 {X : Scr} {M : Mem} {P Q : Option AV → Mem → Prop} {x1 x2 x3 x4 : Int} (hC : Call X mX9_in [vl x1, vl (1 : Int), vl (10 : Int)] (up2 M 200 0 (0 : Int)) Q) (k : ∀ (z : Int) (M1 : Mem), Q (some (vi z)) M1 → Runs X mX9_among 14 [(1, vi x1), (2, vi x2), (3, vi x3), (4, vi x4)] [vi z] M1 P) : Runs X mX9_among 0 [(0, vr 200), (1, vi x1), (2, vi x2), (3, vi x3), (4, vi x4)] [] M P := by
  refine Runs.aload_n (j := 0) dX9_among_0 rfl ?_
  refine Runs.iconst dX9_among_1 (by decide) ?_
  refine Runs.puti (ci := 9) (j := 0) (C := RX9) (T := TX9) (N := 48) dX9_among_2 rfl cls_X9 (by decide) rfl fl_X9_108 rfl rfl ?_
  refine Runs.iload_n (j := 1) dX9_among_5 rfl ?_
  refine Runs.i2l dX9_among_6 ?_
  refine Runs.lconst (z := 1) dX9_among_7 rfl (by decide) ?_
  refine Runs.ldc2 (z := 10) dX9_among_8 w5_0 (by decide) (by decide) ?_
  refine Runs.callSi (y := mX9_in) (n := 3) (as := [vl x1, vl (1 : Int), vl (10 : Int)]) (st := []) dX9_among_11 oc_X9_in sm_X9_in ml_X9_114 rfl ⟨(Nat.le_of_ble_eq_true rfl), (Nat.le_of_ble_eq_true rfl)⟩ (Nat.le_of_ble_eq_true rfl) (Nat.le_of_ble_eq_true rfl) (Or.inr rfl) hC (fun z M1 hQ => ?_)
  refine Runs.picks (loc' := [(1, vi x1), (2, vi x2), (3, vi x3), (4, vi x4)]) [1, 2, 3, 4] rfl ?_
  exact k z M1 hQ
theorem kX9_among_14 {X : Scr} {M : Mem} {P : Option AV → Mem → Prop} {x1 x2 x3 x4 xs0 : Int} (k1 : xs0 = 0 → Runs X mX9_among 35 [] [] M P) (k2 : xs0 ≠ 0 → Runs X mX9_among 17 [(1, vi x1), (2, vi x2), (3, vi x3), (4, vi x4)] [] M P) : Runs X mX9_among 14 [(1, vi x1), (2, vi x2), (3, vi x3), (4, vi x4)] [vi xs0] M P := by
  refine Runs.if_eq (tgt := 35) dX9_among_14 (by decide) (fun h => ?_) (fun h => ?_)
  · refine Runs.picks (loc' := []) [] rfl ?_
    exact k1 h
  · exact k2 h
theorem kX9_among_17 {X : Scr} {M : Mem} {P Q : Option AV → Mem → Prop} {x1 x2 x3 x4 : Int} (hC : Call X mX9_noTenths [vi x2] M Q) (k : ∀ (z : Int) (M1 : Mem), Q (some (vi z)) M1 → Runs X mX9_among 21 [(1, vi x1), (2, vi x2), (3, vi x3), (4, vi x4)] [vi z] M1 P) : Runs X mX9_among 17 [(1, vi x1), (2, vi x2), (3, vi x3), (4, vi x4)] [] M P := by
  refine Runs.iload_n (j := 1) dX9_among_17 rfl ?_
  refine Runs.callSi (y := mX9_noTenths) (n := 1) (as := [vi x2]) (st := []) dX9_among_18 oc_X9_noTenths sm_X9_noTenths ml_X9_260 rfl ⟨(Nat.le_of_ble_eq_true rfl), (Nat.le_of_ble_eq_true rfl)⟩ (Nat.le_of_ble_eq_true rfl) (Nat.le_of_ble_eq_true rfl) (Or.inr rfl) hC (fun z M1 hQ => ?_)
  exact k z M1 hQ
theorem kX9_among_21 {X : Scr} {M : Mem} {P : Option AV → Mem → Prop} {x1 x2 x3 x4 xs0 : Int} (k1 : xs0 ≠ 0 → Runs X mX9_among 35 [] [] M P) (k2 : xs0 = 0 → Runs X mX9_among 24 [(1, vi x1), (2, vi x2), (3, vi x3), (4, vi x4)] [] M P) : Runs X mX9_among 21 [(1, vi x1), (2, vi x2), (3, vi x3), (4, vi x4)] [vi xs0] M P := by
  refine Runs.if_ne (tgt := 35) dX9_among_21 (by decide) (fun h => ?_) (fun h => ?_)
  · refine Runs.picks (loc' := []) [] rfl ?_
    exact k1 h
  · exact k2 h
theorem kX9_among_24 {X : Scr} {M : Mem} {P Q : Option AV → Mem → Prop} {x1 x2 x3 x4 : Int} (hC : Call X mX9_in [vl x3, vl (0 : Int), vl x1] M Q) (k : ∀ (z : Int) (M1 : Mem), Q (some (vi z)) M1 → Runs X mX9_among 32 [(1, vi x1), (2, vi x2), (3, vi x3), (4, vi x4)] [vi z] M1 P) : Runs X mX9_among 24 [(1, vi x1), (2, vi x2), (3, vi x3), (4, vi x4)] [] M P := by
  refine Runs.iload_n (j := 2) dX9_among_24 rfl ?_
  refine Runs.i2l dX9_among_25 ?_
  refine Runs.lconst (z := 0) dX9_among_26 rfl (by decide) ?_
  refine Runs.iload_n (j := 0) dX9_among_27 rfl ?_
  refine Runs.i2l dX9_among_28 ?_
  refine Runs.callSi (y := mX9_in) (n := 3) (as := [vl x3, vl (0 : Int), vl x1]) (st := []) dX9_among_29 oc_X9_in sm_X9_in ml_X9_114 rfl ⟨(Nat.le_of_ble_eq_true rfl), (Nat.le_of_ble_eq_true rfl)⟩ (Nat.le_of_ble_eq_true rfl) (Nat.le_of_ble_eq_true rfl) (Or.inr rfl) hC (fun z M1 hQ => ?_)
  exact k z M1 hQ
theorem kX9_among_32 {X : Scr} {M : Mem} {P : Option AV → Mem → Prop} {x1 x2 x3 x4 xs0 : Int} (k1 : xs0 ≠ 0 → Runs X mX9_among 39 [(1, vi x1), (2, vi x2), (3, vi x3), (4, vi x4)] [] M P) (k2 : xs0 = 0 → Runs X mX9_among 35 [] [] M P) : Runs X mX9_among 32 [(1, vi x1), (2, vi x2), (3, vi x3), (4, vi x4)] [vi xs0] M P := by
  refine Runs.if_ne (tgt := 39) dX9_among_32 (by decide) (fun h => ?_) (fun h => ?_)
  · exact k1 h
  · refine Runs.picks (loc' := []) [] rfl ?_
    exact k2 h
theorem kX9_among_35 {X : Scr} {M : Mem} {P : Option AV → Mem → Prop} (k : P (some (vl (-2 : Int))) M) : Runs X mX9_among 35 [] [] M P := by
  refine Runs.ldc2 (z := -2) dX9_among_35 w5_22 (by decide) (by decide) ?_
  exact Runs.retl dX9_among_38 rfl k
theorem kX9_among_39 {X : Scr} {M : Mem} {P : Option AV → Mem → Prop} {x1 x2 x3 x4 : Int} (k : Runs X mX9_among 48 [(1, vi x1), (2, vi x2), (3, vi x3), (4, vi x4), (5, vl (0 : Int)), (7, vl (1 : Int)), (9, vi (0 : Int))] [] M P) : Runs X mX9_among 39 [(1, vi x1), (2, vi x2), (3, vi x3), (4, vi x4)] [] M P := by
  refine Runs.lconst (z := 0) dX9_among_39 rfl (by decide) ?_
  refine Runs.lstore (loc' := [(1, vi x1), (2, vi x2), (3, vi x3), (4, vi x4), (5, vl (0 : Int))]) dX9_among_40 (by decide) rfl ?_
  refine Runs.lconst (z := 1) dX9_among_42 rfl (by decide) ?_
  refine Runs.lstore (loc' := [(1, vi x1), (2, vi x2), (3, vi x3), (4, vi x4), (5, vl (0 : Int)), (7, vl (1 : Int))]) dX9_among_43 (by decide) rfl ?_
  refine Runs.iconst dX9_among_45 (by decide) ?_
  refine Runs.istore (loc' := [(1, vi x1), (2, vi x2), (3, vi x3), (4, vi x4), (5, vl (0 : Int)), (7, vl (1 : Int)), (9, vi (0 : Int))]) dX9_among_46 (by decide) rfl ?_
  exact k
theorem kX9_among_48 {X : Scr} {M : Mem} {P : Option AV → Mem → Prop} {x1 x2 x3 x4 x5 x7 x9 : Int} (k1 : x1 < x9 → Runs X mX9_among 114 [(1, vi x1), (4, vi x4), (5, vl x5)] [] M P) (k2 : x9 ≤ x1 → Runs X mX9_among 54 [(1, vi x1), (2, vi x2), (3, vi x3), (4, vi x4), (5, vl x5), (7, vl x7), (9, vi x9)] [] M P) : Runs X mX9_among 48 [(1, vi x1), (2, vi x2), (3, vi x3), (4, vi x4), (5, vl x5), (7, vl x7), (9, vi x9)] [] M P := by
  refine Runs.iload (j := 6) dX9_among_48 rfl ?_
  refine Runs.iload_n (j := 0) dX9_among_50 rfl ?_
  refine Runs.icmp_gt (tgt := 114) dX9_among_51 (by decide) (fun h => ?_) (fun h => ?_)
  · refine Runs.picks (loc' := [(1, vi x1), (4, vi x4), (5, vl x5)]) [0, 3, 4] rfl ?_
    exact k1 h
  · exact k2 h
theorem kX9_among_54 {X : Scr} {M : Mem} {P : Option AV → Mem → Prop} {x1 x2 x3 x4 x5 x7 x9 : Int} (k1 : x3 ≤ x9 → Runs X mX9_among 66 [(1, vi x1), (2, vi x2), (3, vi x3), (4, vi x4), (7, vl x7), (9, vi x9)] [vl x5] M P) (k2 : x9 < x3 → Runs X mX9_among 62 [(1, vi x1), (2, vi x2), (3, vi x3), (4, vi x4), (7, vl x7), (9, vi x9)] [vl x5] M P) : Runs X mX9_among 54 [(1, vi x1), (2, vi x2), (3, vi x3), (4, vi x4), (5, vl x5), (7, vl x7), (9, vi x9)] [] M P := by
  refine Runs.lload (j := 4) dX9_among_54 rfl ?_
  refine Runs.iload (j := 6) dX9_among_56 rfl ?_
  refine Runs.iload_n (j := 2) dX9_among_58 rfl ?_
  refine Runs.icmp_ge (tgt := 66) dX9_among_59 (by decide) (fun h => ?_) (fun h => ?_)
  · refine Runs.picks (loc' := [(1, vi x1), (2, vi x2), (3, vi x3), (4, vi x4), (7, vl x7), (9, vi x9)]) [0, 1, 2, 3, 5, 6] rfl ?_
    exact k1 h
  · refine Runs.picks (loc' := [(1, vi x1), (2, vi x2), (3, vi x3), (4, vi x4), (7, vl x7), (9, vi x9)]) [0, 1, 2, 3, 5, 6] rfl ?_
    exact k2 h
theorem kX9_among_62 {X : Scr} {M : Mem} {P : Option AV → Mem → Prop} {x1 x2 x3 x4 x7 x9 xs0 : Int} (k : Runs X mX9_among 89 [(1, vi x1), (2, vi x2), (3, vi x3), (4, vi x4), (7, vl x7), (9, vi x9)] [vl (0 : Int), vl xs0] M P) : Runs X mX9_among 62 [(1, vi x1), (2, vi x2), (3, vi x3), (4, vi x4), (7, vl x7), (9, vi x9)] [vl xs0] M P := by
  refine Runs.lconst (z := 0) dX9_among_62 rfl (by decide) ?_
  refine Runs.goto (tgt := 89) dX9_among_63 (by decide) ?_
  exact k
theorem kX9_among_66 {X : Scr} {M : Mem} {P Q : Option AV → Mem → Prop} {x1 x2 x3 x4 x7 x9 xs0 : Int} (hC : Call X mX9_power [vl x2, vi x9] M Q) (k : ∀ (z : Int) (M1 : Mem), Q (some (vl z)) M1 → Runs X mX9_among 75 [(1, vi x1), (2, vi x2), (3, vi x3), (4, vi x4), (7, vl x7), (9, vi x9)] [vl z, vl x7, vl xs0] M1 P) : Runs X mX9_among 66 [(1, vi x1), (2, vi x2), (3, vi x3), (4, vi x4), (7, vl x7), (9, vi x9)] [vl xs0] M P := by
  refine Runs.lload (j := 4) dX9_among_66 rfl ?_
  refine Runs.iload_n (j := 1) dX9_among_68 rfl ?_
  refine Runs.i2l dX9_among_69 ?_
  refine Runs.iload (j := 5) dX9_among_70 rfl ?_
  refine Runs.callSl (y := mX9_power) (n := 2) (as := [vl x2, vi x9]) (st := [vl x7, vl xs0]) dX9_among_72 oc_X9_power sm_X9_power ml_X9_267 rfl ⟨(Nat.le_of_ble_eq_true rfl), (Nat.le_of_ble_eq_true rfl)⟩ (Nat.le_of_ble_eq_true rfl) (Nat.le_of_ble_eq_true rfl) rfl hC (fun z M1 hQ => ?_)
  exact k z M1 hQ
theorem kX9_among_75 {X : Scr} {M : Mem} {P Q : Option AV → Mem → Prop} {x1 x2 x3 x4 x7 x9 xs0 xs1 xs2 : Int} (hC : Call X mX9_power [vl ((10 : Int) - x2), vi (x1 - x9)] M Q) (k : ∀ (z : Int) (M1 : Mem), Q (some (vl z)) M1 → Runs X mX9_among 88 [(1, vi x1), (2, vi x2), (3, vi x3), (4, vi x4), (7, vl x7), (9, vi x9)] [vl z, vl (xs1 * xs2), vl xs0] M1 P) (h1 : -9223372036854775808 ≤ (xs1 * xs2) ∧ (xs1 * xs2) ≤ 9223372036854775807 := by omega) (h2 : -2147483648 ≤ ((10 : Int) - x2) ∧ ((10 : Int) - x2) ≤ 2147483647 := by omega) (h3 : -2147483648 ≤ (x1 - x9) ∧ (x1 - x9) ≤ 2147483647 := by omega) : Runs X mX9_among 75 [(1, vi x1), (2, vi x2), (3, vi x3), (4, vi x4), (7, vl x7), (9, vi x9)] [vl xs2, vl xs1, vl xs0] M P := by
  refine Runs.lmul dX9_among_75 h1 ?_
  refine Runs.bipush dX9_among_76 (by decide) (by decide) ?_
  refine Runs.iload_n (j := 1) dX9_among_78 rfl ?_
  refine Runs.isub dX9_among_79 h2 ?_
  refine Runs.i2l dX9_among_80 ?_
  refine Runs.iload_n (j := 0) dX9_among_81 rfl ?_
  refine Runs.iload (j := 5) dX9_among_82 rfl ?_
  refine Runs.isub dX9_among_84 h3 ?_
  refine Runs.callSl (y := mX9_power) (n := 2) (as := [vl ((10 : Int) - x2), vi (x1 - x9)]) (st := [vl (xs1 * xs2), vl xs0]) dX9_among_85 oc_X9_power sm_X9_power ml_X9_267 rfl ⟨(Nat.le_of_ble_eq_true rfl), (Nat.le_of_ble_eq_true rfl)⟩ (Nat.le_of_ble_eq_true rfl) (Nat.le_of_ble_eq_true rfl) rfl hC (fun z M1 hQ => ?_)
  exact k z M1 hQ
theorem kX9_among_88 {X : Scr} {M : Mem} {P : Option AV → Mem → Prop} {x1 x2 x3 x4 x7 x9 xs0 xs1 xs2 : Int} (k : Runs X mX9_among 89 [(1, vi x1), (2, vi x2), (3, vi x3), (4, vi x4), (7, vl x7), (9, vi x9)] [vl (xs1 * xs2), vl xs0] M P) (h1 : -9223372036854775808 ≤ (xs1 * xs2) ∧ (xs1 * xs2) ≤ 9223372036854775807 := by omega) : Runs X mX9_among 88 [(1, vi x1), (2, vi x2), (3, vi x3), (4, vi x4), (7, vl x7), (9, vi x9)] [vl xs2, vl xs1, vl xs0] M P := by
  refine Runs.lmul dX9_among_88 h1 ?_
  exact k
theorem kX9_among_89 {X : Scr} {M : Mem} {P : Option AV → Mem → Prop} {x1 x2 x3 x4 x7 x9 xs0 xs1 : Int} (k : Runs X mX9_among 48 [(1, vi x1), (2, vi x2), (3, vi x3), (4, vi x4), (5, vl (xs0 + xs1)), (7, vl ((x7 * (x1 - x9)) / (x9 + (1 : Int)))), (9, vi (x9 + (1 : Int)))] [] M P) (h1 : -9223372036854775808 ≤ (xs0 + xs1) ∧ (xs0 + xs1) ≤ 9223372036854775807 := by omega) (h2 : -2147483648 ≤ (x1 - x9) ∧ (x1 - x9) ≤ 2147483647 := by omega) (h3 : -9223372036854775808 ≤ (x7 * (x1 - x9)) ∧ (x7 * (x1 - x9)) ≤ 9223372036854775807 := by omega) (h4 : -2147483648 ≤ (x9 + (1 : Int)) ∧ (x9 + (1 : Int)) ≤ 2147483647 := by omega) (h5 : 0 ≤ (x7 * (x1 - x9)) := by omega) (h6 : 0 < (x9 + (1 : Int)) := by omega) : Runs X mX9_among 89 [(1, vi x1), (2, vi x2), (3, vi x3), (4, vi x4), (7, vl x7), (9, vi x9)] [vl xs1, vl xs0] M P := by
  refine Runs.ladd dX9_among_89 h1 ?_
  refine Runs.lstore (loc' := [(1, vi x1), (2, vi x2), (3, vi x3), (4, vi x4), (5, vl (xs0 + xs1)), (7, vl x7), (9, vi x9)]) dX9_among_90 (by decide) rfl ?_
  refine Runs.lload (j := 5) dX9_among_92 rfl ?_
  refine Runs.iload_n (j := 0) dX9_among_94 rfl ?_
  refine Runs.iload (j := 6) dX9_among_95 rfl ?_
  refine Runs.isub dX9_among_97 h2 ?_
  refine Runs.i2l dX9_among_98 ?_
  refine Runs.lmul dX9_among_99 h3 ?_
  refine Runs.iload (j := 6) dX9_among_100 rfl ?_
  refine Runs.iconst dX9_among_102 (by decide) ?_
  refine Runs.iadd dX9_among_103 h4 ?_
  refine Runs.i2l dX9_among_104 ?_
  refine Runs.ldiv dX9_among_105 h5 h6 ?_
  refine Runs.lstore (loc' := [(1, vi x1), (2, vi x2), (3, vi x3), (4, vi x4), (5, vl (xs0 + xs1)), (7, vl ((x7 * (x1 - x9)) / (x9 + (1 : Int)))), (9, vi x9)]) dX9_among_106 (by decide) rfl ?_
  refine Runs.iinc (k := 6) (loc' := [(1, vi x1), (2, vi x2), (3, vi x3), (4, vi x4), (5, vl (xs0 + xs1)), (7, vl ((x7 * (x1 - x9)) / (x9 + (1 : Int)))), (9, vi (x9 + (1 : Int)))]) dX9_among_108 rfl h4 (by decide) rfl ?_
  refine Runs.goto (tgt := 48) dX9_among_111 (by decide) ?_
  exact k
theorem kX9_among_114 {X : Scr} {M : Mem} {P Q : Option AV → Mem → Prop} {x1 x4 x5 : Int} (hC : Call X mX9_power [vl (10 : Int), vi x1] M Q) (k : ∀ (z : Int) (M1 : Mem), Q (some (vl z)) M1 → Runs X mX9_among 123 [(4, vi x4)] [vl z, vl x5] M1 P) : Runs X mX9_among 114 [(1, vi x1), (4, vi x4), (5, vl x5)] [] M P := by
  refine Runs.lload (j := 2) dX9_among_114 rfl ?_
  refine Runs.ldc2 (z := 10) dX9_among_116 w5_0 (by decide) (by decide) ?_
  refine Runs.iload_n (j := 0) dX9_among_119 rfl ?_
  refine Runs.callSl (y := mX9_power) (n := 2) (as := [vl (10 : Int), vi x1]) (st := [vl x5]) dX9_among_120 oc_X9_power sm_X9_power ml_X9_267 rfl ⟨(Nat.le_of_ble_eq_true rfl), (Nat.le_of_ble_eq_true rfl)⟩ (Nat.le_of_ble_eq_true rfl) (Nat.le_of_ble_eq_true rfl) rfl hC (fun z M1 hQ => ?_)
  refine Runs.picks (loc' := [(4, vi x4)]) [1] rfl ?_
  exact k z M1 hQ
theorem kX9_among_123 {X : Scr} {M : Mem} {P Q : Option AV → Mem → Prop} {x4 xs0 xs1 : Int} (hC : Call X mX9_told [vl xs0, vl xs1, vi x4] M Q) (k : ∀ (z : Int) (M1 : Mem), Q (some (vl z)) M1 → Runs X mX9_among 128 [] [vl z] M1 P) : Runs X mX9_among 123 [(4, vi x4)] [vl xs1, vl xs0] M P := by
  refine Runs.iload (j := 0) dX9_among_123 rfl ?_
  refine Runs.callSl (y := mX9_told) (n := 3) (as := [vl xs0, vl xs1, vi x4]) (st := []) dX9_among_125 oc_X9_told sm_X9_told ml_X9_273 rfl ⟨(Nat.le_of_ble_eq_true rfl), (Nat.le_of_ble_eq_true rfl)⟩ (Nat.le_of_ble_eq_true rfl) (Nat.le_of_ble_eq_true rfl) rfl hC (fun z M1 hQ => ?_)
  refine Runs.picks (loc' := []) [] rfl ?_
  exact k z M1 hQ
theorem kX9_among_128 {X : Scr} {M : Mem} {P : Option AV → Mem → Prop} {xs0 : Int} (k : P (some (vl xs0)) M) : Runs X mX9_among 128 [] [vl xs0] M P := by
  exact Runs.retl dX9_among_128 rfl k
theorem kX9_rate_0 {X : Scr} {M : Mem} {P Q : Option AV → Mem → Prop} {x1 x2 x3 x4 : Int} (hC : Call X mX9_noOne [vi x1] (up2 M 200 0 (0 : Int)) Q) (k : ∀ (z : Int) (M1 : Mem), Q (some (vi z)) M1 → Runs X mX9_rate 9 [(0, vr 200), (1, vi x1), (2, vi x2), (3, vi x3), (4, vi x4)] [vi z] M1 P) : Runs X mX9_rate 0 [(0, vr 200), (1, vi x1), (2, vi x2), (3, vi x3), (4, vi x4)] [] M P := by
  refine Runs.aload_n (j := 0) dX9_rate_0 rfl ?_
  refine Runs.iconst dX9_rate_1 (by decide) ?_
  refine Runs.puti (ci := 9) (j := 0) (C := RX9) (T := TX9) (N := 48) dX9_rate_2 rfl cls_X9 (by decide) rfl fl_X9_108 rfl rfl ?_
  refine Runs.iload_n (j := 1) dX9_rate_5 rfl ?_
  refine Runs.callSi (y := mX9_noOne) (n := 1) (as := [vi x1]) (st := []) dX9_rate_6 oc_X9_noOne sm_X9_noOne ml_X9_190 rfl ⟨(Nat.le_of_ble_eq_true rfl), (Nat.le_of_ble_eq_true rfl)⟩ (Nat.le_of_ble_eq_true rfl) (Nat.le_of_ble_eq_true rfl) (Or.inr rfl) hC (fun z M1 hQ => ?_)
  exact k z M1 hQ
theorem kX9_rate_9 {X : Scr} {M : Mem} {P : Option AV → Mem → Prop} {x1 x2 x3 x4 xs0 : Int} (k1 : xs0 ≠ 0 → Runs X mX9_rate 19 [] [] M P) (k2 : xs0 = 0 → Runs X mX9_rate 12 [(0, vr 200), (1, vi x1), (2, vi x2), (3, vi x3), (4, vi x4)] [] M P) : Runs X mX9_rate 9 [(0, vr 200), (1, vi x1), (2, vi x2), (3, vi x3), (4, vi x4)] [vi xs0] M P := by
  refine Runs.if_ne (tgt := 19) dX9_rate_9 (by decide) (fun h => ?_) (fun h => ?_)
  · refine Runs.picks (loc' := []) [] rfl ?_
    exact k1 h
  · exact k2 h
theorem kX9_rate_12 {X : Scr} {M : Mem} {P Q : Option AV → Mem → Prop} {x1 x2 x3 x4 : Int} (hC : Call X mX9_noOne [vi x2] M Q) (k : ∀ (z : Int) (M1 : Mem), Q (some (vi z)) M1 → Runs X mX9_rate 16 [(0, vr 200), (1, vi x1), (2, vi x2), (3, vi x3), (4, vi x4)] [vi z] M1 P) : Runs X mX9_rate 12 [(0, vr 200), (1, vi x1), (2, vi x2), (3, vi x3), (4, vi x4)] [] M P := by
  refine Runs.iload_n (j := 2) dX9_rate_12 rfl ?_
  refine Runs.callSi (y := mX9_noOne) (n := 1) (as := [vi x2]) (st := []) dX9_rate_13 oc_X9_noOne sm_X9_noOne ml_X9_190 rfl ⟨(Nat.le_of_ble_eq_true rfl), (Nat.le_of_ble_eq_true rfl)⟩ (Nat.le_of_ble_eq_true rfl) (Nat.le_of_ble_eq_true rfl) (Or.inr rfl) hC (fun z M1 hQ => ?_)
  exact k z M1 hQ
theorem kX9_rate_16 {X : Scr} {M : Mem} {P : Option AV → Mem → Prop} {x1 x2 x3 x4 xs0 : Int} (k1 : xs0 = 0 → Runs X mX9_rate 21 [(0, vr 200), (1, vi x1), (2, vi x2), (3, vi x3), (4, vi x4)] [] M P) (k2 : xs0 ≠ 0 → Runs X mX9_rate 19 [] [] M P) : Runs X mX9_rate 16 [(0, vr 200), (1, vi x1), (2, vi x2), (3, vi x3), (4, vi x4)] [vi xs0] M P := by
  refine Runs.if_eq (tgt := 21) dX9_rate_16 (by decide) (fun h => ?_) (fun h => ?_)
  · exact k1 h
  · refine Runs.picks (loc' := []) [] rfl ?_
    exact k2 h
theorem kX9_rate_19 {X : Scr} {M : Mem} {P : Option AV → Mem → Prop} (k : P (some (vi (-1 : Int))) M) : Runs X mX9_rate 19 [] [] M P := by
  refine Runs.iconst dX9_rate_19 (by decide) ?_
  exact Runs.reti dX9_rate_20 rfl k
theorem kX9_rate_21 {X : Scr} {M : Mem} {P : Option AV → Mem → Prop} {x1 x2 x3 x4 : Int} (k1 : x1 = x2 → Runs X mX9_rate 51 [] [] M P) (k2 : x1 ≠ x2 → Runs X mX9_rate 26 [(0, vr 200), (1, vi x1), (2, vi x2), (3, vi x3), (4, vi x4)] [] M P) : Runs X mX9_rate 21 [(0, vr 200), (1, vi x1), (2, vi x2), (3, vi x3), (4, vi x4)] [] M P := by
  refine Runs.iload_n (j := 1) dX9_rate_21 rfl ?_
  refine Runs.iload_n (j := 2) dX9_rate_22 rfl ?_
  refine Runs.icmp_eq (tgt := 51) dX9_rate_23 (by decide) (fun h => ?_) (fun h => ?_)
  · refine Runs.picks (loc' := []) [] rfl ?_
    exact k1 h
  · exact k2 h
theorem kX9_rate_26 {X : Scr} {M : Mem} {P Q : Option AV → Mem → Prop} {x1 x2 x3 x4 : Int} (hC : Call X mX9_in [vl x3, vl (1 : Int), vl (99 : Int)] M Q) (k : ∀ (z : Int) (M1 : Mem), Q (some (vi z)) M1 → Runs X mX9_rate 35 [(0, vr 200), (1, vi x1), (2, vi x2), (3, vi x3), (4, vi x4)] [vi z] M1 P) : Runs X mX9_rate 26 [(0, vr 200), (1, vi x1), (2, vi x2), (3, vi x3), (4, vi x4)] [] M P := by
  refine Runs.iload_n (j := 3) dX9_rate_26 rfl ?_
  refine Runs.i2l dX9_rate_27 ?_
  refine Runs.lconst (z := 1) dX9_rate_28 rfl (by decide) ?_
  refine Runs.ldc2 (z := 99) dX9_rate_29 w5_38 (by decide) (by decide) ?_
  refine Runs.callSi (y := mX9_in) (n := 3) (as := [vl x3, vl (1 : Int), vl (99 : Int)]) (st := []) dX9_rate_32 oc_X9_in sm_X9_in ml_X9_114 rfl ⟨(Nat.le_of_ble_eq_true rfl), (Nat.le_of_ble_eq_true rfl)⟩ (Nat.le_of_ble_eq_true rfl) (Nat.le_of_ble_eq_true rfl) (Or.inr rfl) hC (fun z M1 hQ => ?_)
  exact k z M1 hQ
theorem kX9_rate_35 {X : Scr} {M : Mem} {P : Option AV → Mem → Prop} {x1 x2 x3 x4 xs0 : Int} (k1 : xs0 = 0 → Runs X mX9_rate 51 [] [] M P) (k2 : xs0 ≠ 0 → Runs X mX9_rate 38 [(0, vr 200), (1, vi x1), (2, vi x2), (3, vi x3), (4, vi x4)] [] M P) : Runs X mX9_rate 35 [(0, vr 200), (1, vi x1), (2, vi x2), (3, vi x3), (4, vi x4)] [vi xs0] M P := by
  refine Runs.if_eq (tgt := 51) dX9_rate_35 (by decide) (fun h => ?_) (fun h => ?_)
  · refine Runs.picks (loc' := []) [] rfl ?_
    exact k1 h
  · exact k2 h
theorem kX9_rate_38 {X : Scr} {M : Mem} {P Q : Option AV → Mem → Prop} {x1 x2 x3 x4 : Int} (hC : Call X mX9_in [vl x4, vl (1 : Int), vl (99 : Int)] M Q) (k : ∀ (z : Int) (M1 : Mem), Q (some (vi z)) M1 → Runs X mX9_rate 48 [(0, vr 200), (1, vi x1), (2, vi x2), (3, vi x3), (4, vi x4)] [vi z] M1 P) : Runs X mX9_rate 38 [(0, vr 200), (1, vi x1), (2, vi x2), (3, vi x3), (4, vi x4)] [] M P := by
  refine Runs.iload (j := 4) dX9_rate_38 rfl ?_
  refine Runs.i2l dX9_rate_40 ?_
  refine Runs.lconst (z := 1) dX9_rate_41 rfl (by decide) ?_
  refine Runs.ldc2 (z := 99) dX9_rate_42 w5_38 (by decide) (by decide) ?_
  refine Runs.callSi (y := mX9_in) (n := 3) (as := [vl x4, vl (1 : Int), vl (99 : Int)]) (st := []) dX9_rate_45 oc_X9_in sm_X9_in ml_X9_114 rfl ⟨(Nat.le_of_ble_eq_true rfl), (Nat.le_of_ble_eq_true rfl)⟩ (Nat.le_of_ble_eq_true rfl) (Nat.le_of_ble_eq_true rfl) (Or.inr rfl) hC (fun z M1 hQ => ?_)
  exact k z M1 hQ
theorem kX9_rate_48 {X : Scr} {M : Mem} {P : Option AV → Mem → Prop} {x1 x2 x3 x4 xs0 : Int} (k1 : xs0 ≠ 0 → Runs X mX9_rate 54 [(0, vr 200), (1, vi x1), (2, vi x2), (3, vi x3), (4, vi x4)] [] M P) (k2 : xs0 = 0 → Runs X mX9_rate 51 [] [] M P) : Runs X mX9_rate 48 [(0, vr 200), (1, vi x1), (2, vi x2), (3, vi x3), (4, vi x4)] [vi xs0] M P := by
  refine Runs.if_ne (tgt := 54) dX9_rate_48 (by decide) (fun h => ?_) (fun h => ?_)
  · exact k1 h
  · refine Runs.picks (loc' := []) [] rfl ?_
    exact k2 h
theorem kX9_rate_51 {X : Scr} {M : Mem} {P : Option AV → Mem → Prop} (k : P (some (vi (-2 : Int))) M) : Runs X mX9_rate 51 [] [] M P := by
  refine Runs.bipush dX9_rate_51 (by decide) (by decide) ?_
  exact Runs.reti dX9_rate_53 rfl k
theorem kX9_rate_54 {X : Scr} {M : Mem} {P : Option AV → Mem → Prop} {x1 x2 x3 x4 : Int} (k : P (some (vi (((100 : Int) * (M 331 ((((4 : Int) * x1) + x2)).toNat)) + (M 332 ((((4 : Int) * x1) + x2)).toNat)))) (up2 (up2 M 331 ((((4 : Int) * x1) + x2)).toNat x3) 332 ((((4 : Int) * x1) + x2)).toNat x4)) (h1 : -2147483648 ≤ ((4 : Int) * x1) ∧ ((4 : Int) * x1) ≤ 2147483647 := by omega) (h2 : -2147483648 ≤ (((4 : Int) * x1) + x2) ∧ (((4 : Int) * x1) + x2) ≤ 2147483647 := by omega) (h3 : 0 ≤ (((4 : Int) * x1) + x2) := by omega) (h4 : (((4 : Int) * x1) + x2) < ((16 : Nat) : Int) := by omega) (h5 : -2147483648 ≤ ((100 : Int) * (M 331 ((((4 : Int) * x1) + x2)).toNat)) ∧ ((100 : Int) * (M 331 ((((4 : Int) * x1) + x2)).toNat)) ≤ 2147483647 := by omega) (h6 : -2147483648 ≤ (((100 : Int) * (M 331 ((((4 : Int) * x1) + x2)).toNat)) + (M 332 ((((4 : Int) * x1) + x2)).toNat)) ∧ (((100 : Int) * (M 331 ((((4 : Int) * x1) + x2)).toNat)) + (M 332 ((((4 : Int) * x1) + x2)).toNat)) ≤ 2147483647 := by omega) : Runs X mX9_rate 54 [(0, vr 200), (1, vi x1), (2, vi x2), (3, vi x3), (4, vi x4)] [] M P := by
  refine Runs.bipush dX9_rate_54 (by decide) (by decide) ?_
  refine Runs.aload_n (j := 0) dX9_rate_56 rfl ?_
  refine Runs.getr (o' := 331) (ci := 9) (j := 31) (C := RX9) (T := TX9) (N := 48) dX9_rate_57 rfl cls_X9 (by decide) rfl fl_X9_75 rfl ⟨rfl, "", Or.inr ⟨_, rfl⟩⟩ ?_
  refine Runs.iconst dX9_rate_60 (by decide) ?_
  refine Runs.iload_n (j := 1) dX9_rate_61 rfl ?_
  refine Runs.imul dX9_rate_62 h1 ?_
  refine Runs.iload_n (j := 2) dX9_rate_63 rfl ?_
  refine Runs.iadd dX9_rate_64 h2 ?_
  refine Runs.iald dX9_rate_65 rfl h3 h4 ?_
  refine Runs.imul dX9_rate_66 h5 ?_
  refine Runs.aload_n (j := 0) dX9_rate_67 rfl ?_
  refine Runs.getr (o' := 332) (ci := 9) (j := 32) (C := RX9) (T := TX9) (N := 48) dX9_rate_68 rfl cls_X9 (by decide) rfl fl_X9_78 rfl ⟨rfl, "", Or.inr ⟨_, rfl⟩⟩ ?_
  refine Runs.iconst dX9_rate_71 (by decide) ?_
  refine Runs.iload_n (j := 1) dX9_rate_72 rfl ?_
  refine Runs.imul dX9_rate_73 h1 ?_
  refine Runs.iload_n (j := 2) dX9_rate_74 rfl ?_
  refine Runs.iadd dX9_rate_75 h2 ?_
  refine Runs.iald dX9_rate_76 rfl h3 h4 ?_
  refine Runs.iadd dX9_rate_77 h6 ?_
  refine Runs.istore (loc' := [(0, vr 200), (1, vi x1), (2, vi x2), (3, vi x3), (4, vi x4), (5, vi (((100 : Int) * (M 331 ((((4 : Int) * x1) + x2)).toNat)) + (M 332 ((((4 : Int) * x1) + x2)).toNat)))]) dX9_rate_78 (by decide) rfl ?_
  refine Runs.aload_n (j := 0) dX9_rate_80 rfl ?_
  refine Runs.getr (o' := 331) (ci := 9) (j := 31) (C := RX9) (T := TX9) (N := 48) dX9_rate_81 rfl cls_X9 (by decide) rfl fl_X9_75 rfl ⟨rfl, "", Or.inr ⟨_, rfl⟩⟩ ?_
  refine Runs.iconst dX9_rate_84 (by decide) ?_
  refine Runs.iload_n (j := 1) dX9_rate_85 rfl ?_
  refine Runs.imul dX9_rate_86 h1 ?_
  refine Runs.iload_n (j := 2) dX9_rate_87 rfl ?_
  refine Runs.iadd dX9_rate_88 h2 ?_
  refine Runs.iload_n (j := 3) dX9_rate_89 rfl ?_
  refine Runs.iast dX9_rate_90 rfl h3 h4 ?_
  refine Runs.aload_n (j := 0) dX9_rate_91 rfl ?_
  refine Runs.getr (o' := 332) (ci := 9) (j := 32) (C := RX9) (T := TX9) (N := 48) dX9_rate_92 rfl cls_X9 (by decide) rfl fl_X9_78 rfl ⟨rfl, "", Or.inr ⟨_, rfl⟩⟩ ?_
  refine Runs.iconst dX9_rate_95 (by decide) ?_
  refine Runs.iload_n (j := 1) dX9_rate_96 rfl ?_
  refine Runs.imul dX9_rate_97 h1 ?_
  refine Runs.iload_n (j := 2) dX9_rate_98 rfl ?_
  refine Runs.iadd dX9_rate_99 h2 ?_
  refine Runs.iload (j := 4) dX9_rate_100 rfl ?_
  refine Runs.iast dX9_rate_102 rfl h3 h4 ?_
  refine Runs.iload (j := 5) dX9_rate_103 rfl ?_
  exact Runs.reti dX9_rate_105 rfl k
theorem kX9_layRing_0 {X : Scr} {M : Mem} {P : Option AV → Mem → Prop} {x1 x2 : Int} (k : Runs X mX9_layRing 10 [(0, vr 200), (2, vi x2), (3, vi x1), (4, vi (1 : Int)), (5, vi (x2 - (1 : Int)))] [] M P) (h1 : -2147483648 ≤ (x2 - (1 : Int)) ∧ (x2 - (1 : Int)) ≤ 2147483647 := by omega) : Runs X mX9_layRing 0 [(0, vr 200), (1, vi x1), (2, vi x2)] [] M P := by
  refine Runs.iload_n (j := 1) dX9_layRing_0 rfl ?_
  refine Runs.istore_n (loc' := [(0, vr 200), (1, vi x1), (2, vi x2), (3, vi x1)]) dX9_layRing_1 rfl (by decide) rfl ?_
  refine Runs.iconst dX9_layRing_2 (by decide) ?_
  refine Runs.istore (loc' := [(0, vr 200), (1, vi x1), (2, vi x2), (3, vi x1), (4, vi (1 : Int))]) dX9_layRing_3 (by decide) rfl ?_
  refine Runs.iload_n (j := 2) dX9_layRing_5 rfl ?_
  refine Runs.iconst dX9_layRing_6 (by decide) ?_
  refine Runs.isub dX9_layRing_7 h1 ?_
  refine Runs.istore (loc' := [(0, vr 200), (1, vi x1), (2, vi x2), (3, vi x1), (4, vi (1 : Int)), (5, vi (x2 - (1 : Int)))]) dX9_layRing_8 (by decide) rfl ?_
  refine Runs.picks (loc' := [(0, vr 200), (2, vi x2), (3, vi x1), (4, vi (1 : Int)), (5, vi (x2 - (1 : Int)))]) [0, 2, 3, 4, 5] rfl ?_
  exact k
theorem kX9_layRing_10 {X : Scr} {M : Mem} {P : Option AV → Mem → Prop} {x2 x3 x4 x5 : Int} (k1 : x5 < 0 → Runs X mX9_layRing 35 [(0, vr 200), (2, vi x2), (4, vi x4)] [] M P) (k2 : 0 ≤ x5 → Runs X mX9_layRing 15 [(0, vr 200), (2, vi x2), (3, vi x3), (4, vi x4), (5, vi x5)] [] M P) : Runs X mX9_layRing 10 [(0, vr 200), (2, vi x2), (3, vi x3), (4, vi x4), (5, vi x5)] [] M P := by
  refine Runs.iload (j := 4) dX9_layRing_10 rfl ?_
  refine Runs.if_lt (tgt := 35) dX9_layRing_12 (by decide) (fun h => ?_) (fun h => ?_)
  · refine Runs.picks (loc' := [(0, vr 200), (2, vi x2), (4, vi x4)]) [0, 1, 3] rfl ?_
    exact k1 h
  · exact k2 h
theorem kX9_layRing_15 {X : Scr} {M : Mem} {P : Option AV → Mem → Prop} {x2 x3 x4 x5 : Int} (k : Runs X mX9_layRing 10 [(0, vr 200), (2, vi x2), (3, vi (x3 / (4 : Int))), (4, vi x4), (5, vi (x5 + (-1 : Int)))] [] (up2 M 343 (x5).toNat (x3 % (4 : Int))) P) (h1 : 0 ≤ x3 := by omega) (h2 : 0 < (4 : Int) := by omega) (h3 : 0 ≤ x5 := by omega) (h4 : x5 < ((4 : Nat) : Int) := by omega) (h5 : -2147483648 ≤ (x5 + (-1 : Int)) ∧ (x5 + (-1 : Int)) ≤ 2147483647 := by omega) : Runs X mX9_layRing 15 [(0, vr 200), (2, vi x2), (3, vi x3), (4, vi x4), (5, vi x5)] [] M P := by
  refine Runs.aload_n (j := 0) dX9_layRing_15 rfl ?_
  refine Runs.getr (o' := 343) (ci := 9) (j := 43) (C := RX9) (T := TX9) (N := 48) dX9_layRing_16 rfl cls_X9 (by decide) rfl fl_X9_102 rfl ⟨rfl, "", Or.inr ⟨_, rfl⟩⟩ ?_
  refine Runs.iload (j := 4) dX9_layRing_19 rfl ?_
  refine Runs.iload_n (j := 2) dX9_layRing_21 rfl ?_
  refine Runs.iconst dX9_layRing_22 (by decide) ?_
  refine Runs.irem dX9_layRing_23 h1 h2 ?_
  refine Runs.iast dX9_layRing_24 rfl h3 h4 ?_
  refine Runs.iload_n (j := 2) dX9_layRing_25 rfl ?_
  refine Runs.iconst dX9_layRing_26 (by decide) ?_
  refine Runs.idiv dX9_layRing_27 h1 h2 ?_
  refine Runs.istore_n (loc' := [(0, vr 200), (2, vi x2), (3, vi (x3 / (4 : Int))), (4, vi x4), (5, vi x5)]) dX9_layRing_28 rfl (by decide) rfl ?_
  refine Runs.iinc (k := 4) (loc' := [(0, vr 200), (2, vi x2), (3, vi (x3 / (4 : Int))), (4, vi x4), (5, vi (x5 + (-1 : Int)))]) dX9_layRing_29 rfl h5 (by decide) rfl ?_
  refine Runs.goto (tgt := 10) dX9_layRing_32 (by decide) ?_
  exact k
theorem kX9_layRing_35 {X : Scr} {M : Mem} {P : Option AV → Mem → Prop} {x2 x4 : Int} (k : Runs X mX9_layRing 38 [(0, vr 200), (2, vi x2), (4, vi x4), (5, vi (0 : Int))] [] M P) : Runs X mX9_layRing 35 [(0, vr 200), (2, vi x2), (4, vi x4)] [] M P := by
  refine Runs.iconst dX9_layRing_35 (by decide) ?_
  refine Runs.istore (loc' := [(0, vr 200), (2, vi x2), (4, vi x4), (5, vi (0 : Int))]) dX9_layRing_36 (by decide) rfl ?_
  exact k
theorem kX9_layRing_38 {X : Scr} {M : Mem} {P : Option AV → Mem → Prop} {x2 x4 x5 : Int} (k1 : x2 ≤ x5 → Runs X mX9_layRing 128 [(4, vi x4)] [] M P) (k2 : x5 < x2 → Runs X mX9_layRing 44 [(0, vr 200), (2, vi x2), (4, vi x4), (5, vi x5)] [] M P) : Runs X mX9_layRing 38 [(0, vr 200), (2, vi x2), (4, vi x4), (5, vi x5)] [] M P := by
  refine Runs.iload (j := 3) dX9_layRing_38 rfl ?_
  refine Runs.iload_n (j := 1) dX9_layRing_40 rfl ?_
  refine Runs.icmp_ge (tgt := 128) dX9_layRing_41 (by decide) (fun h => ?_) (fun h => ?_)
  · refine Runs.picks (loc' := [(4, vi x4)]) [2] rfl ?_
    exact k1 h
  · exact k2 h
theorem kX9_layRing_44 {X : Scr} {M : Mem} {P : Option AV → Mem → Prop} {x2 x4 x5 : Int} (k1 : x4 = 0 → Runs X mX9_layRing 74 [(0, vr 200), (2, vi x2), (5, vi x5)] [] M P) (k2 : x4 ≠ 0 → Runs X mX9_layRing 49 [(0, vr 200), (2, vi x2), (5, vi x5)] [] M P) : Runs X mX9_layRing 44 [(0, vr 200), (2, vi x2), (4, vi x4), (5, vi x5)] [] M P := by
  refine Runs.iload (j := 2) dX9_layRing_44 rfl ?_
  refine Runs.if_eq (tgt := 74) dX9_layRing_46 (by decide) (fun h => ?_) (fun h => ?_)
  · refine Runs.picks (loc' := [(0, vr 200), (2, vi x2), (5, vi x5)]) [0, 1, 3] rfl ?_
    exact k1 h
  · refine Runs.picks (loc' := [(0, vr 200), (2, vi x2), (5, vi x5)]) [0, 1, 3] rfl ?_
    exact k2 h
theorem kX9_layRing_49 {X : Scr} {M : Mem} {P : Option AV → Mem → Prop} {x2 x5 : Int} (k1 : x5 = 0 → Runs X mX9_layRing 70 [(0, vr 200), (2, vi x2), (5, vi x5)] [] M P) (k2 : x5 ≠ 0 → Runs X mX9_layRing 54 [(0, vr 200), (2, vi x2), (5, vi x5)] [] M P) : Runs X mX9_layRing 49 [(0, vr 200), (2, vi x2), (5, vi x5)] [] M P := by
  refine Runs.iload (j := 2) dX9_layRing_49 rfl ?_
  refine Runs.if_eq (tgt := 70) dX9_layRing_51 (by decide) (fun h => ?_) (fun h => ?_)
  · exact k1 h
  · exact k2 h
theorem kX9_layRing_54 {X : Scr} {M : Mem} {P : Option AV → Mem → Prop} {x2 x5 : Int} (k1 : (M 343 (x5).toNat) ≤ (M 343 ((0 : Int)).toNat) → Runs X mX9_layRing 74 [(0, vr 200), (2, vi x2), (5, vi x5)] [] M P) (k2 : (M 343 ((0 : Int)).toNat) < (M 343 (x5).toNat) → Runs X mX9_layRing 70 [(0, vr 200), (2, vi x2), (5, vi x5)] [] M P) (h1 : 0 ≤ x5 := by omega) (h2 : x5 < ((4 : Nat) : Int) := by omega) (h3 : 0 ≤ (0 : Int) := by omega) (h4 : (0 : Int) < ((4 : Nat) : Int) := by omega) : Runs X mX9_layRing 54 [(0, vr 200), (2, vi x2), (5, vi x5)] [] M P := by
  refine Runs.aload_n (j := 0) dX9_layRing_54 rfl ?_
  refine Runs.getr (o' := 343) (ci := 9) (j := 43) (C := RX9) (T := TX9) (N := 48) dX9_layRing_55 rfl cls_X9 (by decide) rfl fl_X9_102 rfl ⟨rfl, "", Or.inr ⟨_, rfl⟩⟩ ?_
  refine Runs.iload (j := 2) dX9_layRing_58 rfl ?_
  refine Runs.iald dX9_layRing_60 rfl h1 h2 ?_
  refine Runs.aload_n (j := 0) dX9_layRing_61 rfl ?_
  refine Runs.getr (o' := 343) (ci := 9) (j := 43) (C := RX9) (T := TX9) (N := 48) dX9_layRing_62 rfl cls_X9 (by decide) rfl fl_X9_102 rfl ⟨rfl, "", Or.inr ⟨_, rfl⟩⟩ ?_
  refine Runs.iconst dX9_layRing_65 (by decide) ?_
  refine Runs.iald dX9_layRing_66 rfl h3 h4 ?_
  refine Runs.icmp_le (tgt := 74) dX9_layRing_67 (by decide) (fun h => ?_) (fun h => ?_)
  · exact k1 h
  · exact k2 h
theorem kX9_layRing_70 {X : Scr} {M : Mem} {P : Option AV → Mem → Prop} {x2 x5 : Int} (k : Runs X mX9_layRing 75 [(0, vr 200), (2, vi x2), (5, vi x5)] [vi (1 : Int)] M P) : Runs X mX9_layRing 70 [(0, vr 200), (2, vi x2), (5, vi x5)] [] M P := by
  refine Runs.iconst dX9_layRing_70 (by decide) ?_
  refine Runs.goto (tgt := 75) dX9_layRing_71 (by decide) ?_
  exact k
theorem kX9_layRing_74 {X : Scr} {M : Mem} {P : Option AV → Mem → Prop} {x2 x5 : Int} (k : Runs X mX9_layRing 75 [(0, vr 200), (2, vi x2), (5, vi x5)] [vi (0 : Int)] M P) : Runs X mX9_layRing 74 [(0, vr 200), (2, vi x2), (5, vi x5)] [] M P := by
  refine Runs.iconst dX9_layRing_74 (by decide) ?_
  exact k
theorem kX9_layRing_75 {X : Scr} {M : Mem} {P : Option AV → Mem → Prop} {x2 x5 xs0 : Int} (k : Runs X mX9_layRing 80 [(0, vr 200), (2, vi x2), (4, vi xs0), (5, vi x5), (6, vi (0 : Int))] [] M P) : Runs X mX9_layRing 75 [(0, vr 200), (2, vi x2), (5, vi x5)] [vi xs0] M P := by
  refine Runs.istore (loc' := [(0, vr 200), (2, vi x2), (4, vi xs0), (5, vi x5)]) dX9_layRing_75 (by decide) rfl ?_
  refine Runs.iconst dX9_layRing_77 (by decide) ?_
  refine Runs.istore (loc' := [(0, vr 200), (2, vi x2), (4, vi xs0), (5, vi x5), (6, vi (0 : Int))]) dX9_layRing_78 (by decide) rfl ?_
  exact k
theorem kX9_layRing_80 {X : Scr} {M : Mem} {P : Option AV → Mem → Prop} {x2 x4 x5 x6 : Int} (k1 : x5 ≤ x6 → Runs X mX9_layRing 122 [(0, vr 200), (2, vi x2), (4, vi x4), (5, vi x5)] [] M P) (k2 : x6 < x5 → Runs X mX9_layRing 87 [(0, vr 200), (2, vi x2), (4, vi x4), (5, vi x5), (6, vi x6)] [] M P) : Runs X mX9_layRing 80 [(0, vr 200), (2, vi x2), (4, vi x4), (5, vi x5), (6, vi x6)] [] M P := by
  refine Runs.iload (j := 4) dX9_layRing_80 rfl ?_
  refine Runs.iload (j := 3) dX9_layRing_82 rfl ?_
  refine Runs.icmp_ge (tgt := 122) dX9_layRing_84 (by decide) (fun h => ?_) (fun h => ?_)
  · refine Runs.picks (loc' := [(0, vr 200), (2, vi x2), (4, vi x4), (5, vi x5)]) [0, 1, 2, 3] rfl ?_
    exact k1 h
  · exact k2 h
theorem kX9_layRing_87 {X : Scr} {M : Mem} {P : Option AV → Mem → Prop} {x2 x4 x5 x6 : Int} (k1 : x4 = 0 → Runs X mX9_layRing 113 [(0, vr 200), (2, vi x2), (5, vi x5), (6, vi x6)] [] M P) (k2 : x4 ≠ 0 → Runs X mX9_layRing 92 [(0, vr 200), (2, vi x2), (5, vi x5), (6, vi x6)] [] M P) : Runs X mX9_layRing 87 [(0, vr 200), (2, vi x2), (4, vi x4), (5, vi x5), (6, vi x6)] [] M P := by
  refine Runs.iload (j := 2) dX9_layRing_87 rfl ?_
  refine Runs.if_eq (tgt := 113) dX9_layRing_89 (by decide) (fun h => ?_) (fun h => ?_)
  · refine Runs.picks (loc' := [(0, vr 200), (2, vi x2), (5, vi x5), (6, vi x6)]) [0, 1, 3, 4] rfl ?_
    exact k1 h
  · refine Runs.picks (loc' := [(0, vr 200), (2, vi x2), (5, vi x5), (6, vi x6)]) [0, 1, 3, 4] rfl ?_
    exact k2 h
theorem kX9_layRing_92 {X : Scr} {M : Mem} {P : Option AV → Mem → Prop} {x2 x5 x6 : Int} (k1 : (M 343 (x6).toNat) = (M 343 (x5).toNat) → Runs X mX9_layRing 113 [(0, vr 200), (2, vi x2), (5, vi x5), (6, vi x6)] [] M P) (k2 : (M 343 (x6).toNat) ≠ (M 343 (x5).toNat) → Runs X mX9_layRing 109 [(0, vr 200), (2, vi x2), (5, vi x5), (6, vi x6)] [] M P) (h1 : 0 ≤ x6 := by omega) (h2 : x6 < ((4 : Nat) : Int) := by omega) (h3 : 0 ≤ x5 := by omega) (h4 : x5 < ((4 : Nat) : Int) := by omega) : Runs X mX9_layRing 92 [(0, vr 200), (2, vi x2), (5, vi x5), (6, vi x6)] [] M P := by
  refine Runs.aload_n (j := 0) dX9_layRing_92 rfl ?_
  refine Runs.getr (o' := 343) (ci := 9) (j := 43) (C := RX9) (T := TX9) (N := 48) dX9_layRing_93 rfl cls_X9 (by decide) rfl fl_X9_102 rfl ⟨rfl, "", Or.inr ⟨_, rfl⟩⟩ ?_
  refine Runs.iload (j := 3) dX9_layRing_96 rfl ?_
  refine Runs.iald dX9_layRing_98 rfl h1 h2 ?_
  refine Runs.aload_n (j := 0) dX9_layRing_99 rfl ?_
  refine Runs.getr (o' := 343) (ci := 9) (j := 43) (C := RX9) (T := TX9) (N := 48) dX9_layRing_100 rfl cls_X9 (by decide) rfl fl_X9_102 rfl ⟨rfl, "", Or.inr ⟨_, rfl⟩⟩ ?_
  refine Runs.iload (j := 2) dX9_layRing_103 rfl ?_
  refine Runs.iald dX9_layRing_105 rfl h3 h4 ?_
  refine Runs.icmp_eq (tgt := 113) dX9_layRing_106 (by decide) (fun h => ?_) (fun h => ?_)
  · exact k1 h
  · exact k2 h
theorem kX9_layRing_109 {X : Scr} {M : Mem} {P : Option AV → Mem → Prop} {x2 x5 x6 : Int} (k : Runs X mX9_layRing 114 [(0, vr 200), (2, vi x2), (5, vi x5), (6, vi x6)] [vi (1 : Int)] M P) : Runs X mX9_layRing 109 [(0, vr 200), (2, vi x2), (5, vi x5), (6, vi x6)] [] M P := by
  refine Runs.iconst dX9_layRing_109 (by decide) ?_
  refine Runs.goto (tgt := 114) dX9_layRing_110 (by decide) ?_
  exact k
theorem kX9_layRing_113 {X : Scr} {M : Mem} {P : Option AV → Mem → Prop} {x2 x5 x6 : Int} (k : Runs X mX9_layRing 114 [(0, vr 200), (2, vi x2), (5, vi x5), (6, vi x6)] [vi (0 : Int)] M P) : Runs X mX9_layRing 113 [(0, vr 200), (2, vi x2), (5, vi x5), (6, vi x6)] [] M P := by
  refine Runs.iconst dX9_layRing_113 (by decide) ?_
  exact k
theorem kX9_layRing_114 {X : Scr} {M : Mem} {P : Option AV → Mem → Prop} {x2 x5 x6 xs0 : Int} (k : Runs X mX9_layRing 80 [(0, vr 200), (2, vi x2), (4, vi xs0), (5, vi x5), (6, vi (x6 + (1 : Int)))] [] M P) (h1 : -2147483648 ≤ (x6 + (1 : Int)) ∧ (x6 + (1 : Int)) ≤ 2147483647 := by omega) : Runs X mX9_layRing 114 [(0, vr 200), (2, vi x2), (5, vi x5), (6, vi x6)] [vi xs0] M P := by
  refine Runs.istore (loc' := [(0, vr 200), (2, vi x2), (4, vi xs0), (5, vi x5), (6, vi x6)]) dX9_layRing_114 (by decide) rfl ?_
  refine Runs.iinc (k := 4) (loc' := [(0, vr 200), (2, vi x2), (4, vi xs0), (5, vi x5), (6, vi (x6 + (1 : Int)))]) dX9_layRing_116 rfl h1 (by decide) rfl ?_
  refine Runs.goto (tgt := 80) dX9_layRing_119 (by decide) ?_
  exact k
theorem kX9_layRing_122 {X : Scr} {M : Mem} {P : Option AV → Mem → Prop} {x2 x4 x5 : Int} (k : Runs X mX9_layRing 38 [(0, vr 200), (2, vi x2), (4, vi x4), (5, vi (x5 + (1 : Int)))] [] M P) (h1 : -2147483648 ≤ (x5 + (1 : Int)) ∧ (x5 + (1 : Int)) ≤ 2147483647 := by omega) : Runs X mX9_layRing 122 [(0, vr 200), (2, vi x2), (4, vi x4), (5, vi x5)] [] M P := by
  refine Runs.iinc (k := 3) (loc' := [(0, vr 200), (2, vi x2), (4, vi x4), (5, vi (x5 + (1 : Int)))]) dX9_layRing_122 rfl h1 (by decide) rfl ?_
  refine Runs.goto (tgt := 38) dX9_layRing_125 (by decide) ?_
  exact k
theorem kX9_layRing_128 {X : Scr} {M : Mem} {P : Option AV → Mem → Prop} {x4 : Int} (k : P (some (vi x4)) M) (h1 : 0 ≤ x4 ∧ x4 ≤ 1 := by omega) : Runs X mX9_layRing 128 [(4, vi x4)] [] M P := by
  refine Runs.iload (j := 0) dX9_layRing_128 rfl ?_
  exact Runs.retz dX9_layRing_130 rfl h1 k
theorem kX9_findRing_0 {X : Scr} {M : Mem} {P : Option AV → Mem → Prop} (k : Runs X mX9_findRing 12 [(0, vr 200), (1, vi (2 : Int))] [] (up2 (up2 M 200 45 (0 : Int)) 200 46 (1 : Int)) P) : Runs X mX9_findRing 0 [(0, vr 200)] [] M P := by
  refine Runs.aload_n (j := 0) dX9_findRing_0 rfl ?_
  refine Runs.lconst (z := 0) dX9_findRing_1 rfl (by decide) ?_
  refine Runs.putl (ci := 9) (j := 45) (C := RX9) (T := TX9) (N := 48) dX9_findRing_2 rfl cls_X9 (by decide) rfl fl_X9_279 rfl rfl ?_
  refine Runs.aload_n (j := 0) dX9_findRing_5 rfl ?_
  refine Runs.lconst (z := 1) dX9_findRing_6 rfl (by decide) ?_
  refine Runs.putl (ci := 9) (j := 46) (C := RX9) (T := TX9) (N := 48) dX9_findRing_7 rfl cls_X9 (by decide) rfl fl_X9_283 rfl rfl ?_
  refine Runs.iconst dX9_findRing_10 (by decide) ?_
  refine Runs.istore_n (loc' := [(0, vr 200), (1, vi (2 : Int))]) dX9_findRing_11 rfl (by decide) rfl ?_
  exact k
theorem kX9_findRing_12 {X : Scr} {M : Mem} {P : Option AV → Mem → Prop} {x1 : Int} (k1 : (5 : Int) ≤ x1 → Runs X mX9_findRing 178 [] [] M P) (k2 : x1 < (5 : Int) → Runs X mX9_findRing 17 [(0, vr 200), (1, vi x1)] [] M P) : Runs X mX9_findRing 12 [(0, vr 200), (1, vi x1)] [] M P := by
  refine Runs.iload_n (j := 1) dX9_findRing_12 rfl ?_
  refine Runs.iconst dX9_findRing_13 (by decide) ?_
  refine Runs.icmp_ge (tgt := 178) dX9_findRing_14 (by decide) (fun h => ?_) (fun h => ?_)
  · refine Runs.picks (loc' := []) [] rfl ?_
    exact k1 h
  · exact k2 h
theorem kX9_findRing_17 {X : Scr} {M : Mem} {P : Option AV → Mem → Prop} {x1 : Int} (k : Runs X mX9_findRing 19 [(0, vr 200), (1, vi x1), (2, vi (0 : Int))] [] M P) : Runs X mX9_findRing 17 [(0, vr 200), (1, vi x1)] [] M P := by
  refine Runs.iconst dX9_findRing_17 (by decide) ?_
  refine Runs.istore_n (loc' := [(0, vr 200), (1, vi x1), (2, vi (0 : Int))]) dX9_findRing_18 rfl (by decide) rfl ?_
  exact k
theorem kX9_findRing_19 {X : Scr} {M : Mem} {P : Option AV → Mem → Prop} {x1 x2 : Int} (k1 : (zshl (1 : Int) ((2 : Int) * x1)) ≤ x2 → Runs X mX9_findRing 172 [(0, vr 200), (1, vi x1)] [] M P) (k2 : x2 < (zshl (1 : Int) ((2 : Int) * x1)) → Runs X mX9_findRing 28 [(0, vr 200), (1, vi x1), (2, vi x2)] [] M P) (h1 : -2147483648 ≤ ((2 : Int) * x1) ∧ ((2 : Int) * x1) ≤ 2147483647 := by omega) : Runs X mX9_findRing 19 [(0, vr 200), (1, vi x1), (2, vi x2)] [] M P := by
  refine Runs.iload_n (j := 2) dX9_findRing_19 rfl ?_
  refine Runs.iconst dX9_findRing_20 (by decide) ?_
  refine Runs.iconst dX9_findRing_21 (by decide) ?_
  refine Runs.iload_n (j := 1) dX9_findRing_22 rfl ?_
  refine Runs.imul dX9_findRing_23 h1 ?_
  refine Runs.ishl dX9_findRing_24 ?_
  refine Runs.icmp_ge (tgt := 172) dX9_findRing_25 (by decide) (fun h => ?_) (fun h => ?_)
  · refine Runs.picks (loc' := [(0, vr 200), (1, vi x1)]) [0, 1] rfl ?_
    exact k1 h
  · exact k2 h
theorem kX9_findRing_28 {X : Scr} {M : Mem} {P Q : Option AV → Mem → Prop} {x1 x2 : Int} (hC : Call X mX9_layRing [vr 200, vi x2, vi x1] M Q) (k : ∀ (z : Int) (M1 : Mem), Q (some (vi z)) M1 → Runs X mX9_findRing 34 [(0, vr 200), (1, vi x1), (2, vi x2)] [vi z] M1 P) : Runs X mX9_findRing 28 [(0, vr 200), (1, vi x1), (2, vi x2)] [] M P := by
  refine Runs.aload_n (j := 0) dX9_findRing_28 rfl ?_
  refine Runs.iload_n (j := 2) dX9_findRing_29 rfl ?_
  refine Runs.iload_n (j := 1) dX9_findRing_30 rfl ?_
  refine Runs.callVi (y := mX9_layRing) (n := 2) (as := [vi x2, vi x1]) (st := []) (q := (RX9, TX9, 48)) dX9_findRing_31 oc_X9_layRing im_X9_layRing se_X9_layRing ml_X9_286 rfl ⟨(Nat.le_of_ble_eq_true rfl), (Nat.le_of_ble_eq_true rfl)⟩ (Nat.le_of_ble_eq_true rfl) (Nat.le_of_ble_eq_true rfl) rfl rfl rfl (Or.inr rfl) hC (fun z M1 hQ => ?_)
  exact k z M1 hQ
theorem kX9_findRing_34 {X : Scr} {M : Mem} {P : Option AV → Mem → Prop} {x1 x2 xs0 : Int} (k1 : xs0 = 0 → Runs X mX9_findRing 166 [(0, vr 200), (1, vi x1), (2, vi x2)] [] M P) (k2 : xs0 ≠ 0 → Runs X mX9_findRing 37 [(0, vr 200), (1, vi x1), (2, vi x2)] [] M P) : Runs X mX9_findRing 34 [(0, vr 200), (1, vi x1), (2, vi x2)] [vi xs0] M P := by
  refine Runs.if_eq (tgt := 166) dX9_findRing_34 (by decide) (fun h => ?_) (fun h => ?_)
  · exact k1 h
  · exact k2 h
theorem kX9_findRing_37 {X : Scr} {M : Mem} {P : Option AV → Mem → Prop} {x1 x2 : Int} (k : Runs X mX9_findRing 45 [(0, vr 200), (1, vi x1), (2, vi x2), (3, vl (1 : Int)), (5, vl (1 : Int)), (7, vi (0 : Int))] [] M P) : Runs X mX9_findRing 37 [(0, vr 200), (1, vi x1), (2, vi x2)] [] M P := by
  refine Runs.lconst (z := 1) dX9_findRing_37 rfl (by decide) ?_
  refine Runs.lstore_n (loc' := [(0, vr 200), (1, vi x1), (2, vi x2), (3, vl (1 : Int))]) dX9_findRing_38 rfl (by decide) rfl ?_
  refine Runs.lconst (z := 1) dX9_findRing_39 rfl (by decide) ?_
  refine Runs.lstore (loc' := [(0, vr 200), (1, vi x1), (2, vi x2), (3, vl (1 : Int)), (5, vl (1 : Int))]) dX9_findRing_40 (by decide) rfl ?_
  refine Runs.iconst dX9_findRing_42 (by decide) ?_
  refine Runs.istore (loc' := [(0, vr 200), (1, vi x1), (2, vi x2), (3, vl (1 : Int)), (5, vl (1 : Int)), (7, vi (0 : Int))]) dX9_findRing_43 (by decide) rfl ?_
  exact k
theorem kX9_findRing_45 {X : Scr} {M : Mem} {P : Option AV → Mem → Prop} {x1 x2 x3 x5 x7 : Int} (k1 : x1 ≤ x7 → Runs X mX9_findRing 104 [(0, vr 200), (1, vi x1), (2, vi x2), (3, vl x3), (5, vl x5)] [] M P) (k2 : x7 < x1 → Runs X mX9_findRing 51 [(0, vr 200), (1, vi x1), (2, vi x2), (3, vl x3), (5, vl x5), (7, vi x7)] [] M P) : Runs X mX9_findRing 45 [(0, vr 200), (1, vi x1), (2, vi x2), (3, vl x3), (5, vl x5), (7, vi x7)] [] M P := by
  refine Runs.iload (j := 5) dX9_findRing_45 rfl ?_
  refine Runs.iload_n (j := 1) dX9_findRing_47 rfl ?_
  refine Runs.icmp_ge (tgt := 104) dX9_findRing_48 (by decide) (fun h => ?_) (fun h => ?_)
  · refine Runs.picks (loc' := [(0, vr 200), (1, vi x1), (2, vi x2), (3, vl x3), (5, vl x5)]) [0, 1, 2, 3, 4] rfl ?_
    exact k1 h
  · exact k2 h
theorem kX9_findRing_51 {X : Scr} {M : Mem} {P : Option AV → Mem → Prop} {x1 x2 x3 x5 x7 : Int} (k : Runs X mX9_findRing 45 [(0, vr 200), (1, vi x1), (2, vi x2), (3, vl (x3 * (M 331 ((((4 : Int) * (M 343 (x7).toNat)) + (M 343 (((x7 + (1 : Int)) % x1)).toNat))).toNat))), (5, vl (x5 * (M 332 ((((4 : Int) * (M 343 (x7).toNat)) + (M 343 (((x7 + (1 : Int)) % x1)).toNat))).toNat))), (7, vi (x7 + (1 : Int)))] [] M P) (h1 : 0 ≤ x7 := by omega) (h2 : x7 < ((4 : Nat) : Int) := by omega) (h3 : -2147483648 ≤ ((4 : Int) * (M 343 (x7).toNat)) ∧ ((4 : Int) * (M 343 (x7).toNat)) ≤ 2147483647 := by omega) (h4 : -2147483648 ≤ (x7 + (1 : Int)) ∧ (x7 + (1 : Int)) ≤ 2147483647 := by omega) (h5 : 0 ≤ (x7 + (1 : Int)) := by omega) (h6 : 0 < x1 := by omega) (h7 : 0 ≤ ((x7 + (1 : Int)) % x1) := by omega) (h8 : ((x7 + (1 : Int)) % x1) < ((4 : Nat) : Int) := by omega) (h9 : -2147483648 ≤ (((4 : Int) * (M 343 (x7).toNat)) + (M 343 (((x7 + (1 : Int)) % x1)).toNat)) ∧ (((4 : Int) * (M 343 (x7).toNat)) + (M 343 (((x7 + (1 : Int)) % x1)).toNat)) ≤ 2147483647 := by omega) (h10 : 0 ≤ (((4 : Int) * (M 343 (x7).toNat)) + (M 343 (((x7 + (1 : Int)) % x1)).toNat)) := by omega) (h11 : (((4 : Int) * (M 343 (x7).toNat)) + (M 343 (((x7 + (1 : Int)) % x1)).toNat)) < ((16 : Nat) : Int) := by omega) (h12 : -9223372036854775808 ≤ (x3 * (M 331 ((((4 : Int) * (M 343 (x7).toNat)) + (M 343 (((x7 + (1 : Int)) % x1)).toNat))).toNat)) ∧ (x3 * (M 331 ((((4 : Int) * (M 343 (x7).toNat)) + (M 343 (((x7 + (1 : Int)) % x1)).toNat))).toNat)) ≤ 9223372036854775807 := by omega) (h13 : -9223372036854775808 ≤ (x5 * (M 332 ((((4 : Int) * (M 343 (x7).toNat)) + (M 343 (((x7 + (1 : Int)) % x1)).toNat))).toNat)) ∧ (x5 * (M 332 ((((4 : Int) * (M 343 (x7).toNat)) + (M 343 (((x7 + (1 : Int)) % x1)).toNat))).toNat)) ≤ 9223372036854775807 := by omega) : Runs X mX9_findRing 51 [(0, vr 200), (1, vi x1), (2, vi x2), (3, vl x3), (5, vl x5), (7, vi x7)] [] M P := by
  refine Runs.iconst dX9_findRing_51 (by decide) ?_
  refine Runs.aload_n (j := 0) dX9_findRing_52 rfl ?_
  refine Runs.getr (o' := 343) (ci := 9) (j := 43) (C := RX9) (T := TX9) (N := 48) dX9_findRing_53 rfl cls_X9 (by decide) rfl fl_X9_102 rfl ⟨rfl, "", Or.inr ⟨_, rfl⟩⟩ ?_
  refine Runs.iload (j := 5) dX9_findRing_56 rfl ?_
  refine Runs.iald dX9_findRing_58 rfl h1 h2 ?_
  refine Runs.imul dX9_findRing_59 h3 ?_
  refine Runs.aload_n (j := 0) dX9_findRing_60 rfl ?_
  refine Runs.getr (o' := 343) (ci := 9) (j := 43) (C := RX9) (T := TX9) (N := 48) dX9_findRing_61 rfl cls_X9 (by decide) rfl fl_X9_102 rfl ⟨rfl, "", Or.inr ⟨_, rfl⟩⟩ ?_
  refine Runs.iload (j := 5) dX9_findRing_64 rfl ?_
  refine Runs.iconst dX9_findRing_66 (by decide) ?_
  refine Runs.iadd dX9_findRing_67 h4 ?_
  refine Runs.iload_n (j := 1) dX9_findRing_68 rfl ?_
  refine Runs.irem dX9_findRing_69 h5 h6 ?_
  refine Runs.iald dX9_findRing_70 rfl h7 h8 ?_
  refine Runs.iadd dX9_findRing_71 h9 ?_
  refine Runs.istore (loc' := [(0, vr 200), (1, vi x1), (2, vi x2), (3, vl x3), (5, vl x5), (7, vi x7), (8, vi (((4 : Int) * (M 343 (x7).toNat)) + (M 343 (((x7 + (1 : Int)) % x1)).toNat)))]) dX9_findRing_72 (by decide) rfl ?_
  refine Runs.lload_n (j := 3) dX9_findRing_74 rfl ?_
  refine Runs.aload_n (j := 0) dX9_findRing_75 rfl ?_
  refine Runs.getr (o' := 331) (ci := 9) (j := 31) (C := RX9) (T := TX9) (N := 48) dX9_findRing_76 rfl cls_X9 (by decide) rfl fl_X9_75 rfl ⟨rfl, "", Or.inr ⟨_, rfl⟩⟩ ?_
  refine Runs.iload (j := 6) dX9_findRing_79 rfl ?_
  refine Runs.iald dX9_findRing_81 rfl h10 h11 ?_
  refine Runs.i2l dX9_findRing_82 ?_
  refine Runs.lmul dX9_findRing_83 h12 ?_
  refine Runs.lstore_n (loc' := [(0, vr 200), (1, vi x1), (2, vi x2), (3, vl (x3 * (M 331 ((((4 : Int) * (M 343 (x7).toNat)) + (M 343 (((x7 + (1 : Int)) % x1)).toNat))).toNat))), (5, vl x5), (7, vi x7), (8, vi (((4 : Int) * (M 343 (x7).toNat)) + (M 343 (((x7 + (1 : Int)) % x1)).toNat)))]) dX9_findRing_84 rfl (by decide) rfl ?_
  refine Runs.lload (j := 4) dX9_findRing_85 rfl ?_
  refine Runs.aload_n (j := 0) dX9_findRing_87 rfl ?_
  refine Runs.getr (o' := 332) (ci := 9) (j := 32) (C := RX9) (T := TX9) (N := 48) dX9_findRing_88 rfl cls_X9 (by decide) rfl fl_X9_78 rfl ⟨rfl, "", Or.inr ⟨_, rfl⟩⟩ ?_
  refine Runs.iload (j := 6) dX9_findRing_91 rfl ?_
  refine Runs.iald dX9_findRing_93 rfl h10 h11 ?_
  refine Runs.i2l dX9_findRing_94 ?_
  refine Runs.lmul dX9_findRing_95 h13 ?_
  refine Runs.lstore (loc' := [(0, vr 200), (1, vi x1), (2, vi x2), (3, vl (x3 * (M 331 ((((4 : Int) * (M 343 (x7).toNat)) + (M 343 (((x7 + (1 : Int)) % x1)).toNat))).toNat))), (5, vl (x5 * (M 332 ((((4 : Int) * (M 343 (x7).toNat)) + (M 343 (((x7 + (1 : Int)) % x1)).toNat))).toNat))), (7, vi x7), (8, vi (((4 : Int) * (M 343 (x7).toNat)) + (M 343 (((x7 + (1 : Int)) % x1)).toNat)))]) dX9_findRing_96 (by decide) rfl ?_
  refine Runs.iinc (k := 5) (loc' := [(0, vr 200), (1, vi x1), (2, vi x2), (3, vl (x3 * (M 331 ((((4 : Int) * (M 343 (x7).toNat)) + (M 343 (((x7 + (1 : Int)) % x1)).toNat))).toNat))), (5, vl (x5 * (M 332 ((((4 : Int) * (M 343 (x7).toNat)) + (M 343 (((x7 + (1 : Int)) % x1)).toNat))).toNat))), (7, vi (x7 + (1 : Int))), (8, vi (((4 : Int) * (M 343 (x7).toNat)) + (M 343 (((x7 + (1 : Int)) % x1)).toNat)))]) dX9_findRing_98 rfl h4 (by decide) rfl ?_
  refine Runs.goto (tgt := 45) dX9_findRing_101 (by decide) ?_
  refine Runs.picks (loc' := [(0, vr 200), (1, vi x1), (2, vi x2), (3, vl (x3 * (M 331 ((((4 : Int) * (M 343 (x7).toNat)) + (M 343 (((x7 + (1 : Int)) % x1)).toNat))).toNat))), (5, vl (x5 * (M 332 ((((4 : Int) * (M 343 (x7).toNat)) + (M 343 (((x7 + (1 : Int)) % x1)).toNat))).toNat))), (7, vi (x7 + (1 : Int)))]) [0, 1, 2, 3, 4, 5] rfl ?_
  exact k
theorem kX9_findRing_104 {X : Scr} {M : Mem} {P : Option AV → Mem → Prop} {x1 x2 x3 x5 : Int} (k1 : (x3 * (M 200 46)) ≤ ((M 200 45) * x5) → Runs X mX9_findRing 166 [(0, vr 200), (1, vi x1), (2, vi x2)] [] M P) (k2 : ((M 200 45) * x5) < (x3 * (M 200 46)) → Runs X mX9_findRing 121 [(0, vr 200), (1, vi x1), (2, vi x2), (3, vl x3), (5, vl x5)] [] M P) (h1 : -9223372036854775808 ≤ (x3 * (M 200 46)) ∧ (x3 * (M 200 46)) ≤ 9223372036854775807 := by omega) (h2 : -9223372036854775808 ≤ ((M 200 45) * x5) ∧ ((M 200 45) * x5) ≤ 9223372036854775807 := by omega) : Runs X mX9_findRing 104 [(0, vr 200), (1, vi x1), (2, vi x2), (3, vl x3), (5, vl x5)] [] M P := by
  refine Runs.lload_n (j := 3) dX9_findRing_104 rfl ?_
  refine Runs.aload_n (j := 0) dX9_findRing_105 rfl ?_
  refine Runs.getl (ci := 9) (j := 46) (C := RX9) (T := TX9) (N := 48) dX9_findRing_106 rfl cls_X9 (by decide) rfl fl_X9_283 rfl ?_
  refine Runs.lmul dX9_findRing_109 h1 ?_
  refine Runs.aload_n (j := 0) dX9_findRing_110 rfl ?_
  refine Runs.getl (ci := 9) (j := 45) (C := RX9) (T := TX9) (N := 48) dX9_findRing_111 rfl cls_X9 (by decide) rfl fl_X9_279 rfl ?_
  refine Runs.lload (j := 4) dX9_findRing_114 rfl ?_
  refine Runs.lmul dX9_findRing_116 h2 ?_
  refine Runs.lcmp_le (tgt := 166) dX9_findRing_117 dX9_findRing_118 (by decide) (fun h => ?_) (fun h => ?_)
  · refine Runs.picks (loc' := [(0, vr 200), (1, vi x1), (2, vi x2)]) [0, 1, 2] rfl ?_
    exact k1 h
  · exact k2 h
theorem kX9_findRing_121 {X : Scr} {M : Mem} {P : Option AV → Mem → Prop} {x1 x2 x3 x5 : Int} (k : Runs X mX9_findRing 140 [(0, vr 200), (1, vi x1), (2, vi x2), (7, vi (0 : Int))] [] (up2 (up2 (up2 M 200 45 x3) 200 46 x5) 200 44 x1) P) : Runs X mX9_findRing 121 [(0, vr 200), (1, vi x1), (2, vi x2), (3, vl x3), (5, vl x5)] [] M P := by
  refine Runs.aload_n (j := 0) dX9_findRing_121 rfl ?_
  refine Runs.lload_n (j := 3) dX9_findRing_122 rfl ?_
  refine Runs.putl (ci := 9) (j := 45) (C := RX9) (T := TX9) (N := 48) dX9_findRing_123 rfl cls_X9 (by decide) rfl fl_X9_279 rfl rfl ?_
  refine Runs.aload_n (j := 0) dX9_findRing_126 rfl ?_
  refine Runs.lload (j := 4) dX9_findRing_127 rfl ?_
  refine Runs.putl (ci := 9) (j := 46) (C := RX9) (T := TX9) (N := 48) dX9_findRing_129 rfl cls_X9 (by decide) rfl fl_X9_283 rfl rfl ?_
  refine Runs.aload_n (j := 0) dX9_findRing_132 rfl ?_
  refine Runs.iload_n (j := 1) dX9_findRing_133 rfl ?_
  refine Runs.puti (ci := 9) (j := 44) (C := RX9) (T := TX9) (N := 48) dX9_findRing_134 rfl cls_X9 (by decide) rfl fl_X9_289 rfl rfl ?_
  refine Runs.iconst dX9_findRing_137 (by decide) ?_
  refine Runs.istore (loc' := [(0, vr 200), (1, vi x1), (2, vi x2), (3, vl x3), (5, vl x5), (7, vi (0 : Int))]) dX9_findRing_138 (by decide) rfl ?_
  refine Runs.picks (loc' := [(0, vr 200), (1, vi x1), (2, vi x2), (7, vi (0 : Int))]) [0, 1, 2, 5] rfl ?_
  exact k
theorem kX9_findRing_140 {X : Scr} {M : Mem} {P : Option AV → Mem → Prop} {x1 x2 x7 : Int} (k1 : x1 ≤ x7 → Runs X mX9_findRing 166 [(0, vr 200), (1, vi x1), (2, vi x2)] [] M P) (k2 : x7 < x1 → Runs X mX9_findRing 146 [(0, vr 200), (1, vi x1), (2, vi x2), (7, vi x7)] [] M P) : Runs X mX9_findRing 140 [(0, vr 200), (1, vi x1), (2, vi x2), (7, vi x7)] [] M P := by
  refine Runs.iload (j := 3) dX9_findRing_140 rfl ?_
  refine Runs.iload_n (j := 1) dX9_findRing_142 rfl ?_
  refine Runs.icmp_ge (tgt := 166) dX9_findRing_143 (by decide) (fun h => ?_) (fun h => ?_)
  · refine Runs.picks (loc' := [(0, vr 200), (1, vi x1), (2, vi x2)]) [0, 1, 2] rfl ?_
    exact k1 h
  · exact k2 h
theorem kX9_findRing_146 {X : Scr} {M : Mem} {P : Option AV → Mem → Prop} {x1 x2 x7 : Int} (k : Runs X mX9_findRing 140 [(0, vr 200), (1, vi x1), (2, vi x2), (7, vi (x7 + (1 : Int)))] [] (up2 M 342 (x7).toNat (M 343 (x7).toNat)) P) (h1 : 0 ≤ x7 := by omega) (h2 : x7 < ((4 : Nat) : Int) := by omega) (h3 : -2147483648 ≤ (x7 + (1 : Int)) ∧ (x7 + (1 : Int)) ≤ 2147483647 := by omega) : Runs X mX9_findRing 146 [(0, vr 200), (1, vi x1), (2, vi x2), (7, vi x7)] [] M P := by
  refine Runs.aload_n (j := 0) dX9_findRing_146 rfl ?_
  refine Runs.getr (o' := 342) (ci := 9) (j := 42) (C := RX9) (T := TX9) (N := 48) dX9_findRing_147 rfl cls_X9 (by decide) rfl fl_X9_99 rfl ⟨rfl, "", Or.inr ⟨_, rfl⟩⟩ ?_
  refine Runs.iload (j := 3) dX9_findRing_150 rfl ?_
  refine Runs.aload_n (j := 0) dX9_findRing_152 rfl ?_
  refine Runs.getr (o' := 343) (ci := 9) (j := 43) (C := RX9) (T := TX9) (N := 48) dX9_findRing_153 rfl cls_X9 (by decide) rfl fl_X9_102 rfl ⟨rfl, "", Or.inr ⟨_, rfl⟩⟩ ?_
  refine Runs.iload (j := 3) dX9_findRing_156 rfl ?_
  refine Runs.iald dX9_findRing_158 rfl h1 h2 ?_
  refine Runs.iast dX9_findRing_159 rfl h1 h2 ?_
  refine Runs.iinc (k := 3) (loc' := [(0, vr 200), (1, vi x1), (2, vi x2), (7, vi (x7 + (1 : Int)))]) dX9_findRing_160 rfl h3 (by decide) rfl ?_
  refine Runs.goto (tgt := 140) dX9_findRing_163 (by decide) ?_
  exact k
theorem kX9_findRing_166 {X : Scr} {M : Mem} {P : Option AV → Mem → Prop} {x1 x2 : Int} (k : Runs X mX9_findRing 19 [(0, vr 200), (1, vi x1), (2, vi (x2 + (1 : Int)))] [] M P) (h1 : -2147483648 ≤ (x2 + (1 : Int)) ∧ (x2 + (1 : Int)) ≤ 2147483647 := by omega) : Runs X mX9_findRing 166 [(0, vr 200), (1, vi x1), (2, vi x2)] [] M P := by
  refine Runs.iinc (k := 2) (loc' := [(0, vr 200), (1, vi x1), (2, vi (x2 + (1 : Int)))]) dX9_findRing_166 rfl h1 (by decide) rfl ?_
  refine Runs.goto (tgt := 19) dX9_findRing_169 (by decide) ?_
  exact k
theorem kX9_findRing_172 {X : Scr} {M : Mem} {P : Option AV → Mem → Prop} {x1 : Int} (k : Runs X mX9_findRing 12 [(0, vr 200), (1, vi (x1 + (1 : Int)))] [] M P) (h1 : -2147483648 ≤ (x1 + (1 : Int)) ∧ (x1 + (1 : Int)) ≤ 2147483647 := by omega) : Runs X mX9_findRing 172 [(0, vr 200), (1, vi x1)] [] M P := by
  refine Runs.iinc (k := 1) (loc' := [(0, vr 200), (1, vi (x1 + (1 : Int)))]) dX9_findRing_172 rfl h1 (by decide) rfl ?_
  refine Runs.goto (tgt := 12) dX9_findRing_175 (by decide) ?_
  exact k
theorem kX9_findRing_178 {X : Scr} {M : Mem} {P : Option AV → Mem → Prop} (k : P none M) : Runs X mX9_findRing 178 [] [] M P := by
  exact Runs.ret0 dX9_findRing_178 rfl k
theorem kX9_ring_0 {X : Scr} {M : Mem} {P Q : Option AV → Mem → Prop} {x1 : Int} (hC : Call X mX9_findRing [vr 200] (up2 M 200 0 (0 : Int)) Q) (k : ∀ (M1 : Mem), Q none M1 → Runs X mX9_ring 9 [(0, vr 200), (1, vi x1)] [] M1 P) : Runs X mX9_ring 0 [(0, vr 200), (1, vi x1)] [] M P := by
  refine Runs.aload_n (j := 0) dX9_ring_0 rfl ?_
  refine Runs.iconst dX9_ring_1 (by decide) ?_
  refine Runs.puti (ci := 9) (j := 0) (C := RX9) (T := TX9) (N := 48) dX9_ring_2 rfl cls_X9 (by decide) rfl fl_X9_108 rfl rfl ?_
  refine Runs.aload_n (j := 0) dX9_ring_5 rfl ?_
  refine Runs.callVv (y := mX9_findRing) (n := 0) (as := []) (st := []) (q := (RX9, TX9, 48)) dX9_ring_6 oc_X9_findRing im_X9_findRing se_X9_findRing ml_X9_292 rfl ⟨(Nat.le_of_ble_eq_true rfl), (Nat.le_of_ble_eq_true rfl)⟩ (Nat.le_of_ble_eq_true rfl) (Nat.le_of_ble_eq_true rfl) rfl rfl rfl rfl hC (fun M1 hQ => ?_)
  exact k M1 hQ
theorem kX9_ring_9 {X : Scr} {M : Mem} {P Q : Option AV → Mem → Prop} {x1 : Int} (hC : Call X mX9_told [vl (M 200 45), vl (M 200 46), vi x1] M Q) (k : ∀ (z : Int) (M1 : Mem), Q (some (vl z)) M1 → Runs X mX9_ring 21 [] [vl z] M1 P) : Runs X mX9_ring 9 [(0, vr 200), (1, vi x1)] [] M P := by
  refine Runs.aload_n (j := 0) dX9_ring_9 rfl ?_
  refine Runs.getl (ci := 9) (j := 45) (C := RX9) (T := TX9) (N := 48) dX9_ring_10 rfl cls_X9 (by decide) rfl fl_X9_279 rfl ?_
  refine Runs.aload_n (j := 0) dX9_ring_13 rfl ?_
  refine Runs.getl (ci := 9) (j := 46) (C := RX9) (T := TX9) (N := 48) dX9_ring_14 rfl cls_X9 (by decide) rfl fl_X9_283 rfl ?_
  refine Runs.iload_n (j := 1) dX9_ring_17 rfl ?_
  refine Runs.callSl (y := mX9_told) (n := 3) (as := [vl (M 200 45), vl (M 200 46), vi x1]) (st := []) dX9_ring_18 oc_X9_told sm_X9_told ml_X9_273 rfl ⟨(Nat.le_of_ble_eq_true rfl), (Nat.le_of_ble_eq_true rfl)⟩ (Nat.le_of_ble_eq_true rfl) (Nat.le_of_ble_eq_true rfl) rfl hC (fun z M1 hQ => ?_)
  refine Runs.picks (loc' := []) [] rfl ?_
  exact k z M1 hQ
theorem kX9_ring_21 {X : Scr} {M : Mem} {P : Option AV → Mem → Prop} {xs0 : Int} (k : P (some (vl xs0)) M) : Runs X mX9_ring 21 [] [vl xs0] M P := by
  exact Runs.retl dX9_ring_21 rfl k
theorem kX9_ringAt_0 {X : Scr} {M : Mem} {P Q : Option AV → Mem → Prop} {x1 : Int} (hC : Call X mX9_findRing [vr 200] (up2 M 200 0 (0 : Int)) Q) (k : ∀ (M1 : Mem), Q none M1 → Runs X mX9_ringAt 9 [(0, vr 200), (1, vi x1)] [] M1 P) : Runs X mX9_ringAt 0 [(0, vr 200), (1, vi x1)] [] M P := by
  refine Runs.aload_n (j := 0) dX9_ringAt_0 rfl ?_
  refine Runs.iconst dX9_ringAt_1 (by decide) ?_
  refine Runs.puti (ci := 9) (j := 0) (C := RX9) (T := TX9) (N := 48) dX9_ringAt_2 rfl cls_X9 (by decide) rfl fl_X9_108 rfl rfl ?_
  refine Runs.aload_n (j := 0) dX9_ringAt_5 rfl ?_
  refine Runs.callVv (y := mX9_findRing) (n := 0) (as := []) (st := []) (q := (RX9, TX9, 48)) dX9_ringAt_6 oc_X9_findRing im_X9_findRing se_X9_findRing ml_X9_292 rfl ⟨(Nat.le_of_ble_eq_true rfl), (Nat.le_of_ble_eq_true rfl)⟩ (Nat.le_of_ble_eq_true rfl) (Nat.le_of_ble_eq_true rfl) rfl rfl rfl rfl hC (fun M1 hQ => ?_)
  exact k M1 hQ
theorem kX9_ringAt_9 {X : Scr} {M : Mem} {P Q : Option AV → Mem → Prop} {x1 : Int} (hC : Call X mX9_in [vl x1, vl (0 : Int), vl ((M 200 44) - (1 : Int))] M Q) (k : ∀ (z : Int) (M1 : Mem), Q (some (vi z)) M1 → Runs X mX9_ringAt 22 [(0, vr 200), (1, vi x1)] [vi z] M1 P) (h1 : -2147483648 ≤ ((M 200 44) - (1 : Int)) ∧ ((M 200 44) - (1 : Int)) ≤ 2147483647 := by omega) : Runs X mX9_ringAt 9 [(0, vr 200), (1, vi x1)] [] M P := by
  refine Runs.iload_n (j := 1) dX9_ringAt_9 rfl ?_
  refine Runs.i2l dX9_ringAt_10 ?_
  refine Runs.lconst (z := 0) dX9_ringAt_11 rfl (by decide) ?_
  refine Runs.aload_n (j := 0) dX9_ringAt_12 rfl ?_
  refine Runs.geti (ci := 9) (j := 44) (C := RX9) (T := TX9) (N := 48) dX9_ringAt_13 rfl cls_X9 (by decide) rfl fl_X9_289 (Or.inl rfl) ?_
  refine Runs.iconst dX9_ringAt_16 (by decide) ?_
  refine Runs.isub dX9_ringAt_17 h1 ?_
  refine Runs.i2l dX9_ringAt_18 ?_
  refine Runs.callSi (y := mX9_in) (n := 3) (as := [vl x1, vl (0 : Int), vl ((M 200 44) - (1 : Int))]) (st := []) dX9_ringAt_19 oc_X9_in sm_X9_in ml_X9_114 rfl ⟨(Nat.le_of_ble_eq_true rfl), (Nat.le_of_ble_eq_true rfl)⟩ (Nat.le_of_ble_eq_true rfl) (Nat.le_of_ble_eq_true rfl) (Or.inr rfl) hC (fun z M1 hQ => ?_)
  exact k z M1 hQ
theorem kX9_ringAt_22 {X : Scr} {M : Mem} {P : Option AV → Mem → Prop} {x1 xs0 : Int} (k1 : xs0 = 0 → Runs X mX9_ringAt 34 [] [] M P) (k2 : xs0 ≠ 0 → Runs X mX9_ringAt 25 [(0, vr 200), (1, vi x1)] [] M P) : Runs X mX9_ringAt 22 [(0, vr 200), (1, vi x1)] [vi xs0] M P := by
  refine Runs.if_eq (tgt := 34) dX9_ringAt_22 (by decide) (fun h => ?_) (fun h => ?_)
  · refine Runs.picks (loc' := []) [] rfl ?_
    exact k1 h
  · exact k2 h
theorem kX9_ringAt_25 {X : Scr} {M : Mem} {P : Option AV → Mem → Prop} {x1 : Int} (k : Runs X mX9_ringAt 36 [] [vi (M 342 (x1).toNat)] M P) (h1 : 0 ≤ x1 := by omega) (h2 : x1 < ((4 : Nat) : Int) := by omega) : Runs X mX9_ringAt 25 [(0, vr 200), (1, vi x1)] [] M P := by
  refine Runs.aload_n (j := 0) dX9_ringAt_25 rfl ?_
  refine Runs.getr (o' := 342) (ci := 9) (j := 42) (C := RX9) (T := TX9) (N := 48) dX9_ringAt_26 rfl cls_X9 (by decide) rfl fl_X9_99 rfl ⟨rfl, "", Or.inr ⟨_, rfl⟩⟩ ?_
  refine Runs.iload_n (j := 1) dX9_ringAt_29 rfl ?_
  refine Runs.iald dX9_ringAt_30 rfl h1 h2 ?_
  refine Runs.goto (tgt := 36) dX9_ringAt_31 (by decide) ?_
  refine Runs.picks (loc' := []) [] rfl ?_
  exact k
theorem kX9_ringAt_34 {X : Scr} {M : Mem} {P : Option AV → Mem → Prop} (k : Runs X mX9_ringAt 36 [] [vi (-9 : Int)] M P) : Runs X mX9_ringAt 34 [] [] M P := by
  refine Runs.bipush dX9_ringAt_34 (by decide) (by decide) ?_
  exact k
theorem kX9_ringAt_36 {X : Scr} {M : Mem} {P : Option AV → Mem → Prop} {xs0 : Int} (k : P (some (vi xs0)) M) : Runs X mX9_ringAt 36 [] [vi xs0] M P := by
  exact Runs.reti dX9_ringAt_36 rfl k
theorem kX9_should_0 {X : Scr} {M : Mem} {P Q : Option AV → Mem → Prop} {x1 x2 : Int} (hC : Call X mX9_noTooth [vr 200, vi x1] (up2 M 200 0 (0 : Int)) Q) (k : ∀ (z : Int) (M1 : Mem), Q (some (vi z)) M1 → Runs X mX9_should 10 [(0, vr 200), (1, vi x1), (2, vi x2)] [vi z] M1 P) : Runs X mX9_should 0 [(0, vr 200), (1, vi x1), (2, vi x2)] [] M P := by
  refine Runs.aload_n (j := 0) dX9_should_0 rfl ?_
  refine Runs.iconst dX9_should_1 (by decide) ?_
  refine Runs.puti (ci := 9) (j := 0) (C := RX9) (T := TX9) (N := 48) dX9_should_2 rfl cls_X9 (by decide) rfl fl_X9_108 rfl rfl ?_
  refine Runs.aload_n (j := 0) dX9_should_5 rfl ?_
  refine Runs.iload_n (j := 1) dX9_should_6 rfl ?_
  refine Runs.callVi (y := mX9_noTooth) (n := 1) (as := [vi x1]) (st := []) (q := (RX9, TX9, 48)) dX9_should_7 oc_X9_noTooth im_X9_noTooth se_X9_noTooth ml_X9_178 rfl ⟨(Nat.le_of_ble_eq_true rfl), (Nat.le_of_ble_eq_true rfl)⟩ (Nat.le_of_ble_eq_true rfl) (Nat.le_of_ble_eq_true rfl) rfl rfl rfl (Or.inr rfl) hC (fun z M1 hQ => ?_)
  exact k z M1 hQ
theorem kX9_should_10 {X : Scr} {M : Mem} {P : Option AV → Mem → Prop} {x1 x2 xs0 : Int} (k1 : xs0 = 0 → Runs X mX9_should 15 [(0, vr 200), (1, vi x1), (2, vi x2)] [] M P) (k2 : xs0 ≠ 0 → Runs X mX9_should 13 [] [] M P) : Runs X mX9_should 10 [(0, vr 200), (1, vi x1), (2, vi x2)] [vi xs0] M P := by
  refine Runs.if_eq (tgt := 15) dX9_should_10 (by decide) (fun h => ?_) (fun h => ?_)
  · exact k1 h
  · refine Runs.picks (loc' := []) [] rfl ?_
    exact k2 h
theorem kX9_should_13 {X : Scr} {M : Mem} {P : Option AV → Mem → Prop} (k : P (some (vi (-1 : Int))) M) : Runs X mX9_should 13 [] [] M P := by
  refine Runs.iconst dX9_should_13 (by decide) ?_
  exact Runs.reti dX9_should_14 rfl k
theorem kX9_should_15 {X : Scr} {M : Mem} {P Q : Option AV → Mem → Prop} {x1 x2 : Int} (hC : Call X mX9_in [vl x2, vl (0 : Int), vl (99 : Int)] M Q) (k : ∀ (z : Int) (M1 : Mem), Q (some (vi z)) M1 → Runs X mX9_should 24 [(0, vr 200), (1, vi x1), (2, vi x2)] [vi z] M1 P) : Runs X mX9_should 15 [(0, vr 200), (1, vi x1), (2, vi x2)] [] M P := by
  refine Runs.iload_n (j := 2) dX9_should_15 rfl ?_
  refine Runs.i2l dX9_should_16 ?_
  refine Runs.lconst (z := 0) dX9_should_17 rfl (by decide) ?_
  refine Runs.ldc2 (z := 99) dX9_should_18 w5_38 (by decide) (by decide) ?_
  refine Runs.callSi (y := mX9_in) (n := 3) (as := [vl x2, vl (0 : Int), vl (99 : Int)]) (st := []) dX9_should_21 oc_X9_in sm_X9_in ml_X9_114 rfl ⟨(Nat.le_of_ble_eq_true rfl), (Nat.le_of_ble_eq_true rfl)⟩ (Nat.le_of_ble_eq_true rfl) (Nat.le_of_ble_eq_true rfl) (Or.inr rfl) hC (fun z M1 hQ => ?_)
  exact k z M1 hQ
theorem kX9_should_24 {X : Scr} {M : Mem} {P : Option AV → Mem → Prop} {x1 x2 xs0 : Int} (k1 : xs0 ≠ 0 → Runs X mX9_should 30 [(0, vr 200), (1, vi x1), (2, vi x2)] [] M P) (k2 : xs0 = 0 → Runs X mX9_should 27 [] [] M P) : Runs X mX9_should 24 [(0, vr 200), (1, vi x1), (2, vi x2)] [vi xs0] M P := by
  refine Runs.if_ne (tgt := 30) dX9_should_24 (by decide) (fun h => ?_) (fun h => ?_)
  · exact k1 h
  · refine Runs.picks (loc' := []) [] rfl ?_
    exact k2 h
theorem kX9_should_27 {X : Scr} {M : Mem} {P : Option AV → Mem → Prop} (k : P (some (vi (-2 : Int))) M) : Runs X mX9_should 27 [] [] M P := by
  refine Runs.bipush dX9_should_27 (by decide) (by decide) ?_
  exact Runs.reti dX9_should_29 rfl k
theorem kX9_should_30 {X : Scr} {M : Mem} {P : Option AV → Mem → Prop} {x1 x2 : Int} (k : P (some (vi (M 312 (x1).toNat))) (up2 M 312 (x1).toNat x2)) (h1 : 0 ≤ x1 := by omega) (h2 : x1 < ((10 : Nat) : Int) := by omega) : Runs X mX9_should 30 [(0, vr 200), (1, vi x1), (2, vi x2)] [] M P := by
  refine Runs.aload_n (j := 0) dX9_should_30 rfl ?_
  refine Runs.getr (o' := 312) (ci := 9) (j := 12) (C := RX9) (T := TX9) (N := 48) dX9_should_31 rfl cls_X9 (by decide) rfl fl_X9_36 rfl ⟨rfl, "", Or.inr ⟨_, rfl⟩⟩ ?_
  refine Runs.iload_n (j := 1) dX9_should_34 rfl ?_
  refine Runs.iald dX9_should_35 rfl h1 h2 ?_
  refine Runs.istore_n (loc' := [(0, vr 200), (1, vi x1), (2, vi x2), (3, vi (M 312 (x1).toNat))]) dX9_should_36 rfl (by decide) rfl ?_
  refine Runs.aload_n (j := 0) dX9_should_37 rfl ?_
  refine Runs.getr (o' := 312) (ci := 9) (j := 12) (C := RX9) (T := TX9) (N := 48) dX9_should_38 rfl cls_X9 (by decide) rfl fl_X9_36 rfl ⟨rfl, "", Or.inr ⟨_, rfl⟩⟩ ?_
  refine Runs.iload_n (j := 1) dX9_should_41 rfl ?_
  refine Runs.iload_n (j := 2) dX9_should_42 rfl ?_
  refine Runs.iast dX9_should_43 rfl h1 h2 ?_
  refine Runs.iload_n (j := 3) dX9_should_44 rfl ?_
  exact Runs.reti dX9_should_45 rfl k
theorem kX9_stolenSet_0 {X : Scr} {M : Mem} {P : Option AV → Mem → Prop} (k : Runs X mX9_stolenSet 4 [(0, vr 200), (1, vi (0 : Int)), (2, vi (0 : Int))] [] M P) : Runs X mX9_stolenSet 0 [(0, vr 200)] [] M P := by
  refine Runs.iconst dX9_stolenSet_0 (by decide) ?_
  refine Runs.istore_n (loc' := [(0, vr 200), (1, vi (0 : Int))]) dX9_stolenSet_1 rfl (by decide) rfl ?_
  refine Runs.iconst dX9_stolenSet_2 (by decide) ?_
  refine Runs.istore_n (loc' := [(0, vr 200), (1, vi (0 : Int)), (2, vi (0 : Int))]) dX9_stolenSet_3 rfl (by decide) rfl ?_
  exact k
theorem kX9_stolenSet_4 {X : Scr} {M : Mem} {P : Option AV → Mem → Prop} {x1 x2 : Int} (k1 : (M 200 6) ≤ x2 → Runs X mX9_stolenSet 43 [(1, vi x1)] [] M P) (k2 : x2 < (M 200 6) → Runs X mX9_stolenSet 12 [(0, vr 200), (1, vi x1), (2, vi x2)] [] M P) : Runs X mX9_stolenSet 4 [(0, vr 200), (1, vi x1), (2, vi x2)] [] M P := by
  refine Runs.iload_n (j := 2) dX9_stolenSet_4 rfl ?_
  refine Runs.aload_n (j := 0) dX9_stolenSet_5 rfl ?_
  refine Runs.geti (ci := 9) (j := 6) (C := RX9) (T := TX9) (N := 48) dX9_stolenSet_6 rfl cls_X9 (by decide) rfl fl_X9_111 (Or.inl rfl) ?_
  refine Runs.icmp_ge (tgt := 43) dX9_stolenSet_9 (by decide) (fun h => ?_) (fun h => ?_)
  · refine Runs.picks (loc' := [(1, vi x1)]) [1] rfl ?_
    exact k1 h
  · exact k2 h
theorem kX9_stolenSet_12 {X : Scr} {M : Mem} {P : Option AV → Mem → Prop} {x1 x2 : Int} (k1 : (M 309 (x2).toNat) ≤ (M 312 (x2).toNat) → Runs X mX9_stolenSet 34 [(0, vr 200), (2, vi x2)] [vi x1] M P) (k2 : (M 312 (x2).toNat) < (M 309 (x2).toNat) → Runs X mX9_stolenSet 28 [(0, vr 200), (2, vi x2)] [vi x1] M P) (h1 : 0 ≤ x2 := by omega) (h2 : x2 < ((10 : Nat) : Int) := by omega) : Runs X mX9_stolenSet 12 [(0, vr 200), (1, vi x1), (2, vi x2)] [] M P := by
  refine Runs.iload_n (j := 1) dX9_stolenSet_12 rfl ?_
  refine Runs.aload_n (j := 0) dX9_stolenSet_13 rfl ?_
  refine Runs.getr (o' := 309) (ci := 9) (j := 9) (C := RX9) (T := TX9) (N := 48) dX9_stolenSet_14 rfl cls_X9 (by decide) rfl fl_X9_27 rfl ⟨rfl, "", Or.inr ⟨_, rfl⟩⟩ ?_
  refine Runs.iload_n (j := 2) dX9_stolenSet_17 rfl ?_
  refine Runs.iald dX9_stolenSet_18 rfl h1 h2 ?_
  refine Runs.aload_n (j := 0) dX9_stolenSet_19 rfl ?_
  refine Runs.getr (o' := 312) (ci := 9) (j := 12) (C := RX9) (T := TX9) (N := 48) dX9_stolenSet_20 rfl cls_X9 (by decide) rfl fl_X9_36 rfl ⟨rfl, "", Or.inr ⟨_, rfl⟩⟩ ?_
  refine Runs.iload_n (j := 2) dX9_stolenSet_23 rfl ?_
  refine Runs.iald dX9_stolenSet_24 rfl h1 h2 ?_
  refine Runs.icmp_le (tgt := 34) dX9_stolenSet_25 (by decide) (fun h => ?_) (fun h => ?_)
  · refine Runs.picks (loc' := [(0, vr 200), (2, vi x2)]) [0, 2] rfl ?_
    exact k1 h
  · refine Runs.picks (loc' := [(0, vr 200), (2, vi x2)]) [0, 2] rfl ?_
    exact k2 h
theorem kX9_stolenSet_28 {X : Scr} {M : Mem} {P : Option AV → Mem → Prop} {x2 xs0 : Int} (k : Runs X mX9_stolenSet 35 [(0, vr 200), (2, vi x2)] [vi (zshl (1 : Int) x2), vi xs0] M P) : Runs X mX9_stolenSet 28 [(0, vr 200), (2, vi x2)] [vi xs0] M P := by
  refine Runs.iconst dX9_stolenSet_28 (by decide) ?_
  refine Runs.iload_n (j := 1) dX9_stolenSet_29 rfl ?_
  refine Runs.ishl dX9_stolenSet_30 ?_
  refine Runs.goto (tgt := 35) dX9_stolenSet_31 (by decide) ?_
  exact k
theorem kX9_stolenSet_34 {X : Scr} {M : Mem} {P : Option AV → Mem → Prop} {x2 xs0 : Int} (k : Runs X mX9_stolenSet 35 [(0, vr 200), (2, vi x2)] [vi (0 : Int), vi xs0] M P) : Runs X mX9_stolenSet 34 [(0, vr 200), (2, vi x2)] [vi xs0] M P := by
  refine Runs.iconst dX9_stolenSet_34 (by decide) ?_
  exact k
theorem kX9_stolenSet_35 {X : Scr} {M : Mem} {P : Option AV → Mem → Prop} {x2 xs0 xs1 : Int} (k : Runs X mX9_stolenSet 4 [(0, vr 200), (1, vi (zor xs0 xs1)), (2, vi (x2 + (1 : Int)))] [] M P) (h1 : -2147483648 ≤ (x2 + (1 : Int)) ∧ (x2 + (1 : Int)) ≤ 2147483647 := by omega) : Runs X mX9_stolenSet 35 [(0, vr 200), (2, vi x2)] [vi xs1, vi xs0] M P := by
  refine Runs.ior dX9_stolenSet_35 ?_
  refine Runs.istore_n (loc' := [(0, vr 200), (1, vi (zor xs0 xs1)), (2, vi x2)]) dX9_stolenSet_36 rfl (by decide) rfl ?_
  refine Runs.iinc (k := 2) (loc' := [(0, vr 200), (1, vi (zor xs0 xs1)), (2, vi (x2 + (1 : Int)))]) dX9_stolenSet_37 rfl h1 (by decide) rfl ?_
  refine Runs.goto (tgt := 4) dX9_stolenSet_40 (by decide) ?_
  exact k
theorem kX9_stolenSet_43 {X : Scr} {M : Mem} {P : Option AV → Mem → Prop} {x1 : Int} (k : P (some (vi x1)) M) : Runs X mX9_stolenSet 43 [(1, vi x1)] [] M P := by
  refine Runs.iload_n (j := 0) dX9_stolenSet_43 rfl ?_
  exact Runs.reti dX9_stolenSet_44 rfl k
theorem kX9_stolen_0 {X : Scr} {M : Mem} {P Q : Option AV → Mem → Prop} (hC : Call X mX9_stolenSet [vr 200] (up2 M 200 0 (0 : Int)) Q) (k : ∀ (z : Int) (M1 : Mem), Q (some (vi z)) M1 → Runs X mX9_stolen 9 [] [vi z] M1 P) : Runs X mX9_stolen 0 [(0, vr 200)] [] M P := by
  refine Runs.aload_n (j := 0) dX9_stolen_0 rfl ?_
  refine Runs.iconst dX9_stolen_1 (by decide) ?_
  refine Runs.puti (ci := 9) (j := 0) (C := RX9) (T := TX9) (N := 48) dX9_stolen_2 rfl cls_X9 (by decide) rfl fl_X9_108 rfl rfl ?_
  refine Runs.aload_n (j := 0) dX9_stolen_5 rfl ?_
  refine Runs.callVi (y := mX9_stolenSet) (n := 0) (as := []) (st := []) (q := (RX9, TX9, 48)) dX9_stolen_6 oc_X9_stolenSet im_X9_stolenSet se_X9_stolenSet ml_X9_295 rfl ⟨(Nat.le_of_ble_eq_true rfl), (Nat.le_of_ble_eq_true rfl)⟩ (Nat.le_of_ble_eq_true rfl) (Nat.le_of_ble_eq_true rfl) rfl rfl rfl (Or.inl rfl) hC (fun z M1 hQ => ?_)
  refine Runs.picks (loc' := []) [] rfl ?_
  exact k z M1 hQ
theorem kX9_stolen_9 {X : Scr} {M : Mem} {P : Option AV → Mem → Prop} {xs0 : Int} (k : P (some (vi xs0)) M) : Runs X mX9_stolen 9 [] [vi xs0] M P := by
  exact Runs.reti dX9_stolen_9 rfl k
theorem kX9_thief_0 {X : Scr} {M : Mem} {P Q : Option AV → Mem → Prop} (hC : Call X mX9_stolenSet [vr 200] (up2 M 200 0 (0 : Int)) Q) (k : ∀ (z : Int) (M1 : Mem), Q (some (vi z)) M1 → Runs X mX9_thief 9 [(0, vr 200)] [vi z] M1 P) : Runs X mX9_thief 0 [(0, vr 200)] [] M P := by
  refine Runs.aload_n (j := 0) dX9_thief_0 rfl ?_
  refine Runs.iconst dX9_thief_1 (by decide) ?_
  refine Runs.puti (ci := 9) (j := 0) (C := RX9) (T := TX9) (N := 48) dX9_thief_2 rfl cls_X9 (by decide) rfl fl_X9_108 rfl rfl ?_
  refine Runs.aload_n (j := 0) dX9_thief_5 rfl ?_
  refine Runs.callVi (y := mX9_stolenSet) (n := 0) (as := []) (st := []) (q := (RX9, TX9, 48)) dX9_thief_6 oc_X9_stolenSet im_X9_stolenSet se_X9_stolenSet ml_X9_295 rfl ⟨(Nat.le_of_ble_eq_true rfl), (Nat.le_of_ble_eq_true rfl)⟩ (Nat.le_of_ble_eq_true rfl) (Nat.le_of_ble_eq_true rfl) rfl rfl rfl (Or.inl rfl) hC (fun z M1 hQ => ?_)
  exact k z M1 hQ
theorem kX9_thief_9 {X : Scr} {M : Mem} {P : Option AV → Mem → Prop} {xs0 : Int} (k : Runs X mX9_thief 18 [(0, vr 200), (1, vi xs0), (2, vi (-9 : Int)), (3, vi (0 : Int)), (4, vi (0 : Int))] [] M P) : Runs X mX9_thief 9 [(0, vr 200)] [vi xs0] M P := by
  refine Runs.istore_n (loc' := [(0, vr 200), (1, vi xs0)]) dX9_thief_9 rfl (by decide) rfl ?_
  refine Runs.bipush dX9_thief_10 (by decide) (by decide) ?_
  refine Runs.istore_n (loc' := [(0, vr 200), (1, vi xs0), (2, vi (-9 : Int))]) dX9_thief_12 rfl (by decide) rfl ?_
  refine Runs.iconst dX9_thief_13 (by decide) ?_
  refine Runs.istore_n (loc' := [(0, vr 200), (1, vi xs0), (2, vi (-9 : Int)), (3, vi (0 : Int))]) dX9_thief_14 rfl (by decide) rfl ?_
  refine Runs.iconst dX9_thief_15 (by decide) ?_
  refine Runs.istore (loc' := [(0, vr 200), (1, vi xs0), (2, vi (-9 : Int)), (3, vi (0 : Int)), (4, vi (0 : Int))]) dX9_thief_16 (by decide) rfl ?_
  exact k
theorem kX9_thief_18 {X : Scr} {M : Mem} {P : Option AV → Mem → Prop} {x1 x2 x3 x4 : Int} (k1 : (4 : Int) ≤ x4 → Runs X mX9_thief 122 [(2, vi x2)] [] M P) (k2 : x4 < (4 : Int) → Runs X mX9_thief 24 [(0, vr 200), (1, vi x1), (2, vi x2), (3, vi x3), (4, vi x4)] [] M P) : Runs X mX9_thief 18 [(0, vr 200), (1, vi x1), (2, vi x2), (3, vi x3), (4, vi x4)] [] M P := by
  refine Runs.iload (j := 4) dX9_thief_18 rfl ?_
  refine Runs.iconst dX9_thief_20 (by decide) ?_
  refine Runs.icmp_ge (tgt := 122) dX9_thief_21 (by decide) (fun h => ?_) (fun h => ?_)
  · refine Runs.picks (loc' := [(2, vi x2)]) [2] rfl ?_
    exact k1 h
  · exact k2 h
theorem kX9_thief_24 {X : Scr} {M : Mem} {P : Option AV → Mem → Prop} {x1 x2 x3 x4 : Int} (k : Runs X mX9_thief 30 [(0, vr 200), (1, vi x1), (2, vi x2), (3, vi x3), (4, vi x4), (5, vi (0 : Int)), (6, vi (0 : Int))] [] M P) : Runs X mX9_thief 24 [(0, vr 200), (1, vi x1), (2, vi x2), (3, vi x3), (4, vi x4)] [] M P := by
  refine Runs.iconst dX9_thief_24 (by decide) ?_
  refine Runs.istore (loc' := [(0, vr 200), (1, vi x1), (2, vi x2), (3, vi x3), (4, vi x4), (5, vi (0 : Int))]) dX9_thief_25 (by decide) rfl ?_
  refine Runs.iconst dX9_thief_27 (by decide) ?_
  refine Runs.istore (loc' := [(0, vr 200), (1, vi x1), (2, vi x2), (3, vi x3), (4, vi x4), (5, vi (0 : Int)), (6, vi (0 : Int))]) dX9_thief_28 (by decide) rfl ?_
  exact k
theorem kX9_thief_30 {X : Scr} {M : Mem} {P : Option AV → Mem → Prop} {x1 x2 x3 x4 x5 x6 : Int} (k1 : (M 200 6) ≤ x6 → Runs X mX9_thief 90 [(0, vr 200), (1, vi x1), (2, vi x2), (3, vi x3), (4, vi x4), (5, vi x5)] [] M P) (k2 : x6 < (M 200 6) → Runs X mX9_thief 39 [(0, vr 200), (1, vi x1), (2, vi x2), (3, vi x3), (4, vi x4), (5, vi x5), (6, vi x6)] [] M P) : Runs X mX9_thief 30 [(0, vr 200), (1, vi x1), (2, vi x2), (3, vi x3), (4, vi x4), (5, vi x5), (6, vi x6)] [] M P := by
  refine Runs.iload (j := 6) dX9_thief_30 rfl ?_
  refine Runs.aload_n (j := 0) dX9_thief_32 rfl ?_
  refine Runs.geti (ci := 9) (j := 6) (C := RX9) (T := TX9) (N := 48) dX9_thief_33 rfl cls_X9 (by decide) rfl fl_X9_111 (Or.inl rfl) ?_
  refine Runs.icmp_ge (tgt := 90) dX9_thief_36 (by decide) (fun h => ?_) (fun h => ?_)
  · refine Runs.picks (loc' := [(0, vr 200), (1, vi x1), (2, vi x2), (3, vi x3), (4, vi x4), (5, vi x5)]) [0, 1, 2, 3, 4, 5] rfl ?_
    exact k1 h
  · exact k2 h
theorem kX9_thief_39 {X : Scr} {M : Mem} {P Q : Option AV → Mem → Prop} {x1 x2 x3 x4 x5 x6 : Int} (hC : Call X mX9_has [vi x1, vi x6] M Q) (k : ∀ (z : Int) (M1 : Mem), Q (some (vi z)) M1 → Runs X mX9_thief 47 [(0, vr 200), (1, vi x1), (2, vi x2), (3, vi x3), (4, vi x4), (6, vi x6)] [vi z, vi x5] M1 P) : Runs X mX9_thief 39 [(0, vr 200), (1, vi x1), (2, vi x2), (3, vi x3), (4, vi x4), (5, vi x5), (6, vi x6)] [] M P := by
  refine Runs.iload (j := 5) dX9_thief_39 rfl ?_
  refine Runs.iload_n (j := 1) dX9_thief_41 rfl ?_
  refine Runs.iload (j := 6) dX9_thief_42 rfl ?_
  refine Runs.callSi (y := mX9_has) (n := 2) (as := [vi x1, vi x6]) (st := [vi x5]) dX9_thief_44 oc_X9_has sm_X9_has ml_X9_186 rfl ⟨(Nat.le_of_ble_eq_true rfl), (Nat.le_of_ble_eq_true rfl)⟩ (Nat.le_of_ble_eq_true rfl) (Nat.le_of_ble_eq_true rfl) (Or.inr rfl) hC (fun z M1 hQ => ?_)
  refine Runs.picks (loc' := [(0, vr 200), (1, vi x1), (2, vi x2), (3, vi x3), (4, vi x4), (6, vi x6)]) [0, 1, 2, 3, 4, 6] rfl ?_
  exact k z M1 hQ
theorem kX9_thief_47 {X : Scr} {M : Mem} {P : Option AV → Mem → Prop} {x1 x2 x3 x4 x6 xs0 xs1 : Int} (k1 : xs1 = 0 → Runs X mX9_thief 80 [(0, vr 200), (1, vi x1), (2, vi x2), (3, vi x3), (4, vi x4), (6, vi x6)] [vi xs0] M P) (k2 : xs1 ≠ 0 → Runs X mX9_thief 50 [(0, vr 200), (1, vi x1), (2, vi x2), (3, vi x3), (4, vi x4), (6, vi x6)] [vi xs0] M P) : Runs X mX9_thief 47 [(0, vr 200), (1, vi x1), (2, vi x2), (3, vi x3), (4, vi x4), (6, vi x6)] [vi xs1, vi xs0] M P := by
  refine Runs.if_eq (tgt := 80) dX9_thief_47 (by decide) (fun h => ?_) (fun h => ?_)
  · exact k1 h
  · exact k2 h
theorem kX9_thief_50 {X : Scr} {M : Mem} {P : Option AV → Mem → Prop} {x1 x2 x3 x4 x6 xs0 : Int} (k1 : (M 310 (x6).toNat) ≠ x4 → Runs X mX9_thief 80 [(0, vr 200), (1, vi x1), (2, vi x2), (3, vi x3), (4, vi x4), (6, vi x6)] [vi xs0] M P) (k2 : (M 310 (x6).toNat) = x4 → Runs X mX9_thief 62 [(0, vr 200), (1, vi x1), (2, vi x2), (3, vi x3), (4, vi x4), (6, vi x6)] [vi xs0] M P) (h1 : 0 ≤ x6 := by omega) (h2 : x6 < ((10 : Nat) : Int) := by omega) : Runs X mX9_thief 50 [(0, vr 200), (1, vi x1), (2, vi x2), (3, vi x3), (4, vi x4), (6, vi x6)] [vi xs0] M P := by
  refine Runs.aload_n (j := 0) dX9_thief_50 rfl ?_
  refine Runs.getr (o' := 310) (ci := 9) (j := 10) (C := RX9) (T := TX9) (N := 48) dX9_thief_51 rfl cls_X9 (by decide) rfl fl_X9_30 rfl ⟨rfl, "", Or.inr ⟨_, rfl⟩⟩ ?_
  refine Runs.iload (j := 5) dX9_thief_54 rfl ?_
  refine Runs.iald dX9_thief_56 rfl h1 h2 ?_
  refine Runs.iload (j := 4) dX9_thief_57 rfl ?_
  refine Runs.icmp_ne (tgt := 80) dX9_thief_59 (by decide) (fun h => ?_) (fun h => ?_)
  · exact k1 h
  · exact k2 h
theorem kX9_thief_62 {X : Scr} {M : Mem} {P : Option AV → Mem → Prop} {x1 x2 x3 x4 x6 xs0 : Int} (k : Runs X mX9_thief 81 [(0, vr 200), (1, vi x1), (2, vi x2), (3, vi x3), (4, vi x4), (6, vi x6)] [vi ((M 309 (x6).toNat) - (M 312 (x6).toNat)), vi xs0] M P) (h1 : 0 ≤ x6 := by omega) (h2 : x6 < ((10 : Nat) : Int) := by omega) (h3 : -2147483648 ≤ ((M 309 (x6).toNat) - (M 312 (x6).toNat)) ∧ ((M 309 (x6).toNat) - (M 312 (x6).toNat)) ≤ 2147483647 := by omega) : Runs X mX9_thief 62 [(0, vr 200), (1, vi x1), (2, vi x2), (3, vi x3), (4, vi x4), (6, vi x6)] [vi xs0] M P := by
  refine Runs.aload_n (j := 0) dX9_thief_62 rfl ?_
  refine Runs.getr (o' := 309) (ci := 9) (j := 9) (C := RX9) (T := TX9) (N := 48) dX9_thief_63 rfl cls_X9 (by decide) rfl fl_X9_27 rfl ⟨rfl, "", Or.inr ⟨_, rfl⟩⟩ ?_
  refine Runs.iload (j := 5) dX9_thief_66 rfl ?_
  refine Runs.iald dX9_thief_68 rfl h1 h2 ?_
  refine Runs.aload_n (j := 0) dX9_thief_69 rfl ?_
  refine Runs.getr (o' := 312) (ci := 9) (j := 12) (C := RX9) (T := TX9) (N := 48) dX9_thief_70 rfl cls_X9 (by decide) rfl fl_X9_36 rfl ⟨rfl, "", Or.inr ⟨_, rfl⟩⟩ ?_
  refine Runs.iload (j := 5) dX9_thief_73 rfl ?_
  refine Runs.iald dX9_thief_75 rfl h1 h2 ?_
  refine Runs.isub dX9_thief_76 h3 ?_
  refine Runs.goto (tgt := 81) dX9_thief_77 (by decide) ?_
  exact k
theorem kX9_thief_80 {X : Scr} {M : Mem} {P : Option AV → Mem → Prop} {x1 x2 x3 x4 x6 xs0 : Int} (k : Runs X mX9_thief 81 [(0, vr 200), (1, vi x1), (2, vi x2), (3, vi x3), (4, vi x4), (6, vi x6)] [vi (0 : Int), vi xs0] M P) : Runs X mX9_thief 80 [(0, vr 200), (1, vi x1), (2, vi x2), (3, vi x3), (4, vi x4), (6, vi x6)] [vi xs0] M P := by
  refine Runs.iconst dX9_thief_80 (by decide) ?_
  exact k
theorem kX9_thief_81 {X : Scr} {M : Mem} {P : Option AV → Mem → Prop} {x1 x2 x3 x4 x6 xs0 xs1 : Int} (k : Runs X mX9_thief 30 [(0, vr 200), (1, vi x1), (2, vi x2), (3, vi x3), (4, vi x4), (5, vi (xs0 + xs1)), (6, vi (x6 + (1 : Int)))] [] M P) (h1 : -2147483648 ≤ (xs0 + xs1) ∧ (xs0 + xs1) ≤ 2147483647 := by omega) (h2 : -2147483648 ≤ (x6 + (1 : Int)) ∧ (x6 + (1 : Int)) ≤ 2147483647 := by omega) : Runs X mX9_thief 81 [(0, vr 200), (1, vi x1), (2, vi x2), (3, vi x3), (4, vi x4), (6, vi x6)] [vi xs1, vi xs0] M P := by
  refine Runs.iadd dX9_thief_81 h1 ?_
  refine Runs.istore (loc' := [(0, vr 200), (1, vi x1), (2, vi x2), (3, vi x3), (4, vi x4), (5, vi (xs0 + xs1)), (6, vi x6)]) dX9_thief_82 (by decide) rfl ?_
  refine Runs.iinc (k := 6) (loc' := [(0, vr 200), (1, vi x1), (2, vi x2), (3, vi x3), (4, vi x4), (5, vi (xs0 + xs1)), (6, vi (x6 + (1 : Int)))]) dX9_thief_84 rfl h2 (by decide) rfl ?_
  refine Runs.goto (tgt := 30) dX9_thief_87 (by decide) ?_
  exact k
theorem kX9_thief_90 {X : Scr} {M : Mem} {P : Option AV → Mem → Prop} {x1 x2 x3 x4 x5 : Int} (k1 : x5 ≤ x3 → Runs X mX9_thief 101 [(0, vr 200), (1, vi x1), (2, vi x2), (3, vi x3), (4, vi x4), (5, vi x5)] [] M P) (k2 : x3 < x5 → Runs X mX9_thief 96 [(0, vr 200), (1, vi x1), (3, vi x3), (4, vi x4), (5, vi x5)] [] M P) : Runs X mX9_thief 90 [(0, vr 200), (1, vi x1), (2, vi x2), (3, vi x3), (4, vi x4), (5, vi x5)] [] M P := by
  refine Runs.iload (j := 5) dX9_thief_90 rfl ?_
  refine Runs.iload_n (j := 3) dX9_thief_92 rfl ?_
  refine Runs.icmp_le (tgt := 101) dX9_thief_93 (by decide) (fun h => ?_) (fun h => ?_)
  · exact k1 h
  · refine Runs.picks (loc' := [(0, vr 200), (1, vi x1), (3, vi x3), (4, vi x4), (5, vi x5)]) [0, 1, 3, 4, 5] rfl ?_
    exact k2 h
theorem kX9_thief_96 {X : Scr} {M : Mem} {P : Option AV → Mem → Prop} {x1 x3 x4 x5 : Int} (k : Runs X mX9_thief 102 [(0, vr 200), (1, vi x1), (3, vi x3), (4, vi x4), (5, vi x5)] [vi x4] M P) : Runs X mX9_thief 96 [(0, vr 200), (1, vi x1), (3, vi x3), (4, vi x4), (5, vi x5)] [] M P := by
  refine Runs.iload (j := 3) dX9_thief_96 rfl ?_
  refine Runs.goto (tgt := 102) dX9_thief_98 (by decide) ?_
  exact k
theorem kX9_thief_101 {X : Scr} {M : Mem} {P : Option AV → Mem → Prop} {x1 x2 x3 x4 x5 : Int} (k : Runs X mX9_thief 102 [(0, vr 200), (1, vi x1), (3, vi x3), (4, vi x4), (5, vi x5)] [vi x2] M P) : Runs X mX9_thief 101 [(0, vr 200), (1, vi x1), (2, vi x2), (3, vi x3), (4, vi x4), (5, vi x5)] [] M P := by
  refine Runs.iload_n (j := 2) dX9_thief_101 rfl ?_
  refine Runs.picks (loc' := [(0, vr 200), (1, vi x1), (3, vi x3), (4, vi x4), (5, vi x5)]) [0, 1, 3, 4, 5] rfl ?_
  exact k
theorem kX9_thief_102 {X : Scr} {M : Mem} {P : Option AV → Mem → Prop} {x1 x3 x4 x5 xs0 : Int} (k1 : x5 ≤ x3 → Runs X mX9_thief 114 [(0, vr 200), (1, vi x1), (2, vi xs0), (3, vi x3), (4, vi x4)] [] M P) (k2 : x3 < x5 → Runs X mX9_thief 109 [(0, vr 200), (1, vi x1), (2, vi xs0), (4, vi x4), (5, vi x5)] [] M P) : Runs X mX9_thief 102 [(0, vr 200), (1, vi x1), (3, vi x3), (4, vi x4), (5, vi x5)] [vi xs0] M P := by
  refine Runs.istore_n (loc' := [(0, vr 200), (1, vi x1), (2, vi xs0), (3, vi x3), (4, vi x4), (5, vi x5)]) dX9_thief_102 rfl (by decide) rfl ?_
  refine Runs.iload (j := 5) dX9_thief_103 rfl ?_
  refine Runs.iload_n (j := 3) dX9_thief_105 rfl ?_
  refine Runs.icmp_le (tgt := 114) dX9_thief_106 (by decide) (fun h => ?_) (fun h => ?_)
  · refine Runs.picks (loc' := [(0, vr 200), (1, vi x1), (2, vi xs0), (3, vi x3), (4, vi x4)]) [0, 1, 2, 3, 4] rfl ?_
    exact k1 h
  · refine Runs.picks (loc' := [(0, vr 200), (1, vi x1), (2, vi xs0), (4, vi x4), (5, vi x5)]) [0, 1, 2, 4, 5] rfl ?_
    exact k2 h
theorem kX9_thief_109 {X : Scr} {M : Mem} {P : Option AV → Mem → Prop} {x1 x2 x4 x5 : Int} (k : Runs X mX9_thief 115 [(0, vr 200), (1, vi x1), (2, vi x2), (4, vi x4)] [vi x5] M P) : Runs X mX9_thief 109 [(0, vr 200), (1, vi x1), (2, vi x2), (4, vi x4), (5, vi x5)] [] M P := by
  refine Runs.iload (j := 4) dX9_thief_109 rfl ?_
  refine Runs.goto (tgt := 115) dX9_thief_111 (by decide) ?_
  refine Runs.picks (loc' := [(0, vr 200), (1, vi x1), (2, vi x2), (4, vi x4)]) [0, 1, 2, 3] rfl ?_
  exact k
theorem kX9_thief_114 {X : Scr} {M : Mem} {P : Option AV → Mem → Prop} {x1 x2 x3 x4 : Int} (k : Runs X mX9_thief 115 [(0, vr 200), (1, vi x1), (2, vi x2), (4, vi x4)] [vi x3] M P) : Runs X mX9_thief 114 [(0, vr 200), (1, vi x1), (2, vi x2), (3, vi x3), (4, vi x4)] [] M P := by
  refine Runs.iload_n (j := 3) dX9_thief_114 rfl ?_
  refine Runs.picks (loc' := [(0, vr 200), (1, vi x1), (2, vi x2), (4, vi x4)]) [0, 1, 2, 4] rfl ?_
  exact k
theorem kX9_thief_115 {X : Scr} {M : Mem} {P : Option AV → Mem → Prop} {x1 x2 x4 xs0 : Int} (k : Runs X mX9_thief 18 [(0, vr 200), (1, vi x1), (2, vi x2), (3, vi xs0), (4, vi (x4 + (1 : Int)))] [] M P) (h1 : -2147483648 ≤ (x4 + (1 : Int)) ∧ (x4 + (1 : Int)) ≤ 2147483647 := by omega) : Runs X mX9_thief 115 [(0, vr 200), (1, vi x1), (2, vi x2), (4, vi x4)] [vi xs0] M P := by
  refine Runs.istore_n (loc' := [(0, vr 200), (1, vi x1), (2, vi x2), (3, vi xs0), (4, vi x4)]) dX9_thief_115 rfl (by decide) rfl ?_
  refine Runs.iinc (k := 4) (loc' := [(0, vr 200), (1, vi x1), (2, vi x2), (3, vi xs0), (4, vi (x4 + (1 : Int)))]) dX9_thief_116 rfl h1 (by decide) rfl ?_
  refine Runs.goto (tgt := 18) dX9_thief_119 (by decide) ?_
  exact k
theorem kX9_thief_122 {X : Scr} {M : Mem} {P : Option AV → Mem → Prop} {x2 : Int} (k : P (some (vi x2)) M) : Runs X mX9_thief 122 [(2, vi x2)] [] M P := by
  refine Runs.iload_n (j := 0) dX9_thief_122 rfl ?_
  exact Runs.reti dX9_thief_123 rfl k
theorem kX9_keep_0 {X : Scr} {M : Mem} {P Q : Option AV → Mem → Prop} {x1 : Int} (hC : Call X mX9_in [vl x1, vl (0 : Int), vl (1 : Int)] (up2 M 200 0 (0 : Int)) Q) (k : ∀ (z : Int) (M1 : Mem), Q (some (vi z)) M1 → Runs X mX9_keep 12 [(0, vr 200), (1, vi x1)] [vi z] M1 P) : Runs X mX9_keep 0 [(0, vr 200), (1, vi x1)] [] M P := by
  refine Runs.aload_n (j := 0) dX9_keep_0 rfl ?_
  refine Runs.iconst dX9_keep_1 (by decide) ?_
  refine Runs.puti (ci := 9) (j := 0) (C := RX9) (T := TX9) (N := 48) dX9_keep_2 rfl cls_X9 (by decide) rfl fl_X9_108 rfl rfl ?_
  refine Runs.iload_n (j := 1) dX9_keep_5 rfl ?_
  refine Runs.i2l dX9_keep_6 ?_
  refine Runs.lconst (z := 0) dX9_keep_7 rfl (by decide) ?_
  refine Runs.lconst (z := 1) dX9_keep_8 rfl (by decide) ?_
  refine Runs.callSi (y := mX9_in) (n := 3) (as := [vl x1, vl (0 : Int), vl (1 : Int)]) (st := []) dX9_keep_9 oc_X9_in sm_X9_in ml_X9_114 rfl ⟨(Nat.le_of_ble_eq_true rfl), (Nat.le_of_ble_eq_true rfl)⟩ (Nat.le_of_ble_eq_true rfl) (Nat.le_of_ble_eq_true rfl) (Or.inr rfl) hC (fun z M1 hQ => ?_)
  exact k z M1 hQ
theorem kX9_keep_12 {X : Scr} {M : Mem} {P : Option AV → Mem → Prop} {x1 xs0 : Int} (k1 : xs0 ≠ 0 → Runs X mX9_keep 17 [(0, vr 200), (1, vi x1)] [] M P) (k2 : xs0 = 0 → Runs X mX9_keep 15 [] [] M P) : Runs X mX9_keep 12 [(0, vr 200), (1, vi x1)] [vi xs0] M P := by
  refine Runs.if_ne (tgt := 17) dX9_keep_12 (by decide) (fun h => ?_) (fun h => ?_)
  · exact k1 h
  · refine Runs.picks (loc' := []) [] rfl ?_
    exact k2 h
theorem kX9_keep_15 {X : Scr} {M : Mem} {P : Option AV → Mem → Prop} (k : P (some (vi (-1 : Int))) M) : Runs X mX9_keep 15 [] [] M P := by
  refine Runs.iconst dX9_keep_15 (by decide) ?_
  exact Runs.reti dX9_keep_16 rfl k
theorem kX9_keep_17 {X : Scr} {M : Mem} {P Q : Option AV → Mem → Prop} {x1 : Int} (hC : Call X mX9_lay [vr 200, vr 333, vi ((121 : Int) * x1)] (up2 M 337 (x1).toNat (1 : Int)) Q) (k : ∀ (M1 : Mem), Q none M1 → Runs X mX9_keep 36 [(0, vr 200), (1, vi x1)] [] M1 P) (h1 : 0 ≤ x1 := by omega) (h2 : x1 < ((2 : Nat) : Int) := by omega) (h3 : 0 ≤ (1 : Int) ∧ (1 : Int) ≤ 1 := by omega) (h4 : -2147483648 ≤ ((121 : Int) * x1) ∧ ((121 : Int) * x1) ≤ 2147483647 := by omega) : Runs X mX9_keep 17 [(0, vr 200), (1, vi x1)] [] M P := by
  refine Runs.aload_n (j := 0) dX9_keep_17 rfl ?_
  refine Runs.getr (o' := 337) (ci := 9) (j := 37) (C := RX9) (T := TX9) (N := 48) dX9_keep_18 rfl cls_X9 (by decide) rfl fl_X9_93 rfl ⟨rfl, "", Or.inr ⟨_, rfl⟩⟩ ?_
  refine Runs.iload_n (j := 1) dX9_keep_21 rfl ?_
  refine Runs.iconst dX9_keep_22 (by decide) ?_
  refine Runs.zast dX9_keep_23 rfl h1 h2 h3 ?_
  refine Runs.aload_n (j := 0) dX9_keep_24 rfl ?_
  refine Runs.aload_n (j := 0) dX9_keep_25 rfl ?_
  refine Runs.getr (o' := 333) (ci := 9) (j := 33) (C := RX9) (T := TX9) (N := 48) dX9_keep_26 rfl cls_X9 (by decide) rfl fl_X9_81 rfl ⟨rfl, "", Or.inr ⟨_, rfl⟩⟩ ?_
  refine Runs.bipush dX9_keep_29 (by decide) (by decide) ?_
  refine Runs.iload_n (j := 1) dX9_keep_31 rfl ?_
  refine Runs.imul dX9_keep_32 h4 ?_
  refine Runs.callVv (y := mX9_lay) (n := 2) (as := [vr 333, vi ((121 : Int) * x1)]) (st := []) (q := (RX9, TX9, 48)) dX9_keep_33 oc_X9_lay im_X9_lay se_X9_lay ml_X9_223 rfl ⟨(Nat.le_of_ble_eq_true rfl), (Nat.le_of_ble_eq_true rfl)⟩ (Nat.le_of_ble_eq_true rfl) (Nat.le_of_ble_eq_true rfl) rfl rfl rfl rfl hC (fun M1 hQ => ?_)
  exact k M1 hQ
theorem kX9_keep_36 {X : Scr} {M : Mem} {P : Option AV → Mem → Prop} {x1 : Int} (k : Runs X mX9_keep 38 [(0, vr 200), (1, vi x1), (2, vi (0 : Int))] [] M P) : Runs X mX9_keep 36 [(0, vr 200), (1, vi x1)] [] M P := by
  refine Runs.iconst dX9_keep_36 (by decide) ?_
  refine Runs.istore_n (loc' := [(0, vr 200), (1, vi x1), (2, vi (0 : Int))]) dX9_keep_37 rfl (by decide) rfl ?_
  exact k
theorem kX9_keep_38 {X : Scr} {M : Mem} {P : Option AV → Mem → Prop} {x1 x2 : Int} (k1 : (10 : Int) ≤ x2 → Runs X mX9_keep 123 [(0, vr 200), (1, vi x1)] [] M P) (k2 : x2 < (10 : Int) → Runs X mX9_keep 44 [(0, vr 200), (1, vi x1), (2, vi x2)] [] M P) : Runs X mX9_keep 38 [(0, vr 200), (1, vi x1), (2, vi x2)] [] M P := by
  refine Runs.iload_n (j := 2) dX9_keep_38 rfl ?_
  refine Runs.bipush dX9_keep_39 (by decide) (by decide) ?_
  refine Runs.icmp_ge (tgt := 123) dX9_keep_41 (by decide) (fun h => ?_) (fun h => ?_)
  · refine Runs.picks (loc' := [(0, vr 200), (1, vi x1)]) [0, 1] rfl ?_
    exact k1 h
  · exact k2 h
theorem kX9_keep_44 {X : Scr} {M : Mem} {P : Option AV → Mem → Prop} {x1 x2 : Int} (k1 : ((up2 M 334 ((((30 : Int) * x1) + x2)).toNat (M 312 (x2).toNat)) 308 (x2).toNat) = 0 → Runs X mX9_keep 87 [(0, vr 200), (1, vi x1), (2, vi x2)] [vi ((((30 : Int) * x1) + (10 : Int)) + x2), vr 334] (up2 M 334 ((((30 : Int) * x1) + x2)).toNat (M 312 (x2).toNat)) P) (k2 : ((up2 M 334 ((((30 : Int) * x1) + x2)).toNat (M 312 (x2).toNat)) 308 (x2).toNat) ≠ 0 → Runs X mX9_keep 83 [(0, vr 200), (1, vi x1), (2, vi x2)] [vi ((((30 : Int) * x1) + (10 : Int)) + x2), vr 334] (up2 M 334 ((((30 : Int) * x1) + x2)).toNat (M 312 (x2).toNat)) P) (h1 : -2147483648 ≤ ((30 : Int) * x1) ∧ ((30 : Int) * x1) ≤ 2147483647 := by omega) (h2 : -2147483648 ≤ (((30 : Int) * x1) + x2) ∧ (((30 : Int) * x1) + x2) ≤ 2147483647 := by omega) (h3 : 0 ≤ x2 := by omega) (h4 : x2 < ((10 : Nat) : Int) := by omega) (h5 : 0 ≤ (((30 : Int) * x1) + x2) := by omega) (h6 : (((30 : Int) * x1) + x2) < ((60 : Nat) : Int) := by omega) (h7 : -2147483648 ≤ (((30 : Int) * x1) + (10 : Int)) ∧ (((30 : Int) * x1) + (10 : Int)) ≤ 2147483647 := by omega) (h8 : -2147483648 ≤ ((((30 : Int) * x1) + (10 : Int)) + x2) ∧ ((((30 : Int) * x1) + (10 : Int)) + x2) ≤ 2147483647 := by omega) : Runs X mX9_keep 44 [(0, vr 200), (1, vi x1), (2, vi x2)] [] M P := by
  refine Runs.aload_n (j := 0) dX9_keep_44 rfl ?_
  refine Runs.getr (o' := 334) (ci := 9) (j := 34) (C := RX9) (T := TX9) (N := 48) dX9_keep_45 rfl cls_X9 (by decide) rfl fl_X9_84 rfl ⟨rfl, "", Or.inr ⟨_, rfl⟩⟩ ?_
  refine Runs.bipush dX9_keep_48 (by decide) (by decide) ?_
  refine Runs.iload_n (j := 1) dX9_keep_50 rfl ?_
  refine Runs.imul dX9_keep_51 h1 ?_
  refine Runs.iload_n (j := 2) dX9_keep_52 rfl ?_
  refine Runs.iadd dX9_keep_53 h2 ?_
  refine Runs.aload_n (j := 0) dX9_keep_54 rfl ?_
  refine Runs.getr (o' := 312) (ci := 9) (j := 12) (C := RX9) (T := TX9) (N := 48) dX9_keep_55 rfl cls_X9 (by decide) rfl fl_X9_36 rfl ⟨rfl, "", Or.inr ⟨_, rfl⟩⟩ ?_
  refine Runs.iload_n (j := 2) dX9_keep_58 rfl ?_
  refine Runs.iald dX9_keep_59 rfl h3 h4 ?_
  refine Runs.iast dX9_keep_60 rfl h5 h6 ?_
  refine Runs.aload_n (j := 0) dX9_keep_61 rfl ?_
  refine Runs.getr (o' := 334) (ci := 9) (j := 34) (C := RX9) (T := TX9) (N := 48) dX9_keep_62 rfl cls_X9 (by decide) rfl fl_X9_84 rfl ⟨rfl, "", Or.inr ⟨_, rfl⟩⟩ ?_
  refine Runs.bipush dX9_keep_65 (by decide) (by decide) ?_
  refine Runs.iload_n (j := 1) dX9_keep_67 rfl ?_
  refine Runs.imul dX9_keep_68 h1 ?_
  refine Runs.bipush dX9_keep_69 (by decide) (by decide) ?_
  refine Runs.iadd dX9_keep_71 h7 ?_
  refine Runs.iload_n (j := 2) dX9_keep_72 rfl ?_
  refine Runs.iadd dX9_keep_73 h8 ?_
  refine Runs.aload_n (j := 0) dX9_keep_74 rfl ?_
  refine Runs.getr (o' := 308) (ci := 9) (j := 8) (C := RX9) (T := TX9) (N := 48) dX9_keep_75 rfl cls_X9 (by decide) rfl fl_X9_23 rfl ⟨rfl, "", Or.inr ⟨_, rfl⟩⟩ ?_
  refine Runs.iload_n (j := 2) dX9_keep_78 rfl ?_
  refine Runs.zald dX9_keep_79 rfl h3 h4 ?_
  refine Runs.if_eq (tgt := 87) dX9_keep_80 (by decide) (fun h => ?_) (fun h => ?_)
  · exact k1 h
  · exact k2 h
theorem kX9_keep_83 {X : Scr} {M : Mem} {P : Option AV → Mem → Prop} {x1 x2 xs1 : Int} (k : Runs X mX9_keep 88 [(0, vr 200), (1, vi x1), (2, vi x2)] [vi (1 : Int), vi xs1, vr 334] M P) : Runs X mX9_keep 83 [(0, vr 200), (1, vi x1), (2, vi x2)] [vi xs1, vr 334] M P := by
  refine Runs.iconst dX9_keep_83 (by decide) ?_
  refine Runs.goto (tgt := 88) dX9_keep_84 (by decide) ?_
  exact k
theorem kX9_keep_87 {X : Scr} {M : Mem} {P : Option AV → Mem → Prop} {x1 x2 xs1 : Int} (k : Runs X mX9_keep 88 [(0, vr 200), (1, vi x1), (2, vi x2)] [vi (0 : Int), vi xs1, vr 334] M P) : Runs X mX9_keep 87 [(0, vr 200), (1, vi x1), (2, vi x2)] [vi xs1, vr 334] M P := by
  refine Runs.iconst dX9_keep_87 (by decide) ?_
  exact k
theorem kX9_keep_88 {X : Scr} {M : Mem} {P : Option AV → Mem → Prop} {x1 x2 xs1 xs2 : Int} (k1 : ((up2 M 334 (xs1).toNat xs2) 311 (x2).toNat) = 0 → Runs X mX9_keep 115 [(0, vr 200), (1, vi x1), (2, vi x2)] [vi ((((30 : Int) * x1) + (20 : Int)) + x2), vr 334] (up2 M 334 (xs1).toNat xs2) P) (k2 : ((up2 M 334 (xs1).toNat xs2) 311 (x2).toNat) ≠ 0 → Runs X mX9_keep 111 [(0, vr 200), (1, vi x1), (2, vi x2)] [vi ((((30 : Int) * x1) + (20 : Int)) + x2), vr 334] (up2 M 334 (xs1).toNat xs2) P) (h1 : 0 ≤ xs1 := by omega) (h2 : xs1 < ((60 : Nat) : Int) := by omega) (h3 : -2147483648 ≤ ((30 : Int) * x1) ∧ ((30 : Int) * x1) ≤ 2147483647 := by omega) (h4 : -2147483648 ≤ (((30 : Int) * x1) + (20 : Int)) ∧ (((30 : Int) * x1) + (20 : Int)) ≤ 2147483647 := by omega) (h5 : -2147483648 ≤ ((((30 : Int) * x1) + (20 : Int)) + x2) ∧ ((((30 : Int) * x1) + (20 : Int)) + x2) ≤ 2147483647 := by omega) (h6 : 0 ≤ x2 := by omega) (h7 : x2 < ((10 : Nat) : Int) := by omega) : Runs X mX9_keep 88 [(0, vr 200), (1, vi x1), (2, vi x2)] [vi xs2, vi xs1, vr 334] M P := by
  refine Runs.iast dX9_keep_88 rfl h1 h2 ?_
  refine Runs.aload_n (j := 0) dX9_keep_89 rfl ?_
  refine Runs.getr (o' := 334) (ci := 9) (j := 34) (C := RX9) (T := TX9) (N := 48) dX9_keep_90 rfl cls_X9 (by decide) rfl fl_X9_84 rfl ⟨rfl, "", Or.inr ⟨_, rfl⟩⟩ ?_
  refine Runs.bipush dX9_keep_93 (by decide) (by decide) ?_
  refine Runs.iload_n (j := 1) dX9_keep_95 rfl ?_
  refine Runs.imul dX9_keep_96 h3 ?_
  refine Runs.bipush dX9_keep_97 (by decide) (by decide) ?_
  refine Runs.iadd dX9_keep_99 h4 ?_
  refine Runs.iload_n (j := 2) dX9_keep_100 rfl ?_
  refine Runs.iadd dX9_keep_101 h5 ?_
  refine Runs.aload_n (j := 0) dX9_keep_102 rfl ?_
  refine Runs.getr (o' := 311) (ci := 9) (j := 11) (C := RX9) (T := TX9) (N := 48) dX9_keep_103 rfl cls_X9 (by decide) rfl fl_X9_33 rfl ⟨rfl, "", Or.inr ⟨_, rfl⟩⟩ ?_
  refine Runs.iload_n (j := 2) dX9_keep_106 rfl ?_
  refine Runs.zald dX9_keep_107 rfl h6 h7 ?_
  refine Runs.if_eq (tgt := 115) dX9_keep_108 (by decide) (fun h => ?_) (fun h => ?_)
  · exact k1 h
  · exact k2 h
theorem kX9_keep_111 {X : Scr} {M : Mem} {P : Option AV → Mem → Prop} {x1 x2 xs1 : Int} (k : Runs X mX9_keep 116 [(0, vr 200), (1, vi x1), (2, vi x2)] [vi (1 : Int), vi xs1, vr 334] M P) : Runs X mX9_keep 111 [(0, vr 200), (1, vi x1), (2, vi x2)] [vi xs1, vr 334] M P := by
  refine Runs.iconst dX9_keep_111 (by decide) ?_
  refine Runs.goto (tgt := 116) dX9_keep_112 (by decide) ?_
  exact k
theorem kX9_keep_115 {X : Scr} {M : Mem} {P : Option AV → Mem → Prop} {x1 x2 xs1 : Int} (k : Runs X mX9_keep 116 [(0, vr 200), (1, vi x1), (2, vi x2)] [vi (0 : Int), vi xs1, vr 334] M P) : Runs X mX9_keep 115 [(0, vr 200), (1, vi x1), (2, vi x2)] [vi xs1, vr 334] M P := by
  refine Runs.iconst dX9_keep_115 (by decide) ?_
  exact k
theorem kX9_keep_116 {X : Scr} {M : Mem} {P : Option AV → Mem → Prop} {x1 x2 xs1 xs2 : Int} (k : Runs X mX9_keep 38 [(0, vr 200), (1, vi x1), (2, vi (x2 + (1 : Int)))] [] (up2 M 334 (xs1).toNat xs2) P) (h1 : 0 ≤ xs1 := by omega) (h2 : xs1 < ((60 : Nat) : Int) := by omega) (h3 : -2147483648 ≤ (x2 + (1 : Int)) ∧ (x2 + (1 : Int)) ≤ 2147483647 := by omega) : Runs X mX9_keep 116 [(0, vr 200), (1, vi x1), (2, vi x2)] [vi xs2, vi xs1, vr 334] M P := by
  refine Runs.iast dX9_keep_116 rfl h1 h2 ?_
  refine Runs.iinc (k := 2) (loc' := [(0, vr 200), (1, vi x1), (2, vi (x2 + (1 : Int)))]) dX9_keep_117 rfl h3 (by decide) rfl ?_
  refine Runs.goto (tgt := 38) dX9_keep_120 (by decide) ?_
  exact k
theorem kX9_keep_123 {X : Scr} {M : Mem} {P : Option AV → Mem → Prop} {x1 : Int} (k : Runs X mX9_keep 125 [(0, vr 200), (1, vi x1), (2, vi (0 : Int))] [] M P) : Runs X mX9_keep 123 [(0, vr 200), (1, vi x1)] [] M P := by
  refine Runs.iconst dX9_keep_123 (by decide) ?_
  refine Runs.istore_n (loc' := [(0, vr 200), (1, vi x1), (2, vi (0 : Int))]) dX9_keep_124 rfl (by decide) rfl ?_
  exact k
theorem kX9_keep_125 {X : Scr} {M : Mem} {P : Option AV → Mem → Prop} {x1 x2 : Int} (k1 : (968 : Int) ≤ x2 → Runs X mX9_keep 156 [(0, vr 200), (1, vi x1)] [] M P) (k2 : x2 < (968 : Int) → Runs X mX9_keep 132 [(0, vr 200), (1, vi x1), (2, vi x2)] [] M P) : Runs X mX9_keep 125 [(0, vr 200), (1, vi x1), (2, vi x2)] [] M P := by
  refine Runs.iload_n (j := 2) dX9_keep_125 rfl ?_
  refine Runs.sipush dX9_keep_126 (by decide) (by decide) ?_
  refine Runs.icmp_ge (tgt := 156) dX9_keep_129 (by decide) (fun h => ?_) (fun h => ?_)
  · refine Runs.picks (loc' := [(0, vr 200), (1, vi x1)]) [0, 1] rfl ?_
    exact k1 h
  · exact k2 h
theorem kX9_keep_132 {X : Scr} {M : Mem} {P : Option AV → Mem → Prop} {x1 x2 : Int} (k : Runs X mX9_keep 125 [(0, vr 200), (1, vi x1), (2, vi (x2 + (1 : Int)))] [] (up2 M 335 ((((968 : Int) * x1) + x2)).toNat (M 329 (x2).toNat)) P) (h1 : -2147483648 ≤ ((968 : Int) * x1) ∧ ((968 : Int) * x1) ≤ 2147483647 := by omega) (h2 : -2147483648 ≤ (((968 : Int) * x1) + x2) ∧ (((968 : Int) * x1) + x2) ≤ 2147483647 := by omega) (h3 : 0 ≤ x2 := by omega) (h4 : x2 < ((968 : Nat) : Int) := by omega) (h5 : 0 ≤ (((968 : Int) * x1) + x2) := by omega) (h6 : (((968 : Int) * x1) + x2) < ((1936 : Nat) : Int) := by omega) (h7 : -2147483648 ≤ (x2 + (1 : Int)) ∧ (x2 + (1 : Int)) ≤ 2147483647 := by omega) : Runs X mX9_keep 132 [(0, vr 200), (1, vi x1), (2, vi x2)] [] M P := by
  refine Runs.aload_n (j := 0) dX9_keep_132 rfl ?_
  refine Runs.getr (o' := 335) (ci := 9) (j := 35) (C := RX9) (T := TX9) (N := 48) dX9_keep_133 rfl cls_X9 (by decide) rfl fl_X9_87 rfl ⟨rfl, "", Or.inr ⟨_, rfl⟩⟩ ?_
  refine Runs.sipush dX9_keep_136 (by decide) (by decide) ?_
  refine Runs.iload_n (j := 1) dX9_keep_139 rfl ?_
  refine Runs.imul dX9_keep_140 h1 ?_
  refine Runs.iload_n (j := 2) dX9_keep_141 rfl ?_
  refine Runs.iadd dX9_keep_142 h2 ?_
  refine Runs.aload_n (j := 0) dX9_keep_143 rfl ?_
  refine Runs.getr (o' := 329) (ci := 9) (j := 29) (C := RX9) (T := TX9) (N := 48) dX9_keep_144 rfl cls_X9 (by decide) rfl fl_X9_72 rfl ⟨rfl, "", Or.inr ⟨_, rfl⟩⟩ ?_
  refine Runs.iload_n (j := 2) dX9_keep_147 rfl ?_
  refine Runs.iald dX9_keep_148 rfl h3 h4 ?_
  refine Runs.iast dX9_keep_149 rfl h5 h6 ?_
  refine Runs.iinc (k := 2) (loc' := [(0, vr 200), (1, vi x1), (2, vi (x2 + (1 : Int)))]) dX9_keep_150 rfl h7 (by decide) rfl ?_
  refine Runs.goto (tgt := 125) dX9_keep_153 (by decide) ?_
  exact k
theorem kX9_keep_156 {X : Scr} {M : Mem} {P : Option AV → Mem → Prop} {x1 : Int} (k : Runs X mX9_keep 158 [(0, vr 200), (1, vi x1), (2, vi (0 : Int))] [] M P) : Runs X mX9_keep 156 [(0, vr 200), (1, vi x1)] [] M P := by
  refine Runs.iconst dX9_keep_156 (by decide) ?_
  refine Runs.istore_n (loc' := [(0, vr 200), (1, vi x1), (2, vi (0 : Int))]) dX9_keep_157 rfl (by decide) rfl ?_
  exact k
theorem kX9_keep_158 {X : Scr} {M : Mem} {P : Option AV → Mem → Prop} {x1 x2 : Int} (k1 : (16 : Int) ≤ x2 → Runs X mX9_keep 207 [(0, vr 200), (1, vi x1)] [] M P) (k2 : x2 < (16 : Int) → Runs X mX9_keep 164 [(0, vr 200), (1, vi x1), (2, vi x2)] [] M P) : Runs X mX9_keep 158 [(0, vr 200), (1, vi x1), (2, vi x2)] [] M P := by
  refine Runs.iload_n (j := 2) dX9_keep_158 rfl ?_
  refine Runs.bipush dX9_keep_159 (by decide) (by decide) ?_
  refine Runs.icmp_ge (tgt := 207) dX9_keep_161 (by decide) (fun h => ?_) (fun h => ?_)
  · refine Runs.picks (loc' := [(0, vr 200), (1, vi x1)]) [0, 1] rfl ?_
    exact k1 h
  · exact k2 h
theorem kX9_keep_164 {X : Scr} {M : Mem} {P : Option AV → Mem → Prop} {x1 x2 : Int} (k : Runs X mX9_keep 158 [(0, vr 200), (1, vi x1), (2, vi (x2 + (1 : Int)))] [] (up2 (up2 M 336 ((((32 : Int) * x1) + x2)).toNat (M 331 (x2).toNat)) 336 (((((32 : Int) * x1) + (16 : Int)) + x2)).toNat ((up2 M 336 ((((32 : Int) * x1) + x2)).toNat (M 331 (x2).toNat)) 332 (x2).toNat)) P) (h1 : -2147483648 ≤ ((32 : Int) * x1) ∧ ((32 : Int) * x1) ≤ 2147483647 := by omega) (h2 : -2147483648 ≤ (((32 : Int) * x1) + x2) ∧ (((32 : Int) * x1) + x2) ≤ 2147483647 := by omega) (h3 : 0 ≤ x2 := by omega) (h4 : x2 < ((16 : Nat) : Int) := by omega) (h5 : 0 ≤ (((32 : Int) * x1) + x2) := by omega) (h6 : (((32 : Int) * x1) + x2) < ((64 : Nat) : Int) := by omega) (h7 : -2147483648 ≤ (((32 : Int) * x1) + (16 : Int)) ∧ (((32 : Int) * x1) + (16 : Int)) ≤ 2147483647 := by omega) (h8 : -2147483648 ≤ ((((32 : Int) * x1) + (16 : Int)) + x2) ∧ ((((32 : Int) * x1) + (16 : Int)) + x2) ≤ 2147483647 := by omega) (h9 : 0 ≤ ((((32 : Int) * x1) + (16 : Int)) + x2) := by omega) (h10 : ((((32 : Int) * x1) + (16 : Int)) + x2) < ((64 : Nat) : Int) := by omega) (h11 : -2147483648 ≤ (x2 + (1 : Int)) ∧ (x2 + (1 : Int)) ≤ 2147483647 := by omega) : Runs X mX9_keep 164 [(0, vr 200), (1, vi x1), (2, vi x2)] [] M P := by
  refine Runs.aload_n (j := 0) dX9_keep_164 rfl ?_
  refine Runs.getr (o' := 336) (ci := 9) (j := 36) (C := RX9) (T := TX9) (N := 48) dX9_keep_165 rfl cls_X9 (by decide) rfl fl_X9_90 rfl ⟨rfl, "", Or.inr ⟨_, rfl⟩⟩ ?_
  refine Runs.bipush dX9_keep_168 (by decide) (by decide) ?_
  refine Runs.iload_n (j := 1) dX9_keep_170 rfl ?_
  refine Runs.imul dX9_keep_171 h1 ?_
  refine Runs.iload_n (j := 2) dX9_keep_172 rfl ?_
  refine Runs.iadd dX9_keep_173 h2 ?_
  refine Runs.aload_n (j := 0) dX9_keep_174 rfl ?_
  refine Runs.getr (o' := 331) (ci := 9) (j := 31) (C := RX9) (T := TX9) (N := 48) dX9_keep_175 rfl cls_X9 (by decide) rfl fl_X9_75 rfl ⟨rfl, "", Or.inr ⟨_, rfl⟩⟩ ?_
  refine Runs.iload_n (j := 2) dX9_keep_178 rfl ?_
  refine Runs.iald dX9_keep_179 rfl h3 h4 ?_
  refine Runs.iast dX9_keep_180 rfl h5 h6 ?_
  refine Runs.aload_n (j := 0) dX9_keep_181 rfl ?_
  refine Runs.getr (o' := 336) (ci := 9) (j := 36) (C := RX9) (T := TX9) (N := 48) dX9_keep_182 rfl cls_X9 (by decide) rfl fl_X9_90 rfl ⟨rfl, "", Or.inr ⟨_, rfl⟩⟩ ?_
  refine Runs.bipush dX9_keep_185 (by decide) (by decide) ?_
  refine Runs.iload_n (j := 1) dX9_keep_187 rfl ?_
  refine Runs.imul dX9_keep_188 h1 ?_
  refine Runs.bipush dX9_keep_189 (by decide) (by decide) ?_
  refine Runs.iadd dX9_keep_191 h7 ?_
  refine Runs.iload_n (j := 2) dX9_keep_192 rfl ?_
  refine Runs.iadd dX9_keep_193 h8 ?_
  refine Runs.aload_n (j := 0) dX9_keep_194 rfl ?_
  refine Runs.getr (o' := 332) (ci := 9) (j := 32) (C := RX9) (T := TX9) (N := 48) dX9_keep_195 rfl cls_X9 (by decide) rfl fl_X9_78 rfl ⟨rfl, "", Or.inr ⟨_, rfl⟩⟩ ?_
  refine Runs.iload_n (j := 2) dX9_keep_198 rfl ?_
  refine Runs.iald dX9_keep_199 rfl h3 h4 ?_
  refine Runs.iast dX9_keep_200 rfl h9 h10 ?_
  refine Runs.iinc (k := 2) (loc' := [(0, vr 200), (1, vi x1), (2, vi (x2 + (1 : Int)))]) dX9_keep_201 rfl h11 (by decide) rfl ?_
  refine Runs.goto (tgt := 158) dX9_keep_204 (by decide) ?_
  exact k
theorem kX9_keep_207 {X : Scr} {M : Mem} {P : Option AV → Mem → Prop} {x1 : Int} (k : P (some (vi ((up2 M 338 (x1).toNat (M 200 30)) 200 6))) (up2 M 338 (x1).toNat (M 200 30))) (h1 : 0 ≤ x1 := by omega) (h2 : x1 < ((2 : Nat) : Int) := by omega) : Runs X mX9_keep 207 [(0, vr 200), (1, vi x1)] [] M P := by
  refine Runs.aload_n (j := 0) dX9_keep_207 rfl ?_
  refine Runs.getr (o' := 338) (ci := 9) (j := 38) (C := RX9) (T := TX9) (N := 48) dX9_keep_208 rfl cls_X9 (by decide) rfl fl_X9_96 rfl ⟨rfl, "", Or.inr ⟨_, rfl⟩⟩ ?_
  refine Runs.iload_n (j := 1) dX9_keep_211 rfl ?_
  refine Runs.aload_n (j := 0) dX9_keep_212 rfl ?_
  refine Runs.geti (ci := 9) (j := 30) (C := RX9) (T := TX9) (N := 48) dX9_keep_213 rfl cls_X9 (by decide) rfl fl_X9_169 (Or.inl rfl) ?_
  refine Runs.iast dX9_keep_216 rfl h1 h2 ?_
  refine Runs.aload_n (j := 0) dX9_keep_217 rfl ?_
  refine Runs.geti (ci := 9) (j := 6) (C := RX9) (T := TX9) (N := 48) dX9_keep_218 rfl cls_X9 (by decide) rfl fl_X9_111 (Or.inl rfl) ?_
  exact Runs.reti dX9_keep_221 rfl k
theorem kX9_again_0 {X : Scr} {M : Mem} {P Q : Option AV → Mem → Prop} {x1 : Int} (hC : Call X mX9_in [vl x1, vl (0 : Int), vl (1 : Int)] (up2 M 200 0 (0 : Int)) Q) (k : ∀ (z : Int) (M1 : Mem), Q (some (vi z)) M1 → Runs X mX9_again 12 [(0, vr 200), (1, vi x1)] [vi z] M1 P) : Runs X mX9_again 0 [(0, vr 200), (1, vi x1)] [] M P := by
  refine Runs.aload_n (j := 0) dX9_again_0 rfl ?_
  refine Runs.iconst dX9_again_1 (by decide) ?_
  refine Runs.puti (ci := 9) (j := 0) (C := RX9) (T := TX9) (N := 48) dX9_again_2 rfl cls_X9 (by decide) rfl fl_X9_108 rfl rfl ?_
  refine Runs.iload_n (j := 1) dX9_again_5 rfl ?_
  refine Runs.i2l dX9_again_6 ?_
  refine Runs.lconst (z := 0) dX9_again_7 rfl (by decide) ?_
  refine Runs.lconst (z := 1) dX9_again_8 rfl (by decide) ?_
  refine Runs.callSi (y := mX9_in) (n := 3) (as := [vl x1, vl (0 : Int), vl (1 : Int)]) (st := []) dX9_again_9 oc_X9_in sm_X9_in ml_X9_114 rfl ⟨(Nat.le_of_ble_eq_true rfl), (Nat.le_of_ble_eq_true rfl)⟩ (Nat.le_of_ble_eq_true rfl) (Nat.le_of_ble_eq_true rfl) (Or.inr rfl) hC (fun z M1 hQ => ?_)
  exact k z M1 hQ
theorem kX9_again_12 {X : Scr} {M : Mem} {P : Option AV → Mem → Prop} {x1 xs0 : Int} (k1 : xs0 ≠ 0 → Runs X mX9_again 17 [(0, vr 200), (1, vi x1)] [] M P) (k2 : xs0 = 0 → Runs X mX9_again 15 [] [] M P) : Runs X mX9_again 12 [(0, vr 200), (1, vi x1)] [vi xs0] M P := by
  refine Runs.if_ne (tgt := 17) dX9_again_12 (by decide) (fun h => ?_) (fun h => ?_)
  · exact k1 h
  · refine Runs.picks (loc' := []) [] rfl ?_
    exact k2 h
theorem kX9_again_15 {X : Scr} {M : Mem} {P : Option AV → Mem → Prop} (k : P (some (vi (-1 : Int))) M) : Runs X mX9_again 15 [] [] M P := by
  refine Runs.iconst dX9_again_15 (by decide) ?_
  exact Runs.reti dX9_again_16 rfl k
theorem kX9_again_17 {X : Scr} {M : Mem} {P : Option AV → Mem → Prop} {x1 : Int} (k1 : (M 337 (x1).toNat) ≠ 0 → Runs X mX9_again 29 [(0, vr 200), (1, vi x1)] [] M P) (k2 : (M 337 (x1).toNat) = 0 → Runs X mX9_again 26 [] [] M P) (h1 : 0 ≤ x1 := by omega) (h2 : x1 < ((2 : Nat) : Int) := by omega) : Runs X mX9_again 17 [(0, vr 200), (1, vi x1)] [] M P := by
  refine Runs.aload_n (j := 0) dX9_again_17 rfl ?_
  refine Runs.getr (o' := 337) (ci := 9) (j := 37) (C := RX9) (T := TX9) (N := 48) dX9_again_18 rfl cls_X9 (by decide) rfl fl_X9_93 rfl ⟨rfl, "", Or.inr ⟨_, rfl⟩⟩ ?_
  refine Runs.iload_n (j := 1) dX9_again_21 rfl ?_
  refine Runs.zald dX9_again_22 rfl h1 h2 ?_
  refine Runs.if_ne (tgt := 29) dX9_again_23 (by decide) (fun h => ?_) (fun h => ?_)
  · exact k1 h
  · refine Runs.picks (loc' := []) [] rfl ?_
    exact k2 h
theorem kX9_again_26 {X : Scr} {M : Mem} {P : Option AV → Mem → Prop} (k : P (some (vi (-3 : Int))) M) : Runs X mX9_again 26 [] [] M P := by
  refine Runs.bipush dX9_again_26 (by decide) (by decide) ?_
  exact Runs.reti dX9_again_28 rfl k
theorem kX9_again_29 {X : Scr} {M : Mem} {P Q : Option AV → Mem → Prop} {x1 : Int} (hC : Call X mX9_take [vr 200, vr 333, vi ((121 : Int) * x1)] (up2 M 200 6 (M 333 (((121 : Int) * x1)).toNat)) Q) (k : ∀ (M1 : Mem), Q none M1 → Runs X mX9_again 54 [(0, vr 200), (1, vi x1)] [] M1 P) (h1 : -2147483648 ≤ ((121 : Int) * x1) ∧ ((121 : Int) * x1) ≤ 2147483647 := by omega) (h2 : 0 ≤ ((121 : Int) * x1) := by omega) (h3 : ((121 : Int) * x1) < ((242 : Nat) : Int) := by omega) : Runs X mX9_again 29 [(0, vr 200), (1, vi x1)] [] M P := by
  refine Runs.aload_n (j := 0) dX9_again_29 rfl ?_
  refine Runs.aload_n (j := 0) dX9_again_30 rfl ?_
  refine Runs.getr (o' := 333) (ci := 9) (j := 33) (C := RX9) (T := TX9) (N := 48) dX9_again_31 rfl cls_X9 (by decide) rfl fl_X9_81 rfl ⟨rfl, "", Or.inr ⟨_, rfl⟩⟩ ?_
  refine Runs.bipush dX9_again_34 (by decide) (by decide) ?_
  refine Runs.iload_n (j := 1) dX9_again_36 rfl ?_
  refine Runs.imul dX9_again_37 h1 ?_
  refine Runs.iald dX9_again_38 rfl h2 h3 ?_
  refine Runs.puti (ci := 9) (j := 6) (C := RX9) (T := TX9) (N := 48) dX9_again_39 rfl cls_X9 (by decide) rfl fl_X9_111 rfl rfl ?_
  refine Runs.aload_n (j := 0) dX9_again_42 rfl ?_
  refine Runs.aload_n (j := 0) dX9_again_43 rfl ?_
  refine Runs.getr (o' := 333) (ci := 9) (j := 33) (C := RX9) (T := TX9) (N := 48) dX9_again_44 rfl cls_X9 (by decide) rfl fl_X9_81 rfl ⟨rfl, "", Or.inr ⟨_, rfl⟩⟩ ?_
  refine Runs.bipush dX9_again_47 (by decide) (by decide) ?_
  refine Runs.iload_n (j := 1) dX9_again_49 rfl ?_
  refine Runs.imul dX9_again_50 h1 ?_
  refine Runs.callVv (y := mX9_take) (n := 2) (as := [vr 333, vi ((121 : Int) * x1)]) (st := []) (q := (RX9, TX9, 48)) dX9_again_51 oc_X9_take im_X9_take se_X9_take ml_X9_231 rfl ⟨(Nat.le_of_ble_eq_true rfl), (Nat.le_of_ble_eq_true rfl)⟩ (Nat.le_of_ble_eq_true rfl) (Nat.le_of_ble_eq_true rfl) rfl rfl rfl rfl hC (fun M1 hQ => ?_)
  exact k M1 hQ
theorem kX9_again_54 {X : Scr} {M : Mem} {P : Option AV → Mem → Prop} {x1 : Int} (k : Runs X mX9_again 56 [(0, vr 200), (1, vi x1), (2, vi (0 : Int))] [] M P) : Runs X mX9_again 54 [(0, vr 200), (1, vi x1)] [] M P := by
  refine Runs.iconst dX9_again_54 (by decide) ?_
  refine Runs.istore_n (loc' := [(0, vr 200), (1, vi x1), (2, vi (0 : Int))]) dX9_again_55 rfl (by decide) rfl ?_
  exact k
theorem kX9_again_56 {X : Scr} {M : Mem} {P : Option AV → Mem → Prop} {x1 x2 : Int} (k1 : (10 : Int) ≤ x2 → Runs X mX9_again 143 [(0, vr 200), (1, vi x1)] [] M P) (k2 : x2 < (10 : Int) → Runs X mX9_again 62 [(0, vr 200), (1, vi x1), (2, vi x2)] [] M P) : Runs X mX9_again 56 [(0, vr 200), (1, vi x1), (2, vi x2)] [] M P := by
  refine Runs.iload_n (j := 2) dX9_again_56 rfl ?_
  refine Runs.bipush dX9_again_57 (by decide) (by decide) ?_
  refine Runs.icmp_ge (tgt := 143) dX9_again_59 (by decide) (fun h => ?_) (fun h => ?_)
  · refine Runs.picks (loc' := [(0, vr 200), (1, vi x1)]) [0, 1] rfl ?_
    exact k1 h
  · exact k2 h
theorem kX9_again_62 {X : Scr} {M : Mem} {P : Option AV → Mem → Prop} {x1 x2 : Int} (k1 : ((up2 M 312 (x2).toNat (M 334 ((((30 : Int) * x1) + x2)).toNat)) 334 (((((30 : Int) * x1) + (10 : Int)) + x2)).toNat) ≠ (1 : Int) → Runs X mX9_again 106 [(0, vr 200), (1, vi x1), (2, vi x2)] [vi x2, vr 308] (up2 M 312 (x2).toNat (M 334 ((((30 : Int) * x1) + x2)).toNat)) P) (k2 : ((up2 M 312 (x2).toNat (M 334 ((((30 : Int) * x1) + x2)).toNat)) 334 (((((30 : Int) * x1) + (10 : Int)) + x2)).toNat) = (1 : Int) → Runs X mX9_again 102 [(0, vr 200), (1, vi x1), (2, vi x2)] [vi x2, vr 308] (up2 M 312 (x2).toNat (M 334 ((((30 : Int) * x1) + x2)).toNat)) P) (h1 : -2147483648 ≤ ((30 : Int) * x1) ∧ ((30 : Int) * x1) ≤ 2147483647 := by omega) (h2 : -2147483648 ≤ (((30 : Int) * x1) + x2) ∧ (((30 : Int) * x1) + x2) ≤ 2147483647 := by omega) (h3 : 0 ≤ (((30 : Int) * x1) + x2) := by omega) (h4 : (((30 : Int) * x1) + x2) < ((60 : Nat) : Int) := by omega) (h5 : 0 ≤ x2 := by omega) (h6 : x2 < ((10 : Nat) : Int) := by omega) (h7 : -2147483648 ≤ (((30 : Int) * x1) + (10 : Int)) ∧ (((30 : Int) * x1) + (10 : Int)) ≤ 2147483647 := by omega) (h8 : -2147483648 ≤ ((((30 : Int) * x1) + (10 : Int)) + x2) ∧ ((((30 : Int) * x1) + (10 : Int)) + x2) ≤ 2147483647 := by omega) (h9 : 0 ≤ ((((30 : Int) * x1) + (10 : Int)) + x2) := by omega) (h10 : ((((30 : Int) * x1) + (10 : Int)) + x2) < ((60 : Nat) : Int) := by omega) : Runs X mX9_again 62 [(0, vr 200), (1, vi x1), (2, vi x2)] [] M P := by
  refine Runs.aload_n (j := 0) dX9_again_62 rfl ?_
  refine Runs.getr (o' := 312) (ci := 9) (j := 12) (C := RX9) (T := TX9) (N := 48) dX9_again_63 rfl cls_X9 (by decide) rfl fl_X9_36 rfl ⟨rfl, "", Or.inr ⟨_, rfl⟩⟩ ?_
  refine Runs.iload_n (j := 2) dX9_again_66 rfl ?_
  refine Runs.aload_n (j := 0) dX9_again_67 rfl ?_
  refine Runs.getr (o' := 334) (ci := 9) (j := 34) (C := RX9) (T := TX9) (N := 48) dX9_again_68 rfl cls_X9 (by decide) rfl fl_X9_84 rfl ⟨rfl, "", Or.inr ⟨_, rfl⟩⟩ ?_
  refine Runs.bipush dX9_again_71 (by decide) (by decide) ?_
  refine Runs.iload_n (j := 1) dX9_again_73 rfl ?_
  refine Runs.imul dX9_again_74 h1 ?_
  refine Runs.iload_n (j := 2) dX9_again_75 rfl ?_
  refine Runs.iadd dX9_again_76 h2 ?_
  refine Runs.iald dX9_again_77 rfl h3 h4 ?_
  refine Runs.iast dX9_again_78 rfl h5 h6 ?_
  refine Runs.aload_n (j := 0) dX9_again_79 rfl ?_
  refine Runs.getr (o' := 308) (ci := 9) (j := 8) (C := RX9) (T := TX9) (N := 48) dX9_again_80 rfl cls_X9 (by decide) rfl fl_X9_23 rfl ⟨rfl, "", Or.inr ⟨_, rfl⟩⟩ ?_
  refine Runs.iload_n (j := 2) dX9_again_83 rfl ?_
  refine Runs.aload_n (j := 0) dX9_again_84 rfl ?_
  refine Runs.getr (o' := 334) (ci := 9) (j := 34) (C := RX9) (T := TX9) (N := 48) dX9_again_85 rfl cls_X9 (by decide) rfl fl_X9_84 rfl ⟨rfl, "", Or.inr ⟨_, rfl⟩⟩ ?_
  refine Runs.bipush dX9_again_88 (by decide) (by decide) ?_
  refine Runs.iload_n (j := 1) dX9_again_90 rfl ?_
  refine Runs.imul dX9_again_91 h1 ?_
  refine Runs.bipush dX9_again_92 (by decide) (by decide) ?_
  refine Runs.iadd dX9_again_94 h7 ?_
  refine Runs.iload_n (j := 2) dX9_again_95 rfl ?_
  refine Runs.iadd dX9_again_96 h8 ?_
  refine Runs.iald dX9_again_97 rfl h9 h10 ?_
  refine Runs.iconst dX9_again_98 (by decide) ?_
  refine Runs.icmp_ne (tgt := 106) dX9_again_99 (by decide) (fun h => ?_) (fun h => ?_)
  · exact k1 h
  · exact k2 h
theorem kX9_again_102 {X : Scr} {M : Mem} {P : Option AV → Mem → Prop} {x1 x2 xs1 : Int} (k : Runs X mX9_again 107 [(0, vr 200), (1, vi x1), (2, vi x2)] [vi (1 : Int), vi xs1, vr 308] M P) : Runs X mX9_again 102 [(0, vr 200), (1, vi x1), (2, vi x2)] [vi xs1, vr 308] M P := by
  refine Runs.iconst dX9_again_102 (by decide) ?_
  refine Runs.goto (tgt := 107) dX9_again_103 (by decide) ?_
  exact k
theorem kX9_again_106 {X : Scr} {M : Mem} {P : Option AV → Mem → Prop} {x1 x2 xs1 : Int} (k : Runs X mX9_again 107 [(0, vr 200), (1, vi x1), (2, vi x2)] [vi (0 : Int), vi xs1, vr 308] M P) : Runs X mX9_again 106 [(0, vr 200), (1, vi x1), (2, vi x2)] [vi xs1, vr 308] M P := by
  refine Runs.iconst dX9_again_106 (by decide) ?_
  exact k
theorem kX9_again_107 {X : Scr} {M : Mem} {P : Option AV → Mem → Prop} {x1 x2 xs1 xs2 : Int} (k1 : ((up2 M 308 (xs1).toNat xs2) 334 (((((30 : Int) * x1) + (20 : Int)) + x2)).toNat) ≠ (1 : Int) → Runs X mX9_again 135 [(0, vr 200), (1, vi x1), (2, vi x2)] [vi x2, vr 311] (up2 M 308 (xs1).toNat xs2) P) (k2 : ((up2 M 308 (xs1).toNat xs2) 334 (((((30 : Int) * x1) + (20 : Int)) + x2)).toNat) = (1 : Int) → Runs X mX9_again 131 [(0, vr 200), (1, vi x1), (2, vi x2)] [vi x2, vr 311] (up2 M 308 (xs1).toNat xs2) P) (h1 : 0 ≤ xs1 := by omega) (h2 : xs1 < ((10 : Nat) : Int) := by omega) (h3 : 0 ≤ xs2 ∧ xs2 ≤ 1 := by omega) (h4 : -2147483648 ≤ ((30 : Int) * x1) ∧ ((30 : Int) * x1) ≤ 2147483647 := by omega) (h5 : -2147483648 ≤ (((30 : Int) * x1) + (20 : Int)) ∧ (((30 : Int) * x1) + (20 : Int)) ≤ 2147483647 := by omega) (h6 : -2147483648 ≤ ((((30 : Int) * x1) + (20 : Int)) + x2) ∧ ((((30 : Int) * x1) + (20 : Int)) + x2) ≤ 2147483647 := by omega) (h7 : 0 ≤ ((((30 : Int) * x1) + (20 : Int)) + x2) := by omega) (h8 : ((((30 : Int) * x1) + (20 : Int)) + x2) < ((60 : Nat) : Int) := by omega) : Runs X mX9_again 107 [(0, vr 200), (1, vi x1), (2, vi x2)] [vi xs2, vi xs1, vr 308] M P := by
  refine Runs.zast dX9_again_107 rfl h1 h2 h3 ?_
  refine Runs.aload_n (j := 0) dX9_again_108 rfl ?_
  refine Runs.getr (o' := 311) (ci := 9) (j := 11) (C := RX9) (T := TX9) (N := 48) dX9_again_109 rfl cls_X9 (by decide) rfl fl_X9_33 rfl ⟨rfl, "", Or.inr ⟨_, rfl⟩⟩ ?_
  refine Runs.iload_n (j := 2) dX9_again_112 rfl ?_
  refine Runs.aload_n (j := 0) dX9_again_113 rfl ?_
  refine Runs.getr (o' := 334) (ci := 9) (j := 34) (C := RX9) (T := TX9) (N := 48) dX9_again_114 rfl cls_X9 (by decide) rfl fl_X9_84 rfl ⟨rfl, "", Or.inr ⟨_, rfl⟩⟩ ?_
  refine Runs.bipush dX9_again_117 (by decide) (by decide) ?_
  refine Runs.iload_n (j := 1) dX9_again_119 rfl ?_
  refine Runs.imul dX9_again_120 h4 ?_
  refine Runs.bipush dX9_again_121 (by decide) (by decide) ?_
  refine Runs.iadd dX9_again_123 h5 ?_
  refine Runs.iload_n (j := 2) dX9_again_124 rfl ?_
  refine Runs.iadd dX9_again_125 h6 ?_
  refine Runs.iald dX9_again_126 rfl h7 h8 ?_
  refine Runs.iconst dX9_again_127 (by decide) ?_
  refine Runs.icmp_ne (tgt := 135) dX9_again_128 (by decide) (fun h => ?_) (fun h => ?_)
  · exact k1 h
  · exact k2 h
theorem kX9_again_131 {X : Scr} {M : Mem} {P : Option AV → Mem → Prop} {x1 x2 xs1 : Int} (k : Runs X mX9_again 136 [(0, vr 200), (1, vi x1), (2, vi x2)] [vi (1 : Int), vi xs1, vr 311] M P) : Runs X mX9_again 131 [(0, vr 200), (1, vi x1), (2, vi x2)] [vi xs1, vr 311] M P := by
  refine Runs.iconst dX9_again_131 (by decide) ?_
  refine Runs.goto (tgt := 136) dX9_again_132 (by decide) ?_
  exact k
theorem kX9_again_135 {X : Scr} {M : Mem} {P : Option AV → Mem → Prop} {x1 x2 xs1 : Int} (k : Runs X mX9_again 136 [(0, vr 200), (1, vi x1), (2, vi x2)] [vi (0 : Int), vi xs1, vr 311] M P) : Runs X mX9_again 135 [(0, vr 200), (1, vi x1), (2, vi x2)] [vi xs1, vr 311] M P := by
  refine Runs.iconst dX9_again_135 (by decide) ?_
  exact k
theorem kX9_again_136 {X : Scr} {M : Mem} {P : Option AV → Mem → Prop} {x1 x2 xs1 xs2 : Int} (k : Runs X mX9_again 56 [(0, vr 200), (1, vi x1), (2, vi (x2 + (1 : Int)))] [] (up2 M 311 (xs1).toNat xs2) P) (h1 : 0 ≤ xs1 := by omega) (h2 : xs1 < ((10 : Nat) : Int) := by omega) (h3 : 0 ≤ xs2 ∧ xs2 ≤ 1 := by omega) (h4 : -2147483648 ≤ (x2 + (1 : Int)) ∧ (x2 + (1 : Int)) ≤ 2147483647 := by omega) : Runs X mX9_again 136 [(0, vr 200), (1, vi x1), (2, vi x2)] [vi xs2, vi xs1, vr 311] M P := by
  refine Runs.zast dX9_again_136 rfl h1 h2 h3 ?_
  refine Runs.iinc (k := 2) (loc' := [(0, vr 200), (1, vi x1), (2, vi (x2 + (1 : Int)))]) dX9_again_137 rfl h4 (by decide) rfl ?_
  refine Runs.goto (tgt := 56) dX9_again_140 (by decide) ?_
  exact k
theorem kX9_again_143 {X : Scr} {M : Mem} {P : Option AV → Mem → Prop} {x1 : Int} (k : Runs X mX9_again 145 [(0, vr 200), (1, vi x1), (2, vi (0 : Int))] [] M P) : Runs X mX9_again 143 [(0, vr 200), (1, vi x1)] [] M P := by
  refine Runs.iconst dX9_again_143 (by decide) ?_
  refine Runs.istore_n (loc' := [(0, vr 200), (1, vi x1), (2, vi (0 : Int))]) dX9_again_144 rfl (by decide) rfl ?_
  exact k
theorem kX9_again_145 {X : Scr} {M : Mem} {P : Option AV → Mem → Prop} {x1 x2 : Int} (k1 : (968 : Int) ≤ x2 → Runs X mX9_again 176 [(0, vr 200), (1, vi x1)] [] M P) (k2 : x2 < (968 : Int) → Runs X mX9_again 152 [(0, vr 200), (1, vi x1), (2, vi x2)] [] M P) : Runs X mX9_again 145 [(0, vr 200), (1, vi x1), (2, vi x2)] [] M P := by
  refine Runs.iload_n (j := 2) dX9_again_145 rfl ?_
  refine Runs.sipush dX9_again_146 (by decide) (by decide) ?_
  refine Runs.icmp_ge (tgt := 176) dX9_again_149 (by decide) (fun h => ?_) (fun h => ?_)
  · refine Runs.picks (loc' := [(0, vr 200), (1, vi x1)]) [0, 1] rfl ?_
    exact k1 h
  · exact k2 h
theorem kX9_again_152 {X : Scr} {M : Mem} {P : Option AV → Mem → Prop} {x1 x2 : Int} (k : Runs X mX9_again 145 [(0, vr 200), (1, vi x1), (2, vi (x2 + (1 : Int)))] [] (up2 M 329 (x2).toNat (M 335 ((((968 : Int) * x1) + x2)).toNat)) P) (h1 : -2147483648 ≤ ((968 : Int) * x1) ∧ ((968 : Int) * x1) ≤ 2147483647 := by omega) (h2 : -2147483648 ≤ (((968 : Int) * x1) + x2) ∧ (((968 : Int) * x1) + x2) ≤ 2147483647 := by omega) (h3 : 0 ≤ (((968 : Int) * x1) + x2) := by omega) (h4 : (((968 : Int) * x1) + x2) < ((1936 : Nat) : Int) := by omega) (h5 : 0 ≤ x2 := by omega) (h6 : x2 < ((968 : Nat) : Int) := by omega) (h7 : -2147483648 ≤ (x2 + (1 : Int)) ∧ (x2 + (1 : Int)) ≤ 2147483647 := by omega) : Runs X mX9_again 152 [(0, vr 200), (1, vi x1), (2, vi x2)] [] M P := by
  refine Runs.aload_n (j := 0) dX9_again_152 rfl ?_
  refine Runs.getr (o' := 329) (ci := 9) (j := 29) (C := RX9) (T := TX9) (N := 48) dX9_again_153 rfl cls_X9 (by decide) rfl fl_X9_72 rfl ⟨rfl, "", Or.inr ⟨_, rfl⟩⟩ ?_
  refine Runs.iload_n (j := 2) dX9_again_156 rfl ?_
  refine Runs.aload_n (j := 0) dX9_again_157 rfl ?_
  refine Runs.getr (o' := 335) (ci := 9) (j := 35) (C := RX9) (T := TX9) (N := 48) dX9_again_158 rfl cls_X9 (by decide) rfl fl_X9_87 rfl ⟨rfl, "", Or.inr ⟨_, rfl⟩⟩ ?_
  refine Runs.sipush dX9_again_161 (by decide) (by decide) ?_
  refine Runs.iload_n (j := 1) dX9_again_164 rfl ?_
  refine Runs.imul dX9_again_165 h1 ?_
  refine Runs.iload_n (j := 2) dX9_again_166 rfl ?_
  refine Runs.iadd dX9_again_167 h2 ?_
  refine Runs.iald dX9_again_168 rfl h3 h4 ?_
  refine Runs.iast dX9_again_169 rfl h5 h6 ?_
  refine Runs.iinc (k := 2) (loc' := [(0, vr 200), (1, vi x1), (2, vi (x2 + (1 : Int)))]) dX9_again_170 rfl h7 (by decide) rfl ?_
  refine Runs.goto (tgt := 145) dX9_again_173 (by decide) ?_
  exact k
theorem kX9_again_176 {X : Scr} {M : Mem} {P : Option AV → Mem → Prop} {x1 : Int} (k : Runs X mX9_again 178 [(0, vr 200), (1, vi x1), (2, vi (0 : Int))] [] M P) : Runs X mX9_again 176 [(0, vr 200), (1, vi x1)] [] M P := by
  refine Runs.iconst dX9_again_176 (by decide) ?_
  refine Runs.istore_n (loc' := [(0, vr 200), (1, vi x1), (2, vi (0 : Int))]) dX9_again_177 rfl (by decide) rfl ?_
  exact k
theorem kX9_again_178 {X : Scr} {M : Mem} {P : Option AV → Mem → Prop} {x1 x2 : Int} (k1 : (16 : Int) ≤ x2 → Runs X mX9_again 227 [(0, vr 200), (1, vi x1)] [] M P) (k2 : x2 < (16 : Int) → Runs X mX9_again 184 [(0, vr 200), (1, vi x1), (2, vi x2)] [] M P) : Runs X mX9_again 178 [(0, vr 200), (1, vi x1), (2, vi x2)] [] M P := by
  refine Runs.iload_n (j := 2) dX9_again_178 rfl ?_
  refine Runs.bipush dX9_again_179 (by decide) (by decide) ?_
  refine Runs.icmp_ge (tgt := 227) dX9_again_181 (by decide) (fun h => ?_) (fun h => ?_)
  · refine Runs.picks (loc' := [(0, vr 200), (1, vi x1)]) [0, 1] rfl ?_
    exact k1 h
  · exact k2 h
theorem kX9_again_184 {X : Scr} {M : Mem} {P : Option AV → Mem → Prop} {x1 x2 : Int} (k : Runs X mX9_again 178 [(0, vr 200), (1, vi x1), (2, vi (x2 + (1 : Int)))] [] (up2 (up2 M 331 (x2).toNat (M 336 ((((32 : Int) * x1) + x2)).toNat)) 332 (x2).toNat ((up2 M 331 (x2).toNat (M 336 ((((32 : Int) * x1) + x2)).toNat)) 336 (((((32 : Int) * x1) + (16 : Int)) + x2)).toNat)) P) (h1 : -2147483648 ≤ ((32 : Int) * x1) ∧ ((32 : Int) * x1) ≤ 2147483647 := by omega) (h2 : -2147483648 ≤ (((32 : Int) * x1) + x2) ∧ (((32 : Int) * x1) + x2) ≤ 2147483647 := by omega) (h3 : 0 ≤ (((32 : Int) * x1) + x2) := by omega) (h4 : (((32 : Int) * x1) + x2) < ((64 : Nat) : Int) := by omega) (h5 : 0 ≤ x2 := by omega) (h6 : x2 < ((16 : Nat) : Int) := by omega) (h7 : -2147483648 ≤ (((32 : Int) * x1) + (16 : Int)) ∧ (((32 : Int) * x1) + (16 : Int)) ≤ 2147483647 := by omega) (h8 : -2147483648 ≤ ((((32 : Int) * x1) + (16 : Int)) + x2) ∧ ((((32 : Int) * x1) + (16 : Int)) + x2) ≤ 2147483647 := by omega) (h9 : 0 ≤ ((((32 : Int) * x1) + (16 : Int)) + x2) := by omega) (h10 : ((((32 : Int) * x1) + (16 : Int)) + x2) < ((64 : Nat) : Int) := by omega) (h11 : -2147483648 ≤ (x2 + (1 : Int)) ∧ (x2 + (1 : Int)) ≤ 2147483647 := by omega) : Runs X mX9_again 184 [(0, vr 200), (1, vi x1), (2, vi x2)] [] M P := by
  refine Runs.aload_n (j := 0) dX9_again_184 rfl ?_
  refine Runs.getr (o' := 331) (ci := 9) (j := 31) (C := RX9) (T := TX9) (N := 48) dX9_again_185 rfl cls_X9 (by decide) rfl fl_X9_75 rfl ⟨rfl, "", Or.inr ⟨_, rfl⟩⟩ ?_
  refine Runs.iload_n (j := 2) dX9_again_188 rfl ?_
  refine Runs.aload_n (j := 0) dX9_again_189 rfl ?_
  refine Runs.getr (o' := 336) (ci := 9) (j := 36) (C := RX9) (T := TX9) (N := 48) dX9_again_190 rfl cls_X9 (by decide) rfl fl_X9_90 rfl ⟨rfl, "", Or.inr ⟨_, rfl⟩⟩ ?_
  refine Runs.bipush dX9_again_193 (by decide) (by decide) ?_
  refine Runs.iload_n (j := 1) dX9_again_195 rfl ?_
  refine Runs.imul dX9_again_196 h1 ?_
  refine Runs.iload_n (j := 2) dX9_again_197 rfl ?_
  refine Runs.iadd dX9_again_198 h2 ?_
  refine Runs.iald dX9_again_199 rfl h3 h4 ?_
  refine Runs.iast dX9_again_200 rfl h5 h6 ?_
  refine Runs.aload_n (j := 0) dX9_again_201 rfl ?_
  refine Runs.getr (o' := 332) (ci := 9) (j := 32) (C := RX9) (T := TX9) (N := 48) dX9_again_202 rfl cls_X9 (by decide) rfl fl_X9_78 rfl ⟨rfl, "", Or.inr ⟨_, rfl⟩⟩ ?_
  refine Runs.iload_n (j := 2) dX9_again_205 rfl ?_
  refine Runs.aload_n (j := 0) dX9_again_206 rfl ?_
  refine Runs.getr (o' := 336) (ci := 9) (j := 36) (C := RX9) (T := TX9) (N := 48) dX9_again_207 rfl cls_X9 (by decide) rfl fl_X9_90 rfl ⟨rfl, "", Or.inr ⟨_, rfl⟩⟩ ?_
  refine Runs.bipush dX9_again_210 (by decide) (by decide) ?_
  refine Runs.iload_n (j := 1) dX9_again_212 rfl ?_
  refine Runs.imul dX9_again_213 h1 ?_
  refine Runs.bipush dX9_again_214 (by decide) (by decide) ?_
  refine Runs.iadd dX9_again_216 h7 ?_
  refine Runs.iload_n (j := 2) dX9_again_217 rfl ?_
  refine Runs.iadd dX9_again_218 h8 ?_
  refine Runs.iald dX9_again_219 rfl h9 h10 ?_
  refine Runs.iast dX9_again_220 rfl h5 h6 ?_
  refine Runs.iinc (k := 2) (loc' := [(0, vr 200), (1, vi x1), (2, vi (x2 + (1 : Int)))]) dX9_again_221 rfl h11 (by decide) rfl ?_
  refine Runs.goto (tgt := 178) dX9_again_224 (by decide) ?_
  exact k
theorem kX9_again_227 {X : Scr} {M : Mem} {P : Option AV → Mem → Prop} {x1 : Int} (k : P (some (vi ((up2 M 200 30 (M 338 (x1).toNat)) 200 6))) (up2 M 200 30 (M 338 (x1).toNat))) (h1 : 0 ≤ x1 := by omega) (h2 : x1 < ((2 : Nat) : Int) := by omega) : Runs X mX9_again 227 [(0, vr 200), (1, vi x1)] [] M P := by
  refine Runs.aload_n (j := 0) dX9_again_227 rfl ?_
  refine Runs.aload_n (j := 0) dX9_again_228 rfl ?_
  refine Runs.getr (o' := 338) (ci := 9) (j := 38) (C := RX9) (T := TX9) (N := 48) dX9_again_229 rfl cls_X9 (by decide) rfl fl_X9_96 rfl ⟨rfl, "", Or.inr ⟨_, rfl⟩⟩ ?_
  refine Runs.iload_n (j := 1) dX9_again_232 rfl ?_
  refine Runs.iald dX9_again_233 rfl h1 h2 ?_
  refine Runs.puti (ci := 9) (j := 30) (C := RX9) (T := TX9) (N := 48) dX9_again_234 rfl cls_X9 (by decide) rfl fl_X9_169 rfl rfl ?_
  refine Runs.aload_n (j := 0) dX9_again_237 rfl ?_
  refine Runs.geti (ci := 9) (j := 6) (C := RX9) (T := TX9) (N := 48) dX9_again_238 rfl cls_X9 (by decide) rfl fl_X9_111 (Or.inl rfl) ?_
  exact Runs.reti dX9_again_241 rfl k
