/-! ===== printed by program: decode rows, block rows of X7 ===== -/
theorem dX7_append_0 : decode cX7_append 0 = .ok (.aload_n 0, 1) := by decide +kernel
theorem dX7_append_1 : decode cX7_append 1 = .ok (.getfield 15, 3) := by decide +kernel
theorem dX7_append_4 : decode cX7_append 4 = .ok (.ifCond .lt 35, 3) := by decide +kernel
theorem dX7_append_7 : decode cX7_append 7 = .ok (.aload_n 0, 1) := by decide +kernel
theorem dX7_append_8 : decode cX7_append 8 = .ok (.getfield 15, 3) := by decide +kernel
theorem dX7_append_11 : decode cX7_append 11 = .ok (.aload_n 0, 1) := by decide +kernel
theorem dX7_append_12 : decode cX7_append 12 = .ok (.getfield 9, 3) := by decide +kernel
theorem dX7_append_15 : decode cX7_append 15 = .ok (.arraylength, 1) := by decide +kernel
theorem dX7_append_16 : decode cX7_append 16 = .ok (.if_icmp .ge 23, 3) := by decide +kernel
theorem dX7_append_19 : decode cX7_append 19 = .ok (.aload_n 0, 1) := by decide +kernel
theorem dX7_append_20 : decode cX7_append 20 = .ok (.getfield 9, 3) := by decide +kernel
theorem dX7_append_23 : decode cX7_append 23 = .ok (.aload_n 0, 1) := by decide +kernel
theorem dX7_append_24 : decode cX7_append 24 = .ok (.getfield 15, 3) := by decide +kernel
theorem dX7_append_27 : decode cX7_append 27 = .ok (.iload_n 1, 1) := by decide +kernel
theorem dX7_append_28 : decode cX7_append 28 = .ok (.bastore, 1) := by decide +kernel
theorem dX7_append_29 : decode cX7_append 29 = .ok (.aload_n 0, 1) := by decide +kernel
theorem dX7_append_30 : decode cX7_append 30 = .ok (.dup, 1) := by decide +kernel
theorem dX7_append_31 : decode cX7_append 31 = .ok (.getfield 15, 3) := by decide +kernel
theorem dX7_append_34 : decode cX7_append 34 = .ok (.iconst 1, 1) := by decide +kernel
theorem dX7_append_35 : decode cX7_append 35 = .ok (.iadd, 1) := by decide +kernel
theorem dX7_append_36 : decode cX7_append 36 = .ok (.putfield 15, 3) := by decide +kernel
theorem dX7_append_39 : decode cX7_append 39 = .ok (.return_, 1) := by decide +kernel
theorem dX7_byteAt_0 : decode cX7_byteAt 0 = .ok (.iload_n 1, 1) := by decide +kernel
theorem dX7_byteAt_1 : decode cX7_byteAt 1 = .ok (.ifCond .lt 12, 3) := by decide +kernel
theorem dX7_byteAt_4 : decode cX7_byteAt 4 = .ok (.iload_n 1, 1) := by decide +kernel
theorem dX7_byteAt_5 : decode cX7_byteAt 5 = .ok (.aload_n 0, 1) := by decide +kernel
theorem dX7_byteAt_6 : decode cX7_byteAt 6 = .ok (.getfield 9, 3) := by decide +kernel
theorem dX7_byteAt_9 : decode cX7_byteAt 9 = .ok (.arraylength, 1) := by decide +kernel
theorem dX7_byteAt_10 : decode cX7_byteAt 10 = .ok (.if_icmp .lt 7, 3) := by decide +kernel
theorem dX7_byteAt_13 : decode cX7_byteAt 13 = .ok (.iconst 0, 1) := by decide +kernel
theorem dX7_byteAt_14 : decode cX7_byteAt 14 = .ok (.goto 13, 3) := by decide +kernel
theorem dX7_byteAt_17 : decode cX7_byteAt 17 = .ok (.aload_n 0, 1) := by decide +kernel
theorem dX7_byteAt_18 : decode cX7_byteAt 18 = .ok (.getfield 9, 3) := by decide +kernel
theorem dX7_byteAt_21 : decode cX7_byteAt 21 = .ok (.iload_n 1, 1) := by decide +kernel
theorem dX7_byteAt_22 : decode cX7_byteAt 22 = .ok (.baload, 1) := by decide +kernel
theorem dX7_byteAt_23 : decode cX7_byteAt 23 = .ok (.sipush 255, 3) := by decide +kernel
theorem dX7_byteAt_26 : decode cX7_byteAt 26 = .ok (.iand, 1) := by decide +kernel
theorem dX7_byteAt_27 : decode cX7_byteAt 27 = .ok (.ireturn, 1) := by decide +kernel
theorem dX7_figureAt_0 : decode cX7_figureAt 0 = .ok (.aload_n 0, 1) := by decide +kernel
theorem dX7_figureAt_1 : decode cX7_figureAt 1 = .ok (.iload_n 1, 1) := by decide +kernel
theorem dX7_figureAt_2 : decode cX7_figureAt 2 = .ok (.invokevirtual 19, 3) := by decide +kernel
theorem dX7_figureAt_5 : decode cX7_figureAt 5 = .ok (.bipush 48, 2) := by decide +kernel
theorem dX7_figureAt_7 : decode cX7_figureAt 7 = .ok (.isub, 1) := by decide +kernel
theorem dX7_figureAt_8 : decode cX7_figureAt 8 = .ok (.ireturn, 1) := by decide +kernel
theorem dX7_tellsTooth_0 : decode cX7_tellsTooth 0 = .ok (.iload_n 0, 1) := by decide +kernel
theorem dX7_tellsTooth_1 : decode cX7_tellsTooth 1 = .ok (.bipush 84, 2) := by decide +kernel
theorem dX7_tellsTooth_3 : decode cX7_tellsTooth 3 = .ok (.if_icmp .eq 9, 3) := by decide +kernel
theorem dX7_tellsTooth_6 : decode cX7_tellsTooth 6 = .ok (.iload_n 0, 1) := by decide +kernel
theorem dX7_tellsTooth_7 : decode cX7_tellsTooth 7 = .ok (.bipush 66, 2) := by decide +kernel
theorem dX7_tellsTooth_9 : decode cX7_tellsTooth 9 = .ok (.if_icmp .ne 7, 3) := by decide +kernel
theorem dX7_tellsTooth_12 : decode cX7_tellsTooth 12 = .ok (.iconst 1, 1) := by decide +kernel
theorem dX7_tellsTooth_13 : decode cX7_tellsTooth 13 = .ok (.goto 4, 3) := by decide +kernel
theorem dX7_tellsTooth_16 : decode cX7_tellsTooth 16 = .ok (.iconst 0, 1) := by decide +kernel
theorem dX7_tellsTooth_17 : decode cX7_tellsTooth 17 = .ok (.ireturn, 1) := by decide +kernel
theorem dX7_partLength_0 : decode cX7_partLength 0 = .ok (.iload_n 0, 1) := by decide +kernel
theorem dX7_partLength_1 : decode cX7_partLength 1 = .ok (.lookupswitch 49 #[(66, 45), (71, 47), (76, 43), (84, 45)], 43) := by decide +kernel
theorem dX7_partLength_44 : decode cX7_partLength 44 = .ok (.iconst 3, 1) := by decide +kernel
theorem dX7_partLength_45 : decode cX7_partLength 45 = .ok (.ireturn, 1) := by decide +kernel
theorem dX7_partLength_46 : decode cX7_partLength 46 = .ok (.iconst 5, 1) := by decide +kernel
theorem dX7_partLength_47 : decode cX7_partLength 47 = .ok (.ireturn, 1) := by decide +kernel
theorem dX7_partLength_48 : decode cX7_partLength 48 = .ok (.iconst 4, 1) := by decide +kernel
theorem dX7_partLength_49 : decode cX7_partLength 49 = .ok (.ireturn, 1) := by decide +kernel
theorem dX7_partLength_50 : decode cX7_partLength 50 = .ok (.iconst 1, 1) := by decide +kernel
theorem dX7_partLength_51 : decode cX7_partLength 51 = .ok (.ireturn, 1) := by decide +kernel
theorem dX7_faultPlace_0 : decode cX7_faultPlace 0 = .ok (.iconst 0, 1) := by decide +kernel
theorem dX7_faultPlace_1 : decode cX7_faultPlace 1 = .ok (.istore_n 1, 1) := by decide +kernel
theorem dX7_faultPlace_2 : decode cX7_faultPlace 2 = .ok (.iconst 0, 1) := by decide +kernel
theorem dX7_faultPlace_3 : decode cX7_faultPlace 3 = .ok (.istore_n 2, 1) := by decide +kernel
theorem dX7_faultPlace_4 : decode cX7_faultPlace 4 = .ok (.iconst 0, 1) := by decide +kernel
theorem dX7_faultPlace_5 : decode cX7_faultPlace 5 = .ok (.istore_n 3, 1) := by decide +kernel
theorem dX7_faultPlace_6 : decode cX7_faultPlace 6 = .ok (.iconst 0, 1) := by decide +kernel
theorem dX7_faultPlace_7 : decode cX7_faultPlace 7 = .ok (.istore 4, 2) := by decide +kernel
theorem dX7_faultPlace_9 : decode cX7_faultPlace 9 = .ok (.iconst 0, 1) := by decide +kernel
theorem dX7_faultPlace_10 : decode cX7_faultPlace 10 = .ok (.istore 5, 2) := by decide +kernel
theorem dX7_faultPlace_12 : decode cX7_faultPlace 12 = .ok (.iload 5, 2) := by decide +kernel
theorem dX7_faultPlace_14 : decode cX7_faultPlace 14 = .ok (.aload_n 0, 1) := by decide +kernel
theorem dX7_faultPlace_15 : decode cX7_faultPlace 15 = .ok (.getfield 15, 3) := by decide +kernel
theorem dX7_faultPlace_18 : decode cX7_faultPlace 18 = .ok (.if_icmp .ge 116, 3) := by decide +kernel
theorem dX7_faultPlace_21 : decode cX7_faultPlace 21 = .ok (.aload_n 0, 1) := by decide +kernel
theorem dX7_faultPlace_22 : decode cX7_faultPlace 22 = .ok (.iload 5, 2) := by decide +kernel
theorem dX7_faultPlace_24 : decode cX7_faultPlace 24 = .ok (.invokevirtual 19, 3) := by decide +kernel
theorem dX7_faultPlace_27 : decode cX7_faultPlace 27 = .ok (.istore 6, 2) := by decide +kernel
theorem dX7_faultPlace_29 : decode cX7_faultPlace 29 = .ok (.iload_n 2, 1) := by decide +kernel
theorem dX7_faultPlace_30 : decode cX7_faultPlace 30 = .ok (.ifCond .le 17, 3) := by decide +kernel
theorem dX7_faultPlace_33 : decode cX7_faultPlace 33 = .ok (.aload_n 0, 1) := by decide +kernel
theorem dX7_faultPlace_34 : decode cX7_faultPlace 34 = .ok (.iload_n 1, 1) := by decide +kernel
theorem dX7_faultPlace_35 : decode cX7_faultPlace 35 = .ok (.iload_n 2, 1) := by decide +kernel
theorem dX7_faultPlace_36 : decode cX7_faultPlace 36 = .ok (.iload 5, 2) := by decide +kernel
theorem dX7_faultPlace_38 : decode cX7_faultPlace 38 = .ok (.invokevirtual 23, 3) := by decide +kernel
theorem dX7_faultPlace_41 : decode cX7_faultPlace 41 = .ok (.ifCond .ne 69, 3) := by decide +kernel
theorem dX7_faultPlace_44 : decode cX7_faultPlace 44 = .ok (.iload 5, 2) := by decide +kernel
theorem dX7_faultPlace_46 : decode cX7_faultPlace 46 = .ok (.ireturn, 1) := by decide +kernel
theorem dX7_faultPlace_47 : decode cX7_faultPlace 47 = .ok (.iload 5, 2) := by decide +kernel
theorem dX7_faultPlace_49 : decode cX7_faultPlace 49 = .ok (.ifCond .ne 13, 3) := by decide +kernel
theorem dX7_faultPlace_52 : decode cX7_faultPlace 52 = .ok (.iload 6, 2) := by decide +kernel
theorem dX7_faultPlace_54 : decode cX7_faultPlace 54 = .ok (.bipush 76, 2) := by decide +kernel
theorem dX7_faultPlace_56 : decode cX7_faultPlace 56 = .ok (.if_icmp .eq 20, 3) := by decide +kernel
theorem dX7_faultPlace_59 : decode cX7_faultPlace 59 = .ok (.goto 14, 3) := by decide +kernel
theorem dX7_faultPlace_62 : decode cX7_faultPlace 62 = .ok (.iload 6, 2) := by decide +kernel
theorem dX7_faultPlace_64 : decode cX7_faultPlace 64 = .ok (.iload_n 3, 1) := by decide +kernel
theorem dX7_faultPlace_65 : decode cX7_faultPlace 65 = .ok (.iload 4, 2) := by decide +kernel
theorem dX7_faultPlace_67 : decode cX7_faultPlace 67 = .ok (.invokestatic 27, 3) := by decide +kernel
theorem dX7_faultPlace_70 : decode cX7_faultPlace 70 = .ok (.ifCond .ne 6, 3) := by decide +kernel
theorem dX7_faultPlace_73 : decode cX7_faultPlace 73 = .ok (.iload 5, 2) := by decide +kernel
theorem dX7_faultPlace_75 : decode cX7_faultPlace 75 = .ok (.ireturn, 1) := by decide +kernel
theorem dX7_faultPlace_76 : decode cX7_faultPlace 76 = .ok (.iload 6, 2) := by decide +kernel
theorem dX7_faultPlace_78 : decode cX7_faultPlace 78 = .ok (.istore_n 1, 1) := by decide +kernel
theorem dX7_faultPlace_79 : decode cX7_faultPlace 79 = .ok (.iload_n 3, 1) := by decide +kernel
theorem dX7_faultPlace_80 : decode cX7_faultPlace 80 = .ok (.iload_n 1, 1) := by decide +kernel
theorem dX7_faultPlace_81 : decode cX7_faultPlace 81 = .ok (.invokestatic 30, 3) := by decide +kernel
theorem dX7_faultPlace_84 : decode cX7_faultPlace 84 = .ok (.ifCond .eq 7, 3) := by decide +kernel
theorem dX7_faultPlace_87 : decode cX7_faultPlace 87 = .ok (.iconst 1, 1) := by decide +kernel
theorem dX7_faultPlace_88 : decode cX7_faultPlace 88 = .ok (.goto 4, 3) := by decide +kernel
theorem dX7_faultPlace_91 : decode cX7_faultPlace 91 = .ok (.iconst 0, 1) := by decide +kernel
theorem dX7_faultPlace_92 : decode cX7_faultPlace 92 = .ok (.iadd, 1) := by decide +kernel
theorem dX7_faultPlace_93 : decode cX7_faultPlace 93 = .ok (.istore_n 3, 1) := by decide +kernel
theorem dX7_faultPlace_94 : decode cX7_faultPlace 94 = .ok (.iload 4, 2) := by decide +kernel
theorem dX7_faultPlace_96 : decode cX7_faultPlace 96 = .ok (.iload_n 1, 1) := by decide +kernel
theorem dX7_faultPlace_97 : decode cX7_faultPlace 97 = .ok (.bipush 71, 2) := by decide +kernel
theorem dX7_faultPlace_99 : decode cX7_faultPlace 99 = .ok (.if_icmp .ne 7, 3) := by decide +kernel
theorem dX7_faultPlace_102 : decode cX7_faultPlace 102 = .ok (.iconst 1, 1) := by decide +kernel
theorem dX7_faultPlace_103 : decode cX7_faultPlace 103 = .ok (.goto 4, 3) := by decide +kernel
theorem dX7_faultPlace_106 : decode cX7_faultPlace 106 = .ok (.iconst 0, 1) := by decide +kernel
theorem dX7_faultPlace_107 : decode cX7_faultPlace 107 = .ok (.iadd, 1) := by decide +kernel
theorem dX7_faultPlace_108 : decode cX7_faultPlace 108 = .ok (.istore 4, 2) := by decide +kernel
theorem dX7_faultPlace_110 : decode cX7_faultPlace 110 = .ok (.iload_n 2, 1) := by decide +kernel
theorem dX7_faultPlace_111 : decode cX7_faultPlace 111 = .ok (.iconst 1, 1) := by decide +kernel
theorem dX7_faultPlace_112 : decode cX7_faultPlace 112 = .ok (.iadd, 1) := by decide +kernel
theorem dX7_faultPlace_113 : decode cX7_faultPlace 113 = .ok (.iload_n 1, 1) := by decide +kernel
theorem dX7_faultPlace_114 : decode cX7_faultPlace 114 = .ok (.invokestatic 34, 3) := by decide +kernel
theorem dX7_faultPlace_117 : decode cX7_faultPlace 117 = .ok (.if_icmp .ge 9, 3) := by decide +kernel
theorem dX7_faultPlace_120 : decode cX7_faultPlace 120 = .ok (.iload_n 2, 1) := by decide +kernel
theorem dX7_faultPlace_121 : decode cX7_faultPlace 121 = .ok (.iconst 1, 1) := by decide +kernel
theorem dX7_faultPlace_122 : decode cX7_faultPlace 122 = .ok (.iadd, 1) := by decide +kernel
theorem dX7_faultPlace_123 : decode cX7_faultPlace 123 = .ok (.goto 4, 3) := by decide +kernel
theorem dX7_faultPlace_126 : decode cX7_faultPlace 126 = .ok (.iconst 0, 1) := by decide +kernel
theorem dX7_faultPlace_127 : decode cX7_faultPlace 127 = .ok (.istore_n 2, 1) := by decide +kernel
theorem dX7_faultPlace_128 : decode cX7_faultPlace 128 = .ok (.iinc 5 1, 3) := by decide +kernel
theorem dX7_faultPlace_131 : decode cX7_faultPlace 131 = .ok (.goto (-119), 3) := by decide +kernel
theorem dX7_faultPlace_134 : decode cX7_faultPlace 134 = .ok (.aload_n 0, 1) := by decide +kernel
theorem dX7_faultPlace_135 : decode cX7_faultPlace 135 = .ok (.getfield 15, 3) := by decide +kernel
theorem dX7_faultPlace_138 : decode cX7_faultPlace 138 = .ok (.ifCond .le 12, 3) := by decide +kernel
theorem dX7_faultPlace_141 : decode cX7_faultPlace 141 = .ok (.iload_n 2, 1) := by decide +kernel
theorem dX7_faultPlace_142 : decode cX7_faultPlace 142 = .ok (.ifCond .ne 8, 3) := by decide +kernel
theorem dX7_faultPlace_145 : decode cX7_faultPlace 145 = .ok (.bipush (-9), 2) := by decide +kernel
theorem dX7_faultPlace_147 : decode cX7_faultPlace 147 = .ok (.goto 7, 3) := by decide +kernel
theorem dX7_faultPlace_150 : decode cX7_faultPlace 150 = .ok (.aload_n 0, 1) := by decide +kernel
theorem dX7_faultPlace_151 : decode cX7_faultPlace 151 = .ok (.getfield 15, 3) := by decide +kernel
theorem dX7_faultPlace_154 : decode cX7_faultPlace 154 = .ok (.ireturn, 1) := by decide +kernel
theorem dX7_mayBegin_0 : decode cX7_mayBegin 0 = .ok (.iload_n 0, 1) := by decide +kernel
theorem dX7_mayBegin_1 : decode cX7_mayBegin 1 = .ok (.invokestatic 30, 3) := by decide +kernel
theorem dX7_mayBegin_4 : decode cX7_mayBegin 4 = .ok (.ifCond .eq 9, 3) := by decide +kernel
theorem dX7_mayBegin_7 : decode cX7_mayBegin 7 = .ok (.iload_n 1, 1) := by decide +kernel
theorem dX7_mayBegin_8 : decode cX7_mayBegin 8 = .ok (.bipush 10, 2) := by decide +kernel
theorem dX7_mayBegin_10 : decode cX7_mayBegin 10 = .ok (.if_icmp .lt 14, 3) := by decide +kernel
theorem dX7_mayBegin_13 : decode cX7_mayBegin 13 = .ok (.iload_n 0, 1) := by decide +kernel
theorem dX7_mayBegin_14 : decode cX7_mayBegin 14 = .ok (.bipush 71, 2) := by decide +kernel
theorem dX7_mayBegin_16 : decode cX7_mayBegin 16 = .ok (.if_icmp .ne 12, 3) := by decide +kernel
theorem dX7_mayBegin_19 : decode cX7_mayBegin 19 = .ok (.iload_n 2, 1) := by decide +kernel
theorem dX7_mayBegin_20 : decode cX7_mayBegin 20 = .ok (.iconst 4, 1) := by decide +kernel
theorem dX7_mayBegin_21 : decode cX7_mayBegin 21 = .ok (.if_icmp .ge 7, 3) := by decide +kernel
theorem dX7_mayBegin_24 : decode cX7_mayBegin 24 = .ok (.iconst 1, 1) := by decide +kernel
theorem dX7_mayBegin_25 : decode cX7_mayBegin 25 = .ok (.goto 4, 3) := by decide +kernel
theorem dX7_mayBegin_28 : decode cX7_mayBegin 28 = .ok (.iconst 0, 1) := by decide +kernel
theorem dX7_mayBegin_29 : decode cX7_mayBegin 29 = .ok (.ireturn, 1) := by decide +kernel
theorem dX7_mayFollow_0 : decode cX7_mayFollow 0 = .ok (.aload_n 0, 1) := by decide +kernel
theorem dX7_mayFollow_1 : decode cX7_mayFollow 1 = .ok (.iload_n 3, 1) := by decide +kernel
theorem dX7_mayFollow_2 : decode cX7_mayFollow 2 = .ok (.invokevirtual 19, 3) := by decide +kernel
theorem dX7_mayFollow_5 : decode cX7_mayFollow 5 = .ok (.istore 4, 2) := by decide +kernel
theorem dX7_mayFollow_7 : decode cX7_mayFollow 7 = .ok (.aload_n 0, 1) := by decide +kernel
theorem dX7_mayFollow_8 : decode cX7_mayFollow 8 = .ok (.iload_n 3, 1) := by decide +kernel
theorem dX7_mayFollow_9 : decode cX7_mayFollow 9 = .ok (.invokevirtual 37, 3) := by decide +kernel
theorem dX7_mayFollow_12 : decode cX7_mayFollow 12 = .ok (.istore 5, 2) := by decide +kernel
theorem dX7_mayFollow_14 : decode cX7_mayFollow 14 = .ok (.iload_n 1, 1) := by decide +kernel
theorem dX7_mayFollow_15 : decode cX7_mayFollow 15 = .ok (.invokestatic 30, 3) := by decide +kernel
theorem dX7_mayFollow_18 : decode cX7_mayFollow 18 = .ok (.ifCond .eq 28, 3) := by decide +kernel
theorem dX7_mayFollow_21 : decode cX7_mayFollow 21 = .ok (.iload_n 2, 1) := by decide +kernel
theorem dX7_mayFollow_22 : decode cX7_mayFollow 22 = .ok (.iconst 2, 1) := by decide +kernel
theorem dX7_mayFollow_23 : decode cX7_mayFollow 23 = .ok (.if_icmp .ne 23, 3) := by decide +kernel
theorem dX7_mayFollow_26 : decode cX7_mayFollow 26 = .ok (.iload 4, 2) := by decide +kernel
theorem dX7_mayFollow_28 : decode cX7_mayFollow 28 = .ok (.bipush 76, 2) := by decide +kernel
theorem dX7_mayFollow_30 : decode cX7_mayFollow 30 = .ok (.if_icmp .eq 10, 3) := by decide +kernel
theorem dX7_mayFollow_33 : decode cX7_mayFollow 33 = .ok (.iload 4, 2) := by decide +kernel
theorem dX7_mayFollow_35 : decode cX7_mayFollow 35 = .ok (.bipush 82, 2) := by decide +kernel
theorem dX7_mayFollow_37 : decode cX7_mayFollow 37 = .ok (.if_icmp .ne 7, 3) := by decide +kernel
theorem dX7_mayFollow_40 : decode cX7_mayFollow 40 = .ok (.iconst 1, 1) := by decide +kernel
theorem dX7_mayFollow_41 : decode cX7_mayFollow 41 = .ok (.goto 4, 3) := by decide +kernel
theorem dX7_mayFollow_44 : decode cX7_mayFollow 44 = .ok (.iconst 0, 1) := by decide +kernel
theorem dX7_mayFollow_45 : decode cX7_mayFollow 45 = .ok (.ireturn, 1) := by decide +kernel
theorem dX7_mayFollow_46 : decode cX7_mayFollow 46 = .ok (.iconst 0, 1) := by decide +kernel
theorem dX7_mayFollow_47 : decode cX7_mayFollow 47 = .ok (.istore 6, 2) := by decide +kernel
theorem dX7_mayFollow_49 : decode cX7_mayFollow 49 = .ok (.bipush 9, 2) := by decide +kernel
theorem dX7_mayFollow_51 : decode cX7_mayFollow 51 = .ok (.istore 7, 2) := by decide +kernel
theorem dX7_mayFollow_53 : decode cX7_mayFollow 53 = .ok (.iload_n 1, 1) := by decide +kernel
theorem dX7_mayFollow_54 : decode cX7_mayFollow 54 = .ok (.bipush 76, 2) := by decide +kernel
theorem dX7_mayFollow_56 : decode cX7_mayFollow 56 = .ok (.if_icmp .ne 8, 3) := by decide +kernel
theorem dX7_mayFollow_59 : decode cX7_mayFollow 59 = .ok (.iload_n 2, 1) := by decide +kernel
theorem dX7_mayFollow_60 : decode cX7_mayFollow 60 = .ok (.iconst 2, 1) := by decide +kernel
theorem dX7_mayFollow_61 : decode cX7_mayFollow 61 = .ok (.if_icmp .eq 15, 3) := by decide +kernel
theorem dX7_mayFollow_64 : decode cX7_mayFollow 64 = .ok (.iload_n 1, 1) := by decide +kernel
theorem dX7_mayFollow_65 : decode cX7_mayFollow 65 = .ok (.invokestatic 30, 3) := by decide +kernel
theorem dX7_mayFollow_68 : decode cX7_mayFollow 68 = .ok (.ifCond .eq 14, 3) := by decide +kernel
theorem dX7_mayFollow_71 : decode cX7_mayFollow 71 = .ok (.iload_n 2, 1) := by decide +kernel
theorem dX7_mayFollow_72 : decode cX7_mayFollow 72 = .ok (.iconst 1, 1) := by decide +kernel
theorem dX7_mayFollow_73 : decode cX7_mayFollow 73 = .ok (.if_icmp .ne 9, 3) := by decide +kernel
theorem dX7_mayFollow_76 : decode cX7_mayFollow 76 = .ok (.iconst 1, 1) := by decide +kernel
theorem dX7_mayFollow_77 : decode cX7_mayFollow 77 = .ok (.istore 6, 2) := by decide +kernel
theorem dX7_mayFollow_79 : decode cX7_mayFollow 79 = .ok (.goto 47, 3) := by decide +kernel
theorem dX7_mayFollow_82 : decode cX7_mayFollow 82 = .ok (.iload_n 1, 1) := by decide +kernel
theorem dX7_mayFollow_83 : decode cX7_mayFollow 83 = .ok (.bipush 71, 2) := by decide +kernel
theorem dX7_mayFollow_85 : decode cX7_mayFollow 85 = .ok (.if_icmp .ne 26, 3) := by decide +kernel
theorem dX7_mayFollow_88 : decode cX7_mayFollow 88 = .ok (.iload_n 2, 1) := by decide +kernel
theorem dX7_mayFollow_89 : decode cX7_mayFollow 89 = .ok (.iconst 2, 1) := by decide +kernel
theorem dX7_mayFollow_90 : decode cX7_mayFollow 90 = .ok (.if_icmp .ne 21, 3) := by decide +kernel
theorem dX7_mayFollow_93 : decode cX7_mayFollow 93 = .ok (.aload_n 0, 1) := by decide +kernel
theorem dX7_mayFollow_94 : decode cX7_mayFollow 94 = .ok (.iload_n 3, 1) := by decide +kernel
theorem dX7_mayFollow_95 : decode cX7_mayFollow 95 = .ok (.iconst 1, 1) := by decide +kernel
theorem dX7_mayFollow_96 : decode cX7_mayFollow 96 = .ok (.isub, 1) := by decide +kernel
theorem dX7_mayFollow_97 : decode cX7_mayFollow 97 = .ok (.invokevirtual 19, 3) := by decide +kernel
theorem dX7_mayFollow_100 : decode cX7_mayFollow 100 = .ok (.bipush 48, 2) := by decide +kernel
theorem dX7_mayFollow_102 : decode cX7_mayFollow 102 = .ok (.if_icmp .ne 9, 3) := by decide +kernel
theorem dX7_mayFollow_105 : decode cX7_mayFollow 105 = .ok (.iconst 1, 1) := by decide +kernel
theorem dX7_mayFollow_106 : decode cX7_mayFollow 106 = .ok (.istore 6, 2) := by decide +kernel
theorem dX7_mayFollow_108 : decode cX7_mayFollow 108 = .ok (.goto 18, 3) := by decide +kernel
theorem dX7_mayFollow_111 : decode cX7_mayFollow 111 = .ok (.iload_n 1, 1) := by decide +kernel
theorem dX7_mayFollow_112 : decode cX7_mayFollow 112 = .ok (.invokestatic 30, 3) := by decide +kernel
theorem dX7_mayFollow_115 : decode cX7_mayFollow 115 = .ok (.ifCond .eq 11, 3) := by decide +kernel
theorem dX7_mayFollow_118 : decode cX7_mayFollow 118 = .ok (.iload_n 2, 1) := by decide +kernel
theorem dX7_mayFollow_119 : decode cX7_mayFollow 119 = .ok (.iconst 4, 1) := by decide +kernel
theorem dX7_mayFollow_120 : decode cX7_mayFollow 120 = .ok (.if_icmp .ne 6, 3) := by decide +kernel
theorem dX7_mayFollow_123 : decode cX7_mayFollow 123 = .ok (.iconst 3, 1) := by decide +kernel
theorem dX7_mayFollow_124 : decode cX7_mayFollow 124 = .ok (.istore 7, 2) := by decide +kernel
theorem dX7_mayFollow_126 : decode cX7_mayFollow 126 = .ok (.iload 5, 2) := by decide +kernel
theorem dX7_mayFollow_128 : decode cX7_mayFollow 128 = .ok (.iload 6, 2) := by decide +kernel
theorem dX7_mayFollow_130 : decode cX7_mayFollow 130 = .ok (.if_icmp .lt 14, 3) := by decide +kernel
theorem dX7_mayFollow_133 : decode cX7_mayFollow 133 = .ok (.iload 5, 2) := by decide +kernel
theorem dX7_mayFollow_135 : decode cX7_mayFollow 135 = .ok (.iload 7, 2) := by decide +kernel
theorem dX7_mayFollow_137 : decode cX7_mayFollow 137 = .ok (.if_icmp .gt 7, 3) := by decide +kernel
theorem dX7_mayFollow_140 : decode cX7_mayFollow 140 = .ok (.iconst 1, 1) := by decide +kernel
theorem dX7_mayFollow_141 : decode cX7_mayFollow 141 = .ok (.goto 4, 3) := by decide +kernel
theorem dX7_mayFollow_144 : decode cX7_mayFollow 144 = .ok (.iconst 0, 1) := by decide +kernel
theorem dX7_mayFollow_145 : decode cX7_mayFollow 145 = .ok (.ireturn, 1) := by decide +kernel
theorem kX7_append_0 {X : Scr} {M : Mem} {P : Option AV → Mem → Prop} {x1 : Int} (k1 : (M 1 1) < 0 → Runs X mX7_append 39 [] [] M P) (k2 : 0 ≤ (M 1 1) → Runs X mX7_append 7 [(0, vr 1), (1, vi x1)] [] M P) : Runs X mX7_append 0 [(0, vr 1), (1, vi x1)] [] M P := by
  refine Runs.aload_n (j := 0) dX7_append_0 rfl ?_
  refine Runs.geti (ci := 7) (j := 1) (C := RX7) (T := TX7) (N := 2) dX7_append_1 rfl cls_X7 (by decide) rfl fl_X7_15 (Or.inl rfl) ?_
  refine Runs.if_lt (tgt := 39) dX7_append_4 (by decide) (fun h => ?_) (fun h => ?_)
  · refine Runs.picks (loc' := []) [] rfl ?_
    exact k1 h
  · exact k2 h
theorem kX7_append_7 {X : Scr} {M : Mem} {P : Option AV → Mem → Prop} {x1 : Int} (k1 : ((72 : Nat) : Int) ≤ (M 1 1) → Runs X mX7_append 39 [] [] M P) (k2 : (M 1 1) < ((72 : Nat) : Int) → Runs X mX7_append 19 [(0, vr 1), (1, vi x1)] [] M P) : Runs X mX7_append 7 [(0, vr 1), (1, vi x1)] [] M P := by
  refine Runs.aload_n (j := 0) dX7_append_7 rfl ?_
  refine Runs.geti (ci := 7) (j := 1) (C := RX7) (T := TX7) (N := 2) dX7_append_8 rfl cls_X7 (by decide) rfl fl_X7_15 (Or.inl rfl) ?_
  refine Runs.aload_n (j := 0) dX7_append_11 rfl ?_
  refine Runs.getr (o' := 2) (ci := 7) (j := 0) (C := RX7) (T := TX7) (N := 2) dX7_append_12 rfl cls_X7 (by decide) rfl fl_X7_9 rfl ⟨rfl, "", Or.inr ⟨_, rfl⟩⟩ ?_
  refine Runs.alen dX7_append_15 rfl (by decide) ?_
  refine Runs.icmp_ge (tgt := 39) dX7_append_16 (by decide) (fun h => ?_) (fun h => ?_)
  · refine Runs.picks (loc' := []) [] rfl ?_
    exact k1 h
  · exact k2 h
theorem kX7_append_19 {X : Scr} {M : Mem} {P : Option AV → Mem → Prop} {x1 : Int} (k : Runs X mX7_append 39 [] [] (up2 (up2 M 2 ((M 1 1)).toNat x1) 1 1 (((up2 M 2 ((M 1 1)).toNat x1) 1 1) + (1 : Int))) P) (h1 : 0 ≤ (M 1 1) := by omega) (h2 : (M 1 1) < ((72 : Nat) : Int) := by omega) (h3 : -128 ≤ x1 ∧ x1 ≤ 127 := by omega) (h4 : -2147483648 ≤ (((up2 M 2 ((M 1 1)).toNat x1) 1 1) + (1 : Int)) ∧ (((up2 M 2 ((M 1 1)).toNat x1) 1 1) + (1 : Int)) ≤ 2147483647 := by omega) : Runs X mX7_append 19 [(0, vr 1), (1, vi x1)] [] M P := by
  refine Runs.aload_n (j := 0) dX7_append_19 rfl ?_
  refine Runs.getr (o' := 2) (ci := 7) (j := 0) (C := RX7) (T := TX7) (N := 2) dX7_append_20 rfl cls_X7 (by decide) rfl fl_X7_9 rfl ⟨rfl, "", Or.inr ⟨_, rfl⟩⟩ ?_
  refine Runs.aload_n (j := 0) dX7_append_23 rfl ?_
  refine Runs.geti (ci := 7) (j := 1) (C := RX7) (T := TX7) (N := 2) dX7_append_24 rfl cls_X7 (by decide) rfl fl_X7_15 (Or.inl rfl) ?_
  refine Runs.iload_n (j := 1) dX7_append_27 rfl ?_
  refine Runs.bast dX7_append_28 rfl h1 h2 h3 ?_
  refine Runs.aload_n (j := 0) dX7_append_29 rfl ?_
  refine Runs.dup dX7_append_30 (by intro z h; cases h) ?_
  refine Runs.geti (ci := 7) (j := 1) (C := RX7) (T := TX7) (N := 2) dX7_append_31 rfl cls_X7 (by decide) rfl fl_X7_15 (Or.inl rfl) ?_
  refine Runs.iconst dX7_append_34 (by decide) ?_
  refine Runs.iadd dX7_append_35 h4 ?_
  refine Runs.puti (ci := 7) (j := 1) (C := RX7) (T := TX7) (N := 2) dX7_append_36 rfl cls_X7 (by decide) rfl fl_X7_15 rfl rfl ?_
  refine Runs.picks (loc' := []) [] rfl ?_
  exact k
theorem kX7_append_39 {X : Scr} {M : Mem} {P : Option AV → Mem → Prop} (k : P none M) : Runs X mX7_append 39 [] [] M P := by
  exact Runs.ret0 dX7_append_39 rfl k
theorem kX7_byteAt_0 {X : Scr} {M : Mem} {P : Option AV → Mem → Prop} {x1 : Int} (k1 : x1 < 0 → Runs X mX7_byteAt 13 [] [] M P) (k2 : 0 ≤ x1 → Runs X mX7_byteAt 4 [(0, vr 1), (1, vi x1)] [] M P) : Runs X mX7_byteAt 0 [(0, vr 1), (1, vi x1)] [] M P := by
  refine Runs.iload_n (j := 1) dX7_byteAt_0 rfl ?_
  refine Runs.if_lt (tgt := 13) dX7_byteAt_1 (by decide) (fun h => ?_) (fun h => ?_)
  · refine Runs.picks (loc' := []) [] rfl ?_
    exact k1 h
  · exact k2 h
theorem kX7_byteAt_4 {X : Scr} {M : Mem} {P : Option AV → Mem → Prop} {x1 : Int} (k1 : x1 < ((72 : Nat) : Int) → Runs X mX7_byteAt 17 [(0, vr 1), (1, vi x1)] [] M P) (k2 : ((72 : Nat) : Int) ≤ x1 → Runs X mX7_byteAt 13 [] [] M P) : Runs X mX7_byteAt 4 [(0, vr 1), (1, vi x1)] [] M P := by
  refine Runs.iload_n (j := 1) dX7_byteAt_4 rfl ?_
  refine Runs.aload_n (j := 0) dX7_byteAt_5 rfl ?_
  refine Runs.getr (o' := 2) (ci := 7) (j := 0) (C := RX7) (T := TX7) (N := 2) dX7_byteAt_6 rfl cls_X7 (by decide) rfl fl_X7_9 rfl ⟨rfl, "", Or.inr ⟨_, rfl⟩⟩ ?_
  refine Runs.alen dX7_byteAt_9 rfl (by decide) ?_
  refine Runs.icmp_lt (tgt := 17) dX7_byteAt_10 (by decide) (fun h => ?_) (fun h => ?_)
  · exact k1 h
  · refine Runs.picks (loc' := []) [] rfl ?_
    exact k2 h
theorem kX7_byteAt_13 {X : Scr} {M : Mem} {P : Option AV → Mem → Prop} (k : Runs X mX7_byteAt 27 [] [vi (0 : Int)] M P) : Runs X mX7_byteAt 13 [] [] M P := by
  refine Runs.iconst dX7_byteAt_13 (by decide) ?_
  refine Runs.goto (tgt := 27) dX7_byteAt_14 (by decide) ?_
  exact k
theorem kX7_byteAt_17 {X : Scr} {M : Mem} {P : Option AV → Mem → Prop} {x1 : Int} (k : Runs X mX7_byteAt 27 [] [vi (zand (M 2 (x1).toNat) (255 : Int))] M P) (h1 : 0 ≤ x1 := by omega) (h2 : x1 < ((72 : Nat) : Int) := by omega) : Runs X mX7_byteAt 17 [(0, vr 1), (1, vi x1)] [] M P := by
  refine Runs.aload_n (j := 0) dX7_byteAt_17 rfl ?_
  refine Runs.getr (o' := 2) (ci := 7) (j := 0) (C := RX7) (T := TX7) (N := 2) dX7_byteAt_18 rfl cls_X7 (by decide) rfl fl_X7_9 rfl ⟨rfl, "", Or.inr ⟨_, rfl⟩⟩ ?_
  refine Runs.iload_n (j := 1) dX7_byteAt_21 rfl ?_
  refine Runs.bald dX7_byteAt_22 rfl h1 h2 ?_
  refine Runs.sipush dX7_byteAt_23 (by decide) (by decide) ?_
  refine Runs.iand dX7_byteAt_26 ?_
  refine Runs.picks (loc' := []) [] rfl ?_
  exact k
theorem kX7_byteAt_27 {X : Scr} {M : Mem} {P : Option AV → Mem → Prop} {xs0 : Int} (k : P (some (vi xs0)) M) : Runs X mX7_byteAt 27 [] [vi xs0] M P := by
  exact Runs.reti dX7_byteAt_27 rfl k
theorem kX7_figureAt_0 {X : Scr} {M : Mem} {P Q : Option AV → Mem → Prop} {x1 : Int} (hC : Call X mX7_byteAt [vr 1, vi x1] M Q) (k : ∀ (z : Int) (M1 : Mem), Q (some (vi z)) M1 → Runs X mX7_figureAt 5 [] [vi z] M1 P) : Runs X mX7_figureAt 0 [(0, vr 1), (1, vi x1)] [] M P := by
  refine Runs.aload_n (j := 0) dX7_figureAt_0 rfl ?_
  refine Runs.iload_n (j := 1) dX7_figureAt_1 rfl ?_
  refine Runs.callVi (y := mX7_byteAt) (n := 1) (as := [vi x1]) (st := []) (q := (RX7, TX7, 2)) dX7_figureAt_2 oc_X7_byteAt im_X7_byteAt se_X7_byteAt ml_X7_19 rfl ⟨(Nat.le_of_ble_eq_true rfl), (Nat.le_of_ble_eq_true rfl)⟩ (Nat.le_of_ble_eq_true rfl) (Nat.le_of_ble_eq_true rfl) rfl rfl rfl (Or.inl rfl) hC (fun z M1 hQ => ?_)
  refine Runs.picks (loc' := []) [] rfl ?_
  exact k z M1 hQ
theorem kX7_figureAt_5 {X : Scr} {M : Mem} {P : Option AV → Mem → Prop} {xs0 : Int} (k : P (some (vi (xs0 - (48 : Int)))) M) (h1 : -2147483648 ≤ (xs0 - (48 : Int)) ∧ (xs0 - (48 : Int)) ≤ 2147483647 := by omega) : Runs X mX7_figureAt 5 [] [vi xs0] M P := by
  refine Runs.bipush dX7_figureAt_5 (by decide) (by decide) ?_
  refine Runs.isub dX7_figureAt_7 h1 ?_
  exact Runs.reti dX7_figureAt_8 rfl k
theorem kX7_tellsTooth_0 {X : Scr} {M : Mem} {P : Option AV → Mem → Prop} {x0 : Int} (k1 : x0 = (84 : Int) → Runs X mX7_tellsTooth 12 [] [] M P) (k2 : x0 ≠ (84 : Int) → Runs X mX7_tellsTooth 6 [(0, vi x0)] [] M P) : Runs X mX7_tellsTooth 0 [(0, vi x0)] [] M P := by
  refine Runs.iload_n (j := 0) dX7_tellsTooth_0 rfl ?_
  refine Runs.bipush dX7_tellsTooth_1 (by decide) (by decide) ?_
  refine Runs.icmp_eq (tgt := 12) dX7_tellsTooth_3 (by decide) (fun h => ?_) (fun h => ?_)
  · refine Runs.picks (loc' := []) [] rfl ?_
    exact k1 h
  · exact k2 h
theorem kX7_tellsTooth_6 {X : Scr} {M : Mem} {P : Option AV → Mem → Prop} {x0 : Int} (k1 : x0 ≠ (66 : Int) → Runs X mX7_tellsTooth 16 [] [] M P) (k2 : x0 = (66 : Int) → Runs X mX7_tellsTooth 12 [] [] M P) : Runs X mX7_tellsTooth 6 [(0, vi x0)] [] M P := by
  refine Runs.iload_n (j := 0) dX7_tellsTooth_6 rfl ?_
  refine Runs.bipush dX7_tellsTooth_7 (by decide) (by decide) ?_
  refine Runs.icmp_ne (tgt := 16) dX7_tellsTooth_9 (by decide) (fun h => ?_) (fun h => ?_)
  · refine Runs.picks (loc' := []) [] rfl ?_
    exact k1 h
  · refine Runs.picks (loc' := []) [] rfl ?_
    exact k2 h
theorem kX7_tellsTooth_12 {X : Scr} {M : Mem} {P : Option AV → Mem → Prop} (k : Runs X mX7_tellsTooth 17 [] [vi (1 : Int)] M P) : Runs X mX7_tellsTooth 12 [] [] M P := by
  refine Runs.iconst dX7_tellsTooth_12 (by decide) ?_
  refine Runs.goto (tgt := 17) dX7_tellsTooth_13 (by decide) ?_
  exact k
theorem kX7_tellsTooth_16 {X : Scr} {M : Mem} {P : Option AV → Mem → Prop} (k : Runs X mX7_tellsTooth 17 [] [vi (0 : Int)] M P) : Runs X mX7_tellsTooth 16 [] [] M P := by
  refine Runs.iconst dX7_tellsTooth_16 (by decide) ?_
  exact k
theorem kX7_tellsTooth_17 {X : Scr} {M : Mem} {P : Option AV → Mem → Prop} {xs0 : Int} (k : P (some (vi xs0)) M) (h1 : 0 ≤ xs0 ∧ xs0 ≤ 1 := by omega) : Runs X mX7_tellsTooth 17 [] [vi xs0] M P := by
  exact Runs.retz dX7_tellsTooth_17 rfl h1 k
theorem kX7_partLength_0 {X : Scr} {M : Mem} {P : Option AV → Mem → Prop} {x0 : Int} (c66 : x0 = 66 → Runs X mX7_partLength 46 [] [] M P) (c71 : x0 = 71 → Runs X mX7_partLength 48 [] [] M P) (c76 : x0 = 76 → Runs X mX7_partLength 44 [] [] M P) (c84 : x0 = 84 → Runs X mX7_partLength 46 [] [] M P) (cd : x0 ≠ 66 ∧ x0 ≠ 71 ∧ x0 ≠ 76 ∧ x0 ≠ 84 → Runs X mX7_partLength 50 [] [] M P) : Runs X mX7_partLength 0 [(0, vi x0)] [] M P := by
  refine Runs.iload_n (j := 0) dX7_partLength_0 rfl ?_
  rcases (show x0 = 66 ∨ x0 = 71 ∨ x0 = 76 ∨ x0 = 84 ∨ (x0 ≠ 66 ∧ x0 ≠ 71 ∧ x0 ≠ 76 ∧ x0 ≠ 84) by omega) with h | h | h | h | h
  · refine Runs.lookup (tgt := 46) dX7_partLength_1 (by decide) (by rw [h] <;> rfl) (by decide) ?_
    refine Runs.picks (loc' := []) [] rfl ?_
    exact c66 h
  · refine Runs.lookup (tgt := 48) dX7_partLength_1 (by decide) (by rw [h] <;> rfl) (by decide) ?_
    refine Runs.picks (loc' := []) [] rfl ?_
    exact c71 h
  · refine Runs.lookup (tgt := 44) dX7_partLength_1 (by decide) (by rw [h] <;> rfl) (by decide) ?_
    refine Runs.picks (loc' := []) [] rfl ?_
    exact c76 h
  · refine Runs.lookup (tgt := 46) dX7_partLength_1 (by decide) (by rw [h] <;> rfl) (by decide) ?_
    refine Runs.picks (loc' := []) [] rfl ?_
    exact c84 h
  · refine Runs.lookup (off := (49 : Int)) (tgt := 50) dX7_partLength_1 (by decide) (by simp [Op.lookupswitch.offset]; omega) (by decide) ?_
    refine Runs.picks (loc' := []) [] rfl ?_
    exact cd h
theorem kX7_partLength_44 {X : Scr} {M : Mem} {P : Option AV → Mem → Prop} (k : P (some (vi (3 : Int))) M) : Runs X mX7_partLength 44 [] [] M P := by
  refine Runs.iconst dX7_partLength_44 (by decide) ?_
  exact Runs.reti dX7_partLength_45 rfl k
theorem kX7_partLength_46 {X : Scr} {M : Mem} {P : Option AV → Mem → Prop} (k : P (some (vi (5 : Int))) M) : Runs X mX7_partLength 46 [] [] M P := by
  refine Runs.iconst dX7_partLength_46 (by decide) ?_
  exact Runs.reti dX7_partLength_47 rfl k
theorem kX7_partLength_48 {X : Scr} {M : Mem} {P : Option AV → Mem → Prop} (k : P (some (vi (4 : Int))) M) : Runs X mX7_partLength 48 [] [] M P := by
  refine Runs.iconst dX7_partLength_48 (by decide) ?_
  exact Runs.reti dX7_partLength_49 rfl k
theorem kX7_partLength_50 {X : Scr} {M : Mem} {P : Option AV → Mem → Prop} (k : P (some (vi (1 : Int))) M) : Runs X mX7_partLength 50 [] [] M P := by
  refine Runs.iconst dX7_partLength_50 (by decide) ?_
  exact Runs.reti dX7_partLength_51 rfl k
theorem kX7_faultPlace_0 {X : Scr} {M : Mem} {P : Option AV → Mem → Prop} (k : Runs X mX7_faultPlace 12 [(0, vr 1), (1, vi (0 : Int)), (2, vi (0 : Int)), (3, vi (0 : Int)), (4, vi (0 : Int)), (5, vi (0 : Int))] [] M P) : Runs X mX7_faultPlace 0 [(0, vr 1)] [] M P := by
  refine Runs.iconst dX7_faultPlace_0 (by decide) ?_
  refine Runs.istore_n (loc' := [(0, vr 1), (1, vi (0 : Int))]) dX7_faultPlace_1 rfl (by decide) rfl ?_
  refine Runs.iconst dX7_faultPlace_2 (by decide) ?_
  refine Runs.istore_n (loc' := [(0, vr 1), (1, vi (0 : Int)), (2, vi (0 : Int))]) dX7_faultPlace_3 rfl (by decide) rfl ?_
  refine Runs.iconst dX7_faultPlace_4 (by decide) ?_
  refine Runs.istore_n (loc' := [(0, vr 1), (1, vi (0 : Int)), (2, vi (0 : Int)), (3, vi (0 : Int))]) dX7_faultPlace_5 rfl (by decide) rfl ?_
  refine Runs.iconst dX7_faultPlace_6 (by decide) ?_
  refine Runs.istore (loc' := [(0, vr 1), (1, vi (0 : Int)), (2, vi (0 : Int)), (3, vi (0 : Int)), (4, vi (0 : Int))]) dX7_faultPlace_7 (by decide) rfl ?_
  refine Runs.iconst dX7_faultPlace_9 (by decide) ?_
  refine Runs.istore (loc' := [(0, vr 1), (1, vi (0 : Int)), (2, vi (0 : Int)), (3, vi (0 : Int)), (4, vi (0 : Int)), (5, vi (0 : Int))]) dX7_faultPlace_10 (by decide) rfl ?_
  exact k
theorem kX7_faultPlace_12 {X : Scr} {M : Mem} {P : Option AV → Mem → Prop} {x1 x2 x3 x4 x5 : Int} (k1 : (M 1 1) ≤ x5 → Runs X mX7_faultPlace 134 [(0, vr 1), (2, vi x2)] [] M P) (k2 : x5 < (M 1 1) → Runs X mX7_faultPlace 21 [(0, vr 1), (1, vi x1), (2, vi x2), (3, vi x3), (4, vi x4), (5, vi x5)] [] M P) : Runs X mX7_faultPlace 12 [(0, vr 1), (1, vi x1), (2, vi x2), (3, vi x3), (4, vi x4), (5, vi x5)] [] M P := by
  refine Runs.iload (j := 5) dX7_faultPlace_12 rfl ?_
  refine Runs.aload_n (j := 0) dX7_faultPlace_14 rfl ?_
  refine Runs.geti (ci := 7) (j := 1) (C := RX7) (T := TX7) (N := 2) dX7_faultPlace_15 rfl cls_X7 (by decide) rfl fl_X7_15 (Or.inl rfl) ?_
  refine Runs.icmp_ge (tgt := 134) dX7_faultPlace_18 (by decide) (fun h => ?_) (fun h => ?_)
  · refine Runs.picks (loc' := [(0, vr 1), (2, vi x2)]) [0, 2] rfl ?_
    exact k1 h
  · exact k2 h
theorem kX7_faultPlace_21 {X : Scr} {M : Mem} {P Q : Option AV → Mem → Prop} {x1 x2 x3 x4 x5 : Int} (hC : Call X mX7_byteAt [vr 1, vi x5] M Q) (k : ∀ (z : Int) (M1 : Mem), Q (some (vi z)) M1 → Runs X mX7_faultPlace 27 [(0, vr 1), (1, vi x1), (2, vi x2), (3, vi x3), (4, vi x4), (5, vi x5)] [vi z] M1 P) : Runs X mX7_faultPlace 21 [(0, vr 1), (1, vi x1), (2, vi x2), (3, vi x3), (4, vi x4), (5, vi x5)] [] M P := by
  refine Runs.aload_n (j := 0) dX7_faultPlace_21 rfl ?_
  refine Runs.iload (j := 5) dX7_faultPlace_22 rfl ?_
  refine Runs.callVi (y := mX7_byteAt) (n := 1) (as := [vi x5]) (st := []) (q := (RX7, TX7, 2)) dX7_faultPlace_24 oc_X7_byteAt im_X7_byteAt se_X7_byteAt ml_X7_19 rfl ⟨(Nat.le_of_ble_eq_true rfl), (Nat.le_of_ble_eq_true rfl)⟩ (Nat.le_of_ble_eq_true rfl) (Nat.le_of_ble_eq_true rfl) rfl rfl rfl (Or.inl rfl) hC (fun z M1 hQ => ?_)
  exact k z M1 hQ
theorem kX7_faultPlace_27 {X : Scr} {M : Mem} {P : Option AV → Mem → Prop} {x1 x2 x3 x4 x5 xs0 : Int} (k1 : x2 ≤ 0 → Runs X mX7_faultPlace 47 [(0, vr 1), (2, vi x2), (3, vi x3), (4, vi x4), (5, vi x5), (6, vi xs0)] [] M P) (k2 : 0 < x2 → Runs X mX7_faultPlace 33 [(0, vr 1), (1, vi x1), (2, vi x2), (3, vi x3), (4, vi x4), (5, vi x5)] [] M P) : Runs X mX7_faultPlace 27 [(0, vr 1), (1, vi x1), (2, vi x2), (3, vi x3), (4, vi x4), (5, vi x5)] [vi xs0] M P := by
  refine Runs.istore (loc' := [(0, vr 1), (1, vi x1), (2, vi x2), (3, vi x3), (4, vi x4), (5, vi x5), (6, vi xs0)]) dX7_faultPlace_27 (by decide) rfl ?_
  refine Runs.iload_n (j := 2) dX7_faultPlace_29 rfl ?_
  refine Runs.if_le (tgt := 47) dX7_faultPlace_30 (by decide) (fun h => ?_) (fun h => ?_)
  · refine Runs.picks (loc' := [(0, vr 1), (2, vi x2), (3, vi x3), (4, vi x4), (5, vi x5), (6, vi xs0)]) [0, 2, 3, 4, 5, 6] rfl ?_
    exact k1 h
  · refine Runs.picks (loc' := [(0, vr 1), (1, vi x1), (2, vi x2), (3, vi x3), (4, vi x4), (5, vi x5)]) [0, 1, 2, 3, 4, 5] rfl ?_
    exact k2 h
theorem kX7_faultPlace_33 {X : Scr} {M : Mem} {P Q : Option AV → Mem → Prop} {x1 x2 x3 x4 x5 : Int} (hC : Call X mX7_mayFollow [vr 1, vi x1, vi x2, vi x5] M Q) (k : ∀ (z : Int) (M1 : Mem), Q (some (vi z)) M1 → Runs X mX7_faultPlace 41 [(0, vr 1), (1, vi x1), (2, vi x2), (3, vi x3), (4, vi x4), (5, vi x5)] [vi z] M1 P) : Runs X mX7_faultPlace 33 [(0, vr 1), (1, vi x1), (2, vi x2), (3, vi x3), (4, vi x4), (5, vi x5)] [] M P := by
  refine Runs.aload_n (j := 0) dX7_faultPlace_33 rfl ?_
  refine Runs.iload_n (j := 1) dX7_faultPlace_34 rfl ?_
  refine Runs.iload_n (j := 2) dX7_faultPlace_35 rfl ?_
  refine Runs.iload (j := 5) dX7_faultPlace_36 rfl ?_
  refine Runs.callVi (y := mX7_mayFollow) (n := 3) (as := [vi x1, vi x2, vi x5]) (st := []) (q := (RX7, TX7, 2)) dX7_faultPlace_38 oc_X7_mayFollow im_X7_mayFollow se_X7_mayFollow ml_X7_23 rfl ⟨(Nat.le_of_ble_eq_true rfl), (Nat.le_of_ble_eq_true rfl)⟩ (Nat.le_of_ble_eq_true rfl) (Nat.le_of_ble_eq_true rfl) rfl rfl rfl (Or.inr rfl) hC (fun z M1 hQ => ?_)
  exact k z M1 hQ
theorem kX7_faultPlace_41 {X : Scr} {M : Mem} {P : Option AV → Mem → Prop} {x1 x2 x3 x4 x5 xs0 : Int} (k1 : xs0 ≠ 0 → Runs X mX7_faultPlace 110 [(0, vr 1), (1, vi x1), (2, vi x2), (3, vi x3), (4, vi x4), (5, vi x5)] [] M P) (k2 : xs0 = 0 → Runs X mX7_faultPlace 44 [(5, vi x5)] [] M P) : Runs X mX7_faultPlace 41 [(0, vr 1), (1, vi x1), (2, vi x2), (3, vi x3), (4, vi x4), (5, vi x5)] [vi xs0] M P := by
  refine Runs.if_ne (tgt := 110) dX7_faultPlace_41 (by decide) (fun h => ?_) (fun h => ?_)
  · exact k1 h
  · refine Runs.picks (loc' := [(5, vi x5)]) [5] rfl ?_
    exact k2 h
theorem kX7_faultPlace_44 {X : Scr} {M : Mem} {P : Option AV → Mem → Prop} {x5 : Int} (k : P (some (vi x5)) M) : Runs X mX7_faultPlace 44 [(5, vi x5)] [] M P := by
  refine Runs.iload (j := 0) dX7_faultPlace_44 rfl ?_
  exact Runs.reti dX7_faultPlace_46 rfl k
theorem kX7_faultPlace_47 {X : Scr} {M : Mem} {P : Option AV → Mem → Prop} {x2 x3 x4 x5 x6 : Int} (k1 : x5 ≠ 0 → Runs X mX7_faultPlace 62 [(0, vr 1), (2, vi x2), (3, vi x3), (4, vi x4), (5, vi x5), (6, vi x6)] [] M P) (k2 : x5 = 0 → Runs X mX7_faultPlace 52 [(0, vr 1), (2, vi x2), (3, vi x3), (4, vi x4), (5, vi x5), (6, vi x6)] [] M P) : Runs X mX7_faultPlace 47 [(0, vr 1), (2, vi x2), (3, vi x3), (4, vi x4), (5, vi x5), (6, vi x6)] [] M P := by
  refine Runs.iload (j := 4) dX7_faultPlace_47 rfl ?_
  refine Runs.if_ne (tgt := 62) dX7_faultPlace_49 (by decide) (fun h => ?_) (fun h => ?_)
  · exact k1 h
  · exact k2 h
theorem kX7_faultPlace_52 {X : Scr} {M : Mem} {P : Option AV → Mem → Prop} {x2 x3 x4 x5 x6 : Int} (k1 : x6 = (76 : Int) → Runs X mX7_faultPlace 76 [(0, vr 1), (2, vi x2), (3, vi x3), (4, vi x4), (5, vi x5), (6, vi x6)] [] M P) (k2 : x6 ≠ (76 : Int) → Runs X mX7_faultPlace 59 [(5, vi x5)] [] M P) : Runs X mX7_faultPlace 52 [(0, vr 1), (2, vi x2), (3, vi x3), (4, vi x4), (5, vi x5), (6, vi x6)] [] M P := by
  refine Runs.iload (j := 5) dX7_faultPlace_52 rfl ?_
  refine Runs.bipush dX7_faultPlace_54 (by decide) (by decide) ?_
  refine Runs.icmp_eq (tgt := 76) dX7_faultPlace_56 (by decide) (fun h => ?_) (fun h => ?_)
  · exact k1 h
  · refine Runs.picks (loc' := [(5, vi x5)]) [4] rfl ?_
    exact k2 h
theorem kX7_faultPlace_59 {X : Scr} {M : Mem} {P : Option AV → Mem → Prop} {x5 : Int} (k : Runs X mX7_faultPlace 73 [(5, vi x5)] [] M P) : Runs X mX7_faultPlace 59 [(5, vi x5)] [] M P := by
  refine Runs.goto (tgt := 73) dX7_faultPlace_59 (by decide) ?_
  exact k
theorem kX7_faultPlace_62 {X : Scr} {M : Mem} {P Q : Option AV → Mem → Prop} {x2 x3 x4 x5 x6 : Int} (hC : Call X mX7_mayBegin [vi x6, vi x3, vi x4] M Q) (k : ∀ (z : Int) (M1 : Mem), Q (some (vi z)) M1 → Runs X mX7_faultPlace 70 [(0, vr 1), (2, vi x2), (3, vi x3), (4, vi x4), (5, vi x5), (6, vi x6)] [vi z] M1 P) : Runs X mX7_faultPlace 62 [(0, vr 1), (2, vi x2), (3, vi x3), (4, vi x4), (5, vi x5), (6, vi x6)] [] M P := by
  refine Runs.iload (j := 5) dX7_faultPlace_62 rfl ?_
  refine Runs.iload_n (j := 2) dX7_faultPlace_64 rfl ?_
  refine Runs.iload (j := 3) dX7_faultPlace_65 rfl ?_
  refine Runs.callSi (y := mX7_mayBegin) (n := 3) (as := [vi x6, vi x3, vi x4]) (st := []) dX7_faultPlace_67 oc_X7_mayBegin sm_X7_mayBegin ml_X7_27 rfl ⟨(Nat.le_of_ble_eq_true rfl), (Nat.le_of_ble_eq_true rfl)⟩ (Nat.le_of_ble_eq_true rfl) (Nat.le_of_ble_eq_true rfl) (Or.inr rfl) hC (fun z M1 hQ => ?_)
  exact k z M1 hQ
theorem kX7_faultPlace_70 {X : Scr} {M : Mem} {P : Option AV → Mem → Prop} {x2 x3 x4 x5 x6 xs0 : Int} (k1 : xs0 ≠ 0 → Runs X mX7_faultPlace 76 [(0, vr 1), (2, vi x2), (3, vi x3), (4, vi x4), (5, vi x5), (6, vi x6)] [] M P) (k2 : xs0 = 0 → Runs X mX7_faultPlace 73 [(5, vi x5)] [] M P) : Runs X mX7_faultPlace 70 [(0, vr 1), (2, vi x2), (3, vi x3), (4, vi x4), (5, vi x5), (6, vi x6)] [vi xs0] M P := by
  refine Runs.if_ne (tgt := 76) dX7_faultPlace_70 (by decide) (fun h => ?_) (fun h => ?_)
  · exact k1 h
  · refine Runs.picks (loc' := [(5, vi x5)]) [4] rfl ?_
    exact k2 h
theorem kX7_faultPlace_73 {X : Scr} {M : Mem} {P : Option AV → Mem → Prop} {x5 : Int} (k : P (some (vi x5)) M) : Runs X mX7_faultPlace 73 [(5, vi x5)] [] M P := by
  refine Runs.iload (j := 0) dX7_faultPlace_73 rfl ?_
  exact Runs.reti dX7_faultPlace_75 rfl k
theorem kX7_faultPlace_76 {X : Scr} {M : Mem} {P Q : Option AV → Mem → Prop} {x2 x3 x4 x5 x6 : Int} (hC : Call X mX7_tellsTooth [vi x6] M Q) (k : ∀ (z : Int) (M1 : Mem), Q (some (vi z)) M1 → Runs X mX7_faultPlace 84 [(0, vr 1), (1, vi x6), (2, vi x2), (4, vi x4), (5, vi x5)] [vi z, vi x3] M1 P) : Runs X mX7_faultPlace 76 [(0, vr 1), (2, vi x2), (3, vi x3), (4, vi x4), (5, vi x5), (6, vi x6)] [] M P := by
  refine Runs.iload (j := 5) dX7_faultPlace_76 rfl ?_
  refine Runs.istore_n (loc' := [(0, vr 1), (1, vi x6), (2, vi x2), (3, vi x3), (4, vi x4), (5, vi x5), (6, vi x6)]) dX7_faultPlace_78 rfl (by decide) rfl ?_
  refine Runs.iload_n (j := 3) dX7_faultPlace_79 rfl ?_
  refine Runs.iload_n (j := 1) dX7_faultPlace_80 rfl ?_
  refine Runs.callSi (y := mX7_tellsTooth) (n := 1) (as := [vi x6]) (st := [vi x3]) dX7_faultPlace_81 oc_X7_tellsTooth sm_X7_tellsTooth ml_X7_30 rfl ⟨(Nat.le_of_ble_eq_true rfl), (Nat.le_of_ble_eq_true rfl)⟩ (Nat.le_of_ble_eq_true rfl) (Nat.le_of_ble_eq_true rfl) (Or.inr rfl) hC (fun z M1 hQ => ?_)
  refine Runs.picks (loc' := [(0, vr 1), (1, vi x6), (2, vi x2), (4, vi x4), (5, vi x5)]) [0, 1, 2, 4, 5] rfl ?_
  exact k z M1 hQ
theorem kX7_faultPlace_84 {X : Scr} {M : Mem} {P : Option AV → Mem → Prop} {x1 x2 x4 x5 xs0 xs1 : Int} (k1 : xs1 = 0 → Runs X mX7_faultPlace 91 [(0, vr 1), (1, vi x1), (2, vi x2), (4, vi x4), (5, vi x5)] [vi xs0] M P) (k2 : xs1 ≠ 0 → Runs X mX7_faultPlace 87 [(0, vr 1), (1, vi x1), (2, vi x2), (4, vi x4), (5, vi x5)] [vi xs0] M P) : Runs X mX7_faultPlace 84 [(0, vr 1), (1, vi x1), (2, vi x2), (4, vi x4), (5, vi x5)] [vi xs1, vi xs0] M P := by
  refine Runs.if_eq (tgt := 91) dX7_faultPlace_84 (by decide) (fun h => ?_) (fun h => ?_)
  · exact k1 h
  · exact k2 h
theorem kX7_faultPlace_87 {X : Scr} {M : Mem} {P : Option AV → Mem → Prop} {x1 x2 x4 x5 xs0 : Int} (k : Runs X mX7_faultPlace 92 [(0, vr 1), (1, vi x1), (2, vi x2), (4, vi x4), (5, vi x5)] [vi (1 : Int), vi xs0] M P) : Runs X mX7_faultPlace 87 [(0, vr 1), (1, vi x1), (2, vi x2), (4, vi x4), (5, vi x5)] [vi xs0] M P := by
  refine Runs.iconst dX7_faultPlace_87 (by decide) ?_
  refine Runs.goto (tgt := 92) dX7_faultPlace_88 (by decide) ?_
  exact k
theorem kX7_faultPlace_91 {X : Scr} {M : Mem} {P : Option AV → Mem → Prop} {x1 x2 x4 x5 xs0 : Int} (k : Runs X mX7_faultPlace 92 [(0, vr 1), (1, vi x1), (2, vi x2), (4, vi x4), (5, vi x5)] [vi (0 : Int), vi xs0] M P) : Runs X mX7_faultPlace 91 [(0, vr 1), (1, vi x1), (2, vi x2), (4, vi x4), (5, vi x5)] [vi xs0] M P := by
  refine Runs.iconst dX7_faultPlace_91 (by decide) ?_
  exact k
theorem kX7_faultPlace_92 {X : Scr} {M : Mem} {P : Option AV → Mem → Prop} {x1 x2 x4 x5 xs0 xs1 : Int} (k1 : x1 ≠ (71 : Int) → Runs X mX7_faultPlace 106 [(0, vr 1), (1, vi x1), (2, vi x2), (3, vi (xs0 + xs1)), (5, vi x5)] [vi x4] M P) (k2 : x1 = (71 : Int) → Runs X mX7_faultPlace 102 [(0, vr 1), (1, vi x1), (2, vi x2), (3, vi (xs0 + xs1)), (5, vi x5)] [vi x4] M P) (h1 : -2147483648 ≤ (xs0 + xs1) ∧ (xs0 + xs1) ≤ 2147483647 := by omega) : Runs X mX7_faultPlace 92 [(0, vr 1), (1, vi x1), (2, vi x2), (4, vi x4), (5, vi x5)] [vi xs1, vi xs0] M P := by
  refine Runs.iadd dX7_faultPlace_92 h1 ?_
  refine Runs.istore_n (loc' := [(0, vr 1), (1, vi x1), (2, vi x2), (3, vi (xs0 + xs1)), (4, vi x4), (5, vi x5)]) dX7_faultPlace_93 rfl (by decide) rfl ?_
  refine Runs.iload (j := 4) dX7_faultPlace_94 rfl ?_
  refine Runs.iload_n (j := 1) dX7_faultPlace_96 rfl ?_
  refine Runs.bipush dX7_faultPlace_97 (by decide) (by decide) ?_
  refine Runs.icmp_ne (tgt := 106) dX7_faultPlace_99 (by decide) (fun h => ?_) (fun h => ?_)
  · refine Runs.picks (loc' := [(0, vr 1), (1, vi x1), (2, vi x2), (3, vi (xs0 + xs1)), (5, vi x5)]) [0, 1, 2, 3, 5] rfl ?_
    exact k1 h
  · refine Runs.picks (loc' := [(0, vr 1), (1, vi x1), (2, vi x2), (3, vi (xs0 + xs1)), (5, vi x5)]) [0, 1, 2, 3, 5] rfl ?_
    exact k2 h
theorem kX7_faultPlace_102 {X : Scr} {M : Mem} {P : Option AV → Mem → Prop} {x1 x2 x3 x5 xs0 : Int} (k : Runs X mX7_faultPlace 107 [(0, vr 1), (1, vi x1), (2, vi x2), (3, vi x3), (5, vi x5)] [vi (1 : Int), vi xs0] M P) : Runs X mX7_faultPlace 102 [(0, vr 1), (1, vi x1), (2, vi x2), (3, vi x3), (5, vi x5)] [vi xs0] M P := by
  refine Runs.iconst dX7_faultPlace_102 (by decide) ?_
  refine Runs.goto (tgt := 107) dX7_faultPlace_103 (by decide) ?_
  exact k
theorem kX7_faultPlace_106 {X : Scr} {M : Mem} {P : Option AV → Mem → Prop} {x1 x2 x3 x5 xs0 : Int} (k : Runs X mX7_faultPlace 107 [(0, vr 1), (1, vi x1), (2, vi x2), (3, vi x3), (5, vi x5)] [vi (0 : Int), vi xs0] M P) : Runs X mX7_faultPlace 106 [(0, vr 1), (1, vi x1), (2, vi x2), (3, vi x3), (5, vi x5)] [vi xs0] M P := by
  refine Runs.iconst dX7_faultPlace_106 (by decide) ?_
  exact k
theorem kX7_faultPlace_107 {X : Scr} {M : Mem} {P : Option AV → Mem → Prop} {x1 x2 x3 x5 xs0 xs1 : Int} (k : Runs X mX7_faultPlace 110 [(0, vr 1), (1, vi x1), (2, vi x2), (3, vi x3), (4, vi (xs0 + xs1)), (5, vi x5)] [] M P) (h1 : -2147483648 ≤ (xs0 + xs1) ∧ (xs0 + xs1) ≤ 2147483647 := by omega) : Runs X mX7_faultPlace 107 [(0, vr 1), (1, vi x1), (2, vi x2), (3, vi x3), (5, vi x5)] [vi xs1, vi xs0] M P := by
  refine Runs.iadd dX7_faultPlace_107 h1 ?_
  refine Runs.istore (loc' := [(0, vr 1), (1, vi x1), (2, vi x2), (3, vi x3), (4, vi (xs0 + xs1)), (5, vi x5)]) dX7_faultPlace_108 (by decide) rfl ?_
  exact k
theorem kX7_faultPlace_110 {X : Scr} {M : Mem} {P Q : Option AV → Mem → Prop} {x1 x2 x3 x4 x5 : Int} (hC : Call X mX7_partLength [vi x1] M Q) (k : ∀ (z : Int) (M1 : Mem), Q (some (vi z)) M1 → Runs X mX7_faultPlace 117 [(0, vr 1), (1, vi x1), (2, vi x2), (3, vi x3), (4, vi x4), (5, vi x5)] [vi z, vi (x2 + (1 : Int))] M1 P) (h1 : -2147483648 ≤ (x2 + (1 : Int)) ∧ (x2 + (1 : Int)) ≤ 2147483647 := by omega) : Runs X mX7_faultPlace 110 [(0, vr 1), (1, vi x1), (2, vi x2), (3, vi x3), (4, vi x4), (5, vi x5)] [] M P := by
  refine Runs.iload_n (j := 2) dX7_faultPlace_110 rfl ?_
  refine Runs.iconst dX7_faultPlace_111 (by decide) ?_
  refine Runs.iadd dX7_faultPlace_112 h1 ?_
  refine Runs.iload_n (j := 1) dX7_faultPlace_113 rfl ?_
  refine Runs.callSi (y := mX7_partLength) (n := 1) (as := [vi x1]) (st := [vi (x2 + (1 : Int))]) dX7_faultPlace_114 oc_X7_partLength sm_X7_partLength ml_X7_34 rfl ⟨(Nat.le_of_ble_eq_true rfl), (Nat.le_of_ble_eq_true rfl)⟩ (Nat.le_of_ble_eq_true rfl) (Nat.le_of_ble_eq_true rfl) (Or.inl rfl) hC (fun z M1 hQ => ?_)
  exact k z M1 hQ
theorem kX7_faultPlace_117 {X : Scr} {M : Mem} {P : Option AV → Mem → Prop} {x1 x2 x3 x4 x5 xs0 xs1 : Int} (k1 : xs1 ≤ xs0 → Runs X mX7_faultPlace 126 [(0, vr 1), (1, vi x1), (3, vi x3), (4, vi x4), (5, vi x5)] [] M P) (k2 : xs0 < xs1 → Runs X mX7_faultPlace 120 [(0, vr 1), (1, vi x1), (2, vi x2), (3, vi x3), (4, vi x4), (5, vi x5)] [] M P) : Runs X mX7_faultPlace 117 [(0, vr 1), (1, vi x1), (2, vi x2), (3, vi x3), (4, vi x4), (5, vi x5)] [vi xs1, vi xs0] M P := by
  refine Runs.icmp_ge (tgt := 126) dX7_faultPlace_117 (by decide) (fun h => ?_) (fun h => ?_)
  · refine Runs.picks (loc' := [(0, vr 1), (1, vi x1), (3, vi x3), (4, vi x4), (5, vi x5)]) [0, 1, 3, 4, 5] rfl ?_
    exact k1 h
  · exact k2 h
theorem kX7_faultPlace_120 {X : Scr} {M : Mem} {P : Option AV → Mem → Prop} {x1 x2 x3 x4 x5 : Int} (k : Runs X mX7_faultPlace 127 [(0, vr 1), (1, vi x1), (3, vi x3), (4, vi x4), (5, vi x5)] [vi (x2 + (1 : Int))] M P) (h1 : -2147483648 ≤ (x2 + (1 : Int)) ∧ (x2 + (1 : Int)) ≤ 2147483647 := by omega) : Runs X mX7_faultPlace 120 [(0, vr 1), (1, vi x1), (2, vi x2), (3, vi x3), (4, vi x4), (5, vi x5)] [] M P := by
  refine Runs.iload_n (j := 2) dX7_faultPlace_120 rfl ?_
  refine Runs.iconst dX7_faultPlace_121 (by decide) ?_
  refine Runs.iadd dX7_faultPlace_122 h1 ?_
  refine Runs.goto (tgt := 127) dX7_faultPlace_123 (by decide) ?_
  refine Runs.picks (loc' := [(0, vr 1), (1, vi x1), (3, vi x3), (4, vi x4), (5, vi x5)]) [0, 1, 3, 4, 5] rfl ?_
  exact k
theorem kX7_faultPlace_126 {X : Scr} {M : Mem} {P : Option AV → Mem → Prop} {x1 x3 x4 x5 : Int} (k : Runs X mX7_faultPlace 127 [(0, vr 1), (1, vi x1), (3, vi x3), (4, vi x4), (5, vi x5)] [vi (0 : Int)] M P) : Runs X mX7_faultPlace 126 [(0, vr 1), (1, vi x1), (3, vi x3), (4, vi x4), (5, vi x5)] [] M P := by
  refine Runs.iconst dX7_faultPlace_126 (by decide) ?_
  exact k
theorem kX7_faultPlace_127 {X : Scr} {M : Mem} {P : Option AV → Mem → Prop} {x1 x3 x4 x5 xs0 : Int} (k : Runs X mX7_faultPlace 12 [(0, vr 1), (1, vi x1), (2, vi xs0), (3, vi x3), (4, vi x4), (5, vi (x5 + (1 : Int)))] [] M P) (h1 : -2147483648 ≤ (x5 + (1 : Int)) ∧ (x5 + (1 : Int)) ≤ 2147483647 := by omega) : Runs X mX7_faultPlace 127 [(0, vr 1), (1, vi x1), (3, vi x3), (4, vi x4), (5, vi x5)] [vi xs0] M P := by
  refine Runs.istore_n (loc' := [(0, vr 1), (1, vi x1), (2, vi xs0), (3, vi x3), (4, vi x4), (5, vi x5)]) dX7_faultPlace_127 rfl (by decide) rfl ?_
  refine Runs.iinc (k := 5) (loc' := [(0, vr 1), (1, vi x1), (2, vi xs0), (3, vi x3), (4, vi x4), (5, vi (x5 + (1 : Int)))]) dX7_faultPlace_128 rfl h1 (by decide) rfl ?_
  refine Runs.goto (tgt := 12) dX7_faultPlace_131 (by decide) ?_
  exact k
theorem kX7_faultPlace_134 {X : Scr} {M : Mem} {P : Option AV → Mem → Prop} {x2 : Int} (k1 : (M 1 1) ≤ 0 → Runs X mX7_faultPlace 150 [(0, vr 1)] [] M P) (k2 : 0 < (M 1 1) → Runs X mX7_faultPlace 141 [(0, vr 1), (2, vi x2)] [] M P) : Runs X mX7_faultPlace 134 [(0, vr 1), (2, vi x2)] [] M P := by
  refine Runs.aload_n (j := 0) dX7_faultPlace_134 rfl ?_
  refine Runs.geti (ci := 7) (j := 1) (C := RX7) (T := TX7) (N := 2) dX7_faultPlace_135 rfl cls_X7 (by decide) rfl fl_X7_15 (Or.inl rfl) ?_
  refine Runs.if_le (tgt := 150) dX7_faultPlace_138 (by decide) (fun h => ?_) (fun h => ?_)
  · refine Runs.picks (loc' := [(0, vr 1)]) [0] rfl ?_
    exact k1 h
  · exact k2 h
theorem kX7_faultPlace_141 {X : Scr} {M : Mem} {P : Option AV → Mem → Prop} {x2 : Int} (k1 : x2 ≠ 0 → Runs X mX7_faultPlace 150 [(0, vr 1)] [] M P) (k2 : x2 = 0 → Runs X mX7_faultPlace 145 [] [] M P) : Runs X mX7_faultPlace 141 [(0, vr 1), (2, vi x2)] [] M P := by
  refine Runs.iload_n (j := 1) dX7_faultPlace_141 rfl ?_
  refine Runs.if_ne (tgt := 150) dX7_faultPlace_142 (by decide) (fun h => ?_) (fun h => ?_)
  · refine Runs.picks (loc' := [(0, vr 1)]) [0] rfl ?_
    exact k1 h
  · refine Runs.picks (loc' := []) [] rfl ?_
    exact k2 h
theorem kX7_faultPlace_145 {X : Scr} {M : Mem} {P : Option AV → Mem → Prop} (k : Runs X mX7_faultPlace 154 [] [vi (-9 : Int)] M P) : Runs X mX7_faultPlace 145 [] [] M P := by
  refine Runs.bipush dX7_faultPlace_145 (by decide) (by decide) ?_
  refine Runs.goto (tgt := 154) dX7_faultPlace_147 (by decide) ?_
  exact k
theorem kX7_faultPlace_150 {X : Scr} {M : Mem} {P : Option AV → Mem → Prop} (k : Runs X mX7_faultPlace 154 [] [vi (M 1 1)] M P) : Runs X mX7_faultPlace 150 [(0, vr 1)] [] M P := by
  refine Runs.aload_n (j := 0) dX7_faultPlace_150 rfl ?_
  refine Runs.geti (ci := 7) (j := 1) (C := RX7) (T := TX7) (N := 2) dX7_faultPlace_151 rfl cls_X7 (by decide) rfl fl_X7_15 (Or.inl rfl) ?_
  refine Runs.picks (loc' := []) [] rfl ?_
  exact k
theorem kX7_faultPlace_154 {X : Scr} {M : Mem} {P : Option AV → Mem → Prop} {xs0 : Int} (k : P (some (vi xs0)) M) : Runs X mX7_faultPlace 154 [] [vi xs0] M P := by
  exact Runs.reti dX7_faultPlace_154 rfl k
theorem kX7_mayBegin_0 {X : Scr} {M : Mem} {P Q : Option AV → Mem → Prop} {x0 x1 x2 : Int} (hC : Call X mX7_tellsTooth [vi x0] M Q) (k : ∀ (z : Int) (M1 : Mem), Q (some (vi z)) M1 → Runs X mX7_mayBegin 4 [(0, vi x0), (1, vi x1), (2, vi x2)] [vi z] M1 P) : Runs X mX7_mayBegin 0 [(0, vi x0), (1, vi x1), (2, vi x2)] [] M P := by
  refine Runs.iload_n (j := 0) dX7_mayBegin_0 rfl ?_
  refine Runs.callSi (y := mX7_tellsTooth) (n := 1) (as := [vi x0]) (st := []) dX7_mayBegin_1 oc_X7_tellsTooth sm_X7_tellsTooth ml_X7_30 rfl ⟨(Nat.le_of_ble_eq_true rfl), (Nat.le_of_ble_eq_true rfl)⟩ (Nat.le_of_ble_eq_true rfl) (Nat.le_of_ble_eq_true rfl) (Or.inr rfl) hC (fun z M1 hQ => ?_)
  exact k z M1 hQ
theorem kX7_mayBegin_4 {X : Scr} {M : Mem} {P : Option AV → Mem → Prop} {x0 x1 x2 xs0 : Int} (k1 : xs0 = 0 → Runs X mX7_mayBegin 13 [(0, vi x0), (2, vi x2)] [] M P) (k2 : xs0 ≠ 0 → Runs X mX7_mayBegin 7 [(0, vi x0), (1, vi x1), (2, vi x2)] [] M P) : Runs X mX7_mayBegin 4 [(0, vi x0), (1, vi x1), (2, vi x2)] [vi xs0] M P := by
  refine Runs.if_eq (tgt := 13) dX7_mayBegin_4 (by decide) (fun h => ?_) (fun h => ?_)
  · refine Runs.picks (loc' := [(0, vi x0), (2, vi x2)]) [0, 2] rfl ?_
    exact k1 h
  · exact k2 h
theorem kX7_mayBegin_7 {X : Scr} {M : Mem} {P : Option AV → Mem → Prop} {x0 x1 x2 : Int} (k1 : x1 < (10 : Int) → Runs X mX7_mayBegin 24 [] [] M P) (k2 : (10 : Int) ≤ x1 → Runs X mX7_mayBegin 13 [(0, vi x0), (2, vi x2)] [] M P) : Runs X mX7_mayBegin 7 [(0, vi x0), (1, vi x1), (2, vi x2)] [] M P := by
  refine Runs.iload_n (j := 1) dX7_mayBegin_7 rfl ?_
  refine Runs.bipush dX7_mayBegin_8 (by decide) (by decide) ?_
  refine Runs.icmp_lt (tgt := 24) dX7_mayBegin_10 (by decide) (fun h => ?_) (fun h => ?_)
  · refine Runs.picks (loc' := []) [] rfl ?_
    exact k1 h
  · refine Runs.picks (loc' := [(0, vi x0), (2, vi x2)]) [0, 2] rfl ?_
    exact k2 h
theorem kX7_mayBegin_13 {X : Scr} {M : Mem} {P : Option AV → Mem → Prop} {x0 x2 : Int} (k1 : x0 ≠ (71 : Int) → Runs X mX7_mayBegin 28 [] [] M P) (k2 : x0 = (71 : Int) → Runs X mX7_mayBegin 19 [(2, vi x2)] [] M P) : Runs X mX7_mayBegin 13 [(0, vi x0), (2, vi x2)] [] M P := by
  refine Runs.iload_n (j := 0) dX7_mayBegin_13 rfl ?_
  refine Runs.bipush dX7_mayBegin_14 (by decide) (by decide) ?_
  refine Runs.icmp_ne (tgt := 28) dX7_mayBegin_16 (by decide) (fun h => ?_) (fun h => ?_)
  · refine Runs.picks (loc' := []) [] rfl ?_
    exact k1 h
  · refine Runs.picks (loc' := [(2, vi x2)]) [1] rfl ?_
    exact k2 h
theorem kX7_mayBegin_19 {X : Scr} {M : Mem} {P : Option AV → Mem → Prop} {x2 : Int} (k1 : (4 : Int) ≤ x2 → Runs X mX7_mayBegin 28 [] [] M P) (k2 : x2 < (4 : Int) → Runs X mX7_mayBegin 24 [] [] M P) : Runs X mX7_mayBegin 19 [(2, vi x2)] [] M P := by
  refine Runs.iload_n (j := 0) dX7_mayBegin_19 rfl ?_
  refine Runs.iconst dX7_mayBegin_20 (by decide) ?_
  refine Runs.icmp_ge (tgt := 28) dX7_mayBegin_21 (by decide) (fun h => ?_) (fun h => ?_)
  · refine Runs.picks (loc' := []) [] rfl ?_
    exact k1 h
  · refine Runs.picks (loc' := []) [] rfl ?_
    exact k2 h
theorem kX7_mayBegin_24 {X : Scr} {M : Mem} {P : Option AV → Mem → Prop} (k : Runs X mX7_mayBegin 29 [] [vi (1 : Int)] M P) : Runs X mX7_mayBegin 24 [] [] M P := by
  refine Runs.iconst dX7_mayBegin_24 (by decide) ?_
  refine Runs.goto (tgt := 29) dX7_mayBegin_25 (by decide) ?_
  exact k
theorem kX7_mayBegin_28 {X : Scr} {M : Mem} {P : Option AV → Mem → Prop} (k : Runs X mX7_mayBegin 29 [] [vi (0 : Int)] M P) : Runs X mX7_mayBegin 28 [] [] M P := by
  refine Runs.iconst dX7_mayBegin_28 (by decide) ?_
  exact k
theorem kX7_mayBegin_29 {X : Scr} {M : Mem} {P : Option AV → Mem → Prop} {xs0 : Int} (k : P (some (vi xs0)) M) (h1 : 0 ≤ xs0 ∧ xs0 ≤ 1 := by omega) : Runs X mX7_mayBegin 29 [] [vi xs0] M P := by
  exact Runs.retz dX7_mayBegin_29 rfl h1 k
theorem kX7_mayFollow_0 {X : Scr} {M : Mem} {P Q : Option AV → Mem → Prop} {x1 x2 x3 : Int} (hC : Call X mX7_byteAt [vr 1, vi x3] M Q) (k : ∀ (z : Int) (M1 : Mem), Q (some (vi z)) M1 → Runs X mX7_mayFollow 5 [(0, vr 1), (1, vi x1), (2, vi x2), (3, vi x3)] [vi z] M1 P) : Runs X mX7_mayFollow 0 [(0, vr 1), (1, vi x1), (2, vi x2), (3, vi x3)] [] M P := by
  refine Runs.aload_n (j := 0) dX7_mayFollow_0 rfl ?_
  refine Runs.iload_n (j := 3) dX7_mayFollow_1 rfl ?_
  refine Runs.callVi (y := mX7_byteAt) (n := 1) (as := [vi x3]) (st := []) (q := (RX7, TX7, 2)) dX7_mayFollow_2 oc_X7_byteAt im_X7_byteAt se_X7_byteAt ml_X7_19 rfl ⟨(Nat.le_of_ble_eq_true rfl), (Nat.le_of_ble_eq_true rfl)⟩ (Nat.le_of_ble_eq_true rfl) (Nat.le_of_ble_eq_true rfl) rfl rfl rfl (Or.inl rfl) hC (fun z M1 hQ => ?_)
  exact k z M1 hQ
theorem kX7_mayFollow_5 {X : Scr} {M : Mem} {P Q : Option AV → Mem → Prop} {x1 x2 x3 xs0 : Int} (hC : Call X mX7_figureAt [vr 1, vi x3] M Q) (k : ∀ (z : Int) (M1 : Mem), Q (some (vi z)) M1 → Runs X mX7_mayFollow 12 [(0, vr 1), (1, vi x1), (2, vi x2), (3, vi x3), (4, vi xs0)] [vi z] M1 P) : Runs X mX7_mayFollow 5 [(0, vr 1), (1, vi x1), (2, vi x2), (3, vi x3)] [vi xs0] M P := by
  refine Runs.istore (loc' := [(0, vr 1), (1, vi x1), (2, vi x2), (3, vi x3), (4, vi xs0)]) dX7_mayFollow_5 (by decide) rfl ?_
  refine Runs.aload_n (j := 0) dX7_mayFollow_7 rfl ?_
  refine Runs.iload_n (j := 3) dX7_mayFollow_8 rfl ?_
  refine Runs.callVi (y := mX7_figureAt) (n := 1) (as := [vi x3]) (st := []) (q := (RX7, TX7, 2)) dX7_mayFollow_9 oc_X7_figureAt im_X7_figureAt se_X7_figureAt ml_X7_37 rfl ⟨(Nat.le_of_ble_eq_true rfl), (Nat.le_of_ble_eq_true rfl)⟩ (Nat.le_of_ble_eq_true rfl) (Nat.le_of_ble_eq_true rfl) rfl rfl rfl (Or.inl rfl) hC (fun z M1 hQ => ?_)
  exact k z M1 hQ
theorem kX7_mayFollow_12 {X : Scr} {M : Mem} {P Q : Option AV → Mem → Prop} {x1 x2 x3 x4 xs0 : Int} (hC : Call X mX7_tellsTooth [vi x1] M Q) (k : ∀ (z : Int) (M1 : Mem), Q (some (vi z)) M1 → Runs X mX7_mayFollow 18 [(0, vr 1), (1, vi x1), (2, vi x2), (3, vi x3), (4, vi x4), (5, vi xs0)] [vi z] M1 P) : Runs X mX7_mayFollow 12 [(0, vr 1), (1, vi x1), (2, vi x2), (3, vi x3), (4, vi x4)] [vi xs0] M P := by
  refine Runs.istore (loc' := [(0, vr 1), (1, vi x1), (2, vi x2), (3, vi x3), (4, vi x4), (5, vi xs0)]) dX7_mayFollow_12 (by decide) rfl ?_
  refine Runs.iload_n (j := 1) dX7_mayFollow_14 rfl ?_
  refine Runs.callSi (y := mX7_tellsTooth) (n := 1) (as := [vi x1]) (st := []) dX7_mayFollow_15 oc_X7_tellsTooth sm_X7_tellsTooth ml_X7_30 rfl ⟨(Nat.le_of_ble_eq_true rfl), (Nat.le_of_ble_eq_true rfl)⟩ (Nat.le_of_ble_eq_true rfl) (Nat.le_of_ble_eq_true rfl) (Or.inr rfl) hC (fun z M1 hQ => ?_)
  exact k z M1 hQ
theorem kX7_mayFollow_18 {X : Scr} {M : Mem} {P : Option AV → Mem → Prop} {x1 x2 x3 x4 x5 xs0 : Int} (k1 : xs0 = 0 → Runs X mX7_mayFollow 46 [(0, vr 1), (1, vi x1), (2, vi x2), (3, vi x3), (5, vi x5)] [] M P) (k2 : xs0 ≠ 0 → Runs X mX7_mayFollow 21 [(0, vr 1), (1, vi x1), (2, vi x2), (3, vi x3), (4, vi x4), (5, vi x5)] [] M P) : Runs X mX7_mayFollow 18 [(0, vr 1), (1, vi x1), (2, vi x2), (3, vi x3), (4, vi x4), (5, vi x5)] [vi xs0] M P := by
  refine Runs.if_eq (tgt := 46) dX7_mayFollow_18 (by decide) (fun h => ?_) (fun h => ?_)
  · refine Runs.picks (loc' := [(0, vr 1), (1, vi x1), (2, vi x2), (3, vi x3), (5, vi x5)]) [0, 1, 2, 3, 5] rfl ?_
    exact k1 h
  · exact k2 h
theorem kX7_mayFollow_21 {X : Scr} {M : Mem} {P : Option AV → Mem → Prop} {x1 x2 x3 x4 x5 : Int} (k1 : x2 ≠ (2 : Int) → Runs X mX7_mayFollow 46 [(0, vr 1), (1, vi x1), (2, vi x2), (3, vi x3), (5, vi x5)] [] M P) (k2 : x2 = (2 : Int) → Runs X mX7_mayFollow 26 [(4, vi x4)] [] M P) : Runs X mX7_mayFollow 21 [(0, vr 1), (1, vi x1), (2, vi x2), (3, vi x3), (4, vi x4), (5, vi x5)] [] M P := by
  refine Runs.iload_n (j := 2) dX7_mayFollow_21 rfl ?_
  refine Runs.iconst dX7_mayFollow_22 (by decide) ?_
  refine Runs.icmp_ne (tgt := 46) dX7_mayFollow_23 (by decide) (fun h => ?_) (fun h => ?_)
  · refine Runs.picks (loc' := [(0, vr 1), (1, vi x1), (2, vi x2), (3, vi x3), (5, vi x5)]) [0, 1, 2, 3, 5] rfl ?_
    exact k1 h
  · refine Runs.picks (loc' := [(4, vi x4)]) [4] rfl ?_
    exact k2 h
theorem kX7_mayFollow_26 {X : Scr} {M : Mem} {P : Option AV → Mem → Prop} {x4 : Int} (k1 : x4 = (76 : Int) → Runs X mX7_mayFollow 40 [] [] M P) (k2 : x4 ≠ (76 : Int) → Runs X mX7_mayFollow 33 [(4, vi x4)] [] M P) : Runs X mX7_mayFollow 26 [(4, vi x4)] [] M P := by
  refine Runs.iload (j := 0) dX7_mayFollow_26 rfl ?_
  refine Runs.bipush dX7_mayFollow_28 (by decide) (by decide) ?_
  refine Runs.icmp_eq (tgt := 40) dX7_mayFollow_30 (by decide) (fun h => ?_) (fun h => ?_)
  · refine Runs.picks (loc' := []) [] rfl ?_
    exact k1 h
  · exact k2 h
theorem kX7_mayFollow_33 {X : Scr} {M : Mem} {P : Option AV → Mem → Prop} {x4 : Int} (k1 : x4 ≠ (82 : Int) → Runs X mX7_mayFollow 44 [] [] M P) (k2 : x4 = (82 : Int) → Runs X mX7_mayFollow 40 [] [] M P) : Runs X mX7_mayFollow 33 [(4, vi x4)] [] M P := by
  refine Runs.iload (j := 0) dX7_mayFollow_33 rfl ?_
  refine Runs.bipush dX7_mayFollow_35 (by decide) (by decide) ?_
  refine Runs.icmp_ne (tgt := 44) dX7_mayFollow_37 (by decide) (fun h => ?_) (fun h => ?_)
  · refine Runs.picks (loc' := []) [] rfl ?_
    exact k1 h
  · refine Runs.picks (loc' := []) [] rfl ?_
    exact k2 h
theorem kX7_mayFollow_40 {X : Scr} {M : Mem} {P : Option AV → Mem → Prop} (k : Runs X mX7_mayFollow 45 [] [vi (1 : Int)] M P) : Runs X mX7_mayFollow 40 [] [] M P := by
  refine Runs.iconst dX7_mayFollow_40 (by decide) ?_
  refine Runs.goto (tgt := 45) dX7_mayFollow_41 (by decide) ?_
  exact k
theorem kX7_mayFollow_44 {X : Scr} {M : Mem} {P : Option AV → Mem → Prop} (k : Runs X mX7_mayFollow 45 [] [vi (0 : Int)] M P) : Runs X mX7_mayFollow 44 [] [] M P := by
  refine Runs.iconst dX7_mayFollow_44 (by decide) ?_
  exact k
theorem kX7_mayFollow_45 {X : Scr} {M : Mem} {P : Option AV → Mem → Prop} {xs0 : Int} (k : P (some (vi xs0)) M) (h1 : 0 ≤ xs0 ∧ xs0 ≤ 1 := by omega) : Runs X mX7_mayFollow 45 [] [vi xs0] M P := by
  exact Runs.retz dX7_mayFollow_45 rfl h1 k
theorem kX7_mayFollow_46 {X : Scr} {M : Mem} {P : Option AV → Mem → Prop} {x1 x2 x3 x5 : Int} (k1 : x1 ≠ (76 : Int) → Runs X mX7_mayFollow 64 [(0, vr 1), (1, vi x1), (2, vi x2), (3, vi x3), (5, vi x5), (6, vi (0 : Int)), (7, vi (9 : Int))] [] M P) (k2 : x1 = (76 : Int) → Runs X mX7_mayFollow 59 [(0, vr 1), (1, vi x1), (2, vi x2), (3, vi x3), (5, vi x5), (6, vi (0 : Int)), (7, vi (9 : Int))] [] M P) : Runs X mX7_mayFollow 46 [(0, vr 1), (1, vi x1), (2, vi x2), (3, vi x3), (5, vi x5)] [] M P := by
  refine Runs.iconst dX7_mayFollow_46 (by decide) ?_
  refine Runs.istore (loc' := [(0, vr 1), (1, vi x1), (2, vi x2), (3, vi x3), (5, vi x5), (6, vi (0 : Int))]) dX7_mayFollow_47 (by decide) rfl ?_
  refine Runs.bipush dX7_mayFollow_49 (by decide) (by decide) ?_
  refine Runs.istore (loc' := [(0, vr 1), (1, vi x1), (2, vi x2), (3, vi x3), (5, vi x5), (6, vi (0 : Int)), (7, vi (9 : Int))]) dX7_mayFollow_51 (by decide) rfl ?_
  refine Runs.iload_n (j := 1) dX7_mayFollow_53 rfl ?_
  refine Runs.bipush dX7_mayFollow_54 (by decide) (by decide) ?_
  refine Runs.icmp_ne (tgt := 64) dX7_mayFollow_56 (by decide) (fun h => ?_) (fun h => ?_)
  · exact k1 h
  · exact k2 h
theorem kX7_mayFollow_59 {X : Scr} {M : Mem} {P : Option AV → Mem → Prop} {x1 x2 x3 x5 x6 x7 : Int} (k1 : x2 = (2 : Int) → Runs X mX7_mayFollow 76 [(5, vi x5), (7, vi x7)] [] M P) (k2 : x2 ≠ (2 : Int) → Runs X mX7_mayFollow 64 [(0, vr 1), (1, vi x1), (2, vi x2), (3, vi x3), (5, vi x5), (6, vi x6), (7, vi x7)] [] M P) : Runs X mX7_mayFollow 59 [(0, vr 1), (1, vi x1), (2, vi x2), (3, vi x3), (5, vi x5), (6, vi x6), (7, vi x7)] [] M P := by
  refine Runs.iload_n (j := 2) dX7_mayFollow_59 rfl ?_
  refine Runs.iconst dX7_mayFollow_60 (by decide) ?_
  refine Runs.icmp_eq (tgt := 76) dX7_mayFollow_61 (by decide) (fun h => ?_) (fun h => ?_)
  · refine Runs.picks (loc' := [(5, vi x5), (7, vi x7)]) [4, 6] rfl ?_
    exact k1 h
  · exact k2 h
theorem kX7_mayFollow_64 {X : Scr} {M : Mem} {P Q : Option AV → Mem → Prop} {x1 x2 x3 x5 x6 x7 : Int} (hC : Call X mX7_tellsTooth [vi x1] M Q) (k : ∀ (z : Int) (M1 : Mem), Q (some (vi z)) M1 → Runs X mX7_mayFollow 68 [(0, vr 1), (1, vi x1), (2, vi x2), (3, vi x3), (5, vi x5), (6, vi x6), (7, vi x7)] [vi z] M1 P) : Runs X mX7_mayFollow 64 [(0, vr 1), (1, vi x1), (2, vi x2), (3, vi x3), (5, vi x5), (6, vi x6), (7, vi x7)] [] M P := by
  refine Runs.iload_n (j := 1) dX7_mayFollow_64 rfl ?_
  refine Runs.callSi (y := mX7_tellsTooth) (n := 1) (as := [vi x1]) (st := []) dX7_mayFollow_65 oc_X7_tellsTooth sm_X7_tellsTooth ml_X7_30 rfl ⟨(Nat.le_of_ble_eq_true rfl), (Nat.le_of_ble_eq_true rfl)⟩ (Nat.le_of_ble_eq_true rfl) (Nat.le_of_ble_eq_true rfl) (Or.inr rfl) hC (fun z M1 hQ => ?_)
  exact k z M1 hQ
theorem kX7_mayFollow_68 {X : Scr} {M : Mem} {P : Option AV → Mem → Prop} {x1 x2 x3 x5 x6 x7 xs0 : Int} (k1 : xs0 = 0 → Runs X mX7_mayFollow 82 [(0, vr 1), (1, vi x1), (2, vi x2), (3, vi x3), (5, vi x5), (6, vi x6), (7, vi x7)] [] M P) (k2 : xs0 ≠ 0 → Runs X mX7_mayFollow 71 [(0, vr 1), (1, vi x1), (2, vi x2), (3, vi x3), (5, vi x5), (6, vi x6), (7, vi x7)] [] M P) : Runs X mX7_mayFollow 68 [(0, vr 1), (1, vi x1), (2, vi x2), (3, vi x3), (5, vi x5), (6, vi x6), (7, vi x7)] [vi xs0] M P := by
  refine Runs.if_eq (tgt := 82) dX7_mayFollow_68 (by decide) (fun h => ?_) (fun h => ?_)
  · exact k1 h
  · exact k2 h
theorem kX7_mayFollow_71 {X : Scr} {M : Mem} {P : Option AV → Mem → Prop} {x1 x2 x3 x5 x6 x7 : Int} (k1 : x2 ≠ (1 : Int) → Runs X mX7_mayFollow 82 [(0, vr 1), (1, vi x1), (2, vi x2), (3, vi x3), (5, vi x5), (6, vi x6), (7, vi x7)] [] M P) (k2 : x2 = (1 : Int) → Runs X mX7_mayFollow 76 [(5, vi x5), (7, vi x7)] [] M P) : Runs X mX7_mayFollow 71 [(0, vr 1), (1, vi x1), (2, vi x2), (3, vi x3), (5, vi x5), (6, vi x6), (7, vi x7)] [] M P := by
  refine Runs.iload_n (j := 2) dX7_mayFollow_71 rfl ?_
  refine Runs.iconst dX7_mayFollow_72 (by decide) ?_
  refine Runs.icmp_ne (tgt := 82) dX7_mayFollow_73 (by decide) (fun h => ?_) (fun h => ?_)
  · exact k1 h
  · refine Runs.picks (loc' := [(5, vi x5), (7, vi x7)]) [4, 6] rfl ?_
    exact k2 h
theorem kX7_mayFollow_76 {X : Scr} {M : Mem} {P : Option AV → Mem → Prop} {x5 x7 : Int} (k : Runs X mX7_mayFollow 126 [(5, vi x5), (6, vi (1 : Int)), (7, vi x7)] [] M P) : Runs X mX7_mayFollow 76 [(5, vi x5), (7, vi x7)] [] M P := by
  refine Runs.iconst dX7_mayFollow_76 (by decide) ?_
  refine Runs.istore (loc' := [(5, vi x5), (6, vi (1 : Int)), (7, vi x7)]) dX7_mayFollow_77 (by decide) rfl ?_
  refine Runs.goto (tgt := 126) dX7_mayFollow_79 (by decide) ?_
  exact k
theorem kX7_mayFollow_82 {X : Scr} {M : Mem} {P : Option AV → Mem → Prop} {x1 x2 x3 x5 x6 x7 : Int} (k1 : x1 ≠ (71 : Int) → Runs X mX7_mayFollow 111 [(1, vi x1), (2, vi x2), (5, vi x5), (6, vi x6), (7, vi x7)] [] M P) (k2 : x1 = (71 : Int) → Runs X mX7_mayFollow 88 [(0, vr 1), (1, vi x1), (2, vi x2), (3, vi x3), (5, vi x5), (6, vi x6), (7, vi x7)] [] M P) : Runs X mX7_mayFollow 82 [(0, vr 1), (1, vi x1), (2, vi x2), (3, vi x3), (5, vi x5), (6, vi x6), (7, vi x7)] [] M P := by
  refine Runs.iload_n (j := 1) dX7_mayFollow_82 rfl ?_
  refine Runs.bipush dX7_mayFollow_83 (by decide) (by decide) ?_
  refine Runs.icmp_ne (tgt := 111) dX7_mayFollow_85 (by decide) (fun h => ?_) (fun h => ?_)
  · refine Runs.picks (loc' := [(1, vi x1), (2, vi x2), (5, vi x5), (6, vi x6), (7, vi x7)]) [1, 2, 4, 5, 6] rfl ?_
    exact k1 h
  · exact k2 h
theorem kX7_mayFollow_88 {X : Scr} {M : Mem} {P : Option AV → Mem → Prop} {x1 x2 x3 x5 x6 x7 : Int} (k1 : x2 ≠ (2 : Int) → Runs X mX7_mayFollow 111 [(1, vi x1), (2, vi x2), (5, vi x5), (6, vi x6), (7, vi x7)] [] M P) (k2 : x2 = (2 : Int) → Runs X mX7_mayFollow 93 [(0, vr 1), (1, vi x1), (2, vi x2), (3, vi x3), (5, vi x5), (6, vi x6), (7, vi x7)] [] M P) : Runs X mX7_mayFollow 88 [(0, vr 1), (1, vi x1), (2, vi x2), (3, vi x3), (5, vi x5), (6, vi x6), (7, vi x7)] [] M P := by
  refine Runs.iload_n (j := 2) dX7_mayFollow_88 rfl ?_
  refine Runs.iconst dX7_mayFollow_89 (by decide) ?_
  refine Runs.icmp_ne (tgt := 111) dX7_mayFollow_90 (by decide) (fun h => ?_) (fun h => ?_)
  · refine Runs.picks (loc' := [(1, vi x1), (2, vi x2), (5, vi x5), (6, vi x6), (7, vi x7)]) [1, 2, 4, 5, 6] rfl ?_
    exact k1 h
  · exact k2 h
theorem kX7_mayFollow_93 {X : Scr} {M : Mem} {P Q : Option AV → Mem → Prop} {x1 x2 x3 x5 x6 x7 : Int} (hC : Call X mX7_byteAt [vr 1, vi (x3 - (1 : Int))] M Q) (k : ∀ (z : Int) (M1 : Mem), Q (some (vi z)) M1 → Runs X mX7_mayFollow 100 [(1, vi x1), (2, vi x2), (5, vi x5), (6, vi x6), (7, vi x7)] [vi z] M1 P) (h1 : -2147483648 ≤ (x3 - (1 : Int)) ∧ (x3 - (1 : Int)) ≤ 2147483647 := by omega) : Runs X mX7_mayFollow 93 [(0, vr 1), (1, vi x1), (2, vi x2), (3, vi x3), (5, vi x5), (6, vi x6), (7, vi x7)] [] M P := by
  refine Runs.aload_n (j := 0) dX7_mayFollow_93 rfl ?_
  refine Runs.iload_n (j := 3) dX7_mayFollow_94 rfl ?_
  refine Runs.iconst dX7_mayFollow_95 (by decide) ?_
  refine Runs.isub dX7_mayFollow_96 h1 ?_
  refine Runs.callVi (y := mX7_byteAt) (n := 1) (as := [vi (x3 - (1 : Int))]) (st := []) (q := (RX7, TX7, 2)) dX7_mayFollow_97 oc_X7_byteAt im_X7_byteAt se_X7_byteAt ml_X7_19 rfl ⟨(Nat.le_of_ble_eq_true rfl), (Nat.le_of_ble_eq_true rfl)⟩ (Nat.le_of_ble_eq_true rfl) (Nat.le_of_ble_eq_true rfl) rfl rfl rfl (Or.inl rfl) hC (fun z M1 hQ => ?_)
  refine Runs.picks (loc' := [(1, vi x1), (2, vi x2), (5, vi x5), (6, vi x6), (7, vi x7)]) [1, 2, 4, 5, 6] rfl ?_
  exact k z M1 hQ
theorem kX7_mayFollow_100 {X : Scr} {M : Mem} {P : Option AV → Mem → Prop} {x1 x2 x5 x6 x7 xs0 : Int} (k1 : xs0 ≠ (48 : Int) → Runs X mX7_mayFollow 111 [(1, vi x1), (2, vi x2), (5, vi x5), (6, vi x6), (7, vi x7)] [] M P) (k2 : xs0 = (48 : Int) → Runs X mX7_mayFollow 105 [(5, vi x5), (7, vi x7)] [] M P) : Runs X mX7_mayFollow 100 [(1, vi x1), (2, vi x2), (5, vi x5), (6, vi x6), (7, vi x7)] [vi xs0] M P := by
  refine Runs.bipush dX7_mayFollow_100 (by decide) (by decide) ?_
  refine Runs.icmp_ne (tgt := 111) dX7_mayFollow_102 (by decide) (fun h => ?_) (fun h => ?_)
  · exact k1 h
  · refine Runs.picks (loc' := [(5, vi x5), (7, vi x7)]) [2, 4] rfl ?_
    exact k2 h
theorem kX7_mayFollow_105 {X : Scr} {M : Mem} {P : Option AV → Mem → Prop} {x5 x7 : Int} (k : Runs X mX7_mayFollow 126 [(5, vi x5), (6, vi (1 : Int)), (7, vi x7)] [] M P) : Runs X mX7_mayFollow 105 [(5, vi x5), (7, vi x7)] [] M P := by
  refine Runs.iconst dX7_mayFollow_105 (by decide) ?_
  refine Runs.istore (loc' := [(5, vi x5), (6, vi (1 : Int)), (7, vi x7)]) dX7_mayFollow_106 (by decide) rfl ?_
  refine Runs.goto (tgt := 126) dX7_mayFollow_108 (by decide) ?_
  exact k
theorem kX7_mayFollow_111 {X : Scr} {M : Mem} {P Q : Option AV → Mem → Prop} {x1 x2 x5 x6 x7 : Int} (hC : Call X mX7_tellsTooth [vi x1] M Q) (k : ∀ (z : Int) (M1 : Mem), Q (some (vi z)) M1 → Runs X mX7_mayFollow 115 [(2, vi x2), (5, vi x5), (6, vi x6), (7, vi x7)] [vi z] M1 P) : Runs X mX7_mayFollow 111 [(1, vi x1), (2, vi x2), (5, vi x5), (6, vi x6), (7, vi x7)] [] M P := by
  refine Runs.iload_n (j := 0) dX7_mayFollow_111 rfl ?_
  refine Runs.callSi (y := mX7_tellsTooth) (n := 1) (as := [vi x1]) (st := []) dX7_mayFollow_112 oc_X7_tellsTooth sm_X7_tellsTooth ml_X7_30 rfl ⟨(Nat.le_of_ble_eq_true rfl), (Nat.le_of_ble_eq_true rfl)⟩ (Nat.le_of_ble_eq_true rfl) (Nat.le_of_ble_eq_true rfl) (Or.inr rfl) hC (fun z M1 hQ => ?_)
  refine Runs.picks (loc' := [(2, vi x2), (5, vi x5), (6, vi x6), (7, vi x7)]) [1, 2, 3, 4] rfl ?_
  exact k z M1 hQ
theorem kX7_mayFollow_115 {X : Scr} {M : Mem} {P : Option AV → Mem → Prop} {x2 x5 x6 x7 xs0 : Int} (k1 : xs0 = 0 → Runs X mX7_mayFollow 126 [(5, vi x5), (6, vi x6), (7, vi x7)] [] M P) (k2 : xs0 ≠ 0 → Runs X mX7_mayFollow 118 [(2, vi x2), (5, vi x5), (6, vi x6), (7, vi x7)] [] M P) : Runs X mX7_mayFollow 115 [(2, vi x2), (5, vi x5), (6, vi x6), (7, vi x7)] [vi xs0] M P := by
  refine Runs.if_eq (tgt := 126) dX7_mayFollow_115 (by decide) (fun h => ?_) (fun h => ?_)
  · refine Runs.picks (loc' := [(5, vi x5), (6, vi x6), (7, vi x7)]) [1, 2, 3] rfl ?_
    exact k1 h
  · exact k2 h
theorem kX7_mayFollow_118 {X : Scr} {M : Mem} {P : Option AV → Mem → Prop} {x2 x5 x6 x7 : Int} (k1 : x2 ≠ (4 : Int) → Runs X mX7_mayFollow 126 [(5, vi x5), (6, vi x6), (7, vi x7)] [] M P) (k2 : x2 = (4 : Int) → Runs X mX7_mayFollow 123 [(5, vi x5), (6, vi x6)] [] M P) : Runs X mX7_mayFollow 118 [(2, vi x2), (5, vi x5), (6, vi x6), (7, vi x7)] [] M P := by
  refine Runs.iload_n (j := 0) dX7_mayFollow_118 rfl ?_
  refine Runs.iconst dX7_mayFollow_119 (by decide) ?_
  refine Runs.icmp_ne (tgt := 126) dX7_mayFollow_120 (by decide) (fun h => ?_) (fun h => ?_)
  · refine Runs.picks (loc' := [(5, vi x5), (6, vi x6), (7, vi x7)]) [1, 2, 3] rfl ?_
    exact k1 h
  · refine Runs.picks (loc' := [(5, vi x5), (6, vi x6)]) [1, 2] rfl ?_
    exact k2 h
theorem kX7_mayFollow_123 {X : Scr} {M : Mem} {P : Option AV → Mem → Prop} {x5 x6 : Int} (k : Runs X mX7_mayFollow 126 [(5, vi x5), (6, vi x6), (7, vi (3 : Int))] [] M P) : Runs X mX7_mayFollow 123 [(5, vi x5), (6, vi x6)] [] M P := by
  refine Runs.iconst dX7_mayFollow_123 (by decide) ?_
  refine Runs.istore (loc' := [(5, vi x5), (6, vi x6), (7, vi (3 : Int))]) dX7_mayFollow_124 (by decide) rfl ?_
  exact k
theorem kX7_mayFollow_126 {X : Scr} {M : Mem} {P : Option AV → Mem → Prop} {x5 x6 x7 : Int} (k1 : x5 < x6 → Runs X mX7_mayFollow 144 [] [] M P) (k2 : x6 ≤ x5 → Runs X mX7_mayFollow 133 [(5, vi x5), (7, vi x7)] [] M P) : Runs X mX7_mayFollow 126 [(5, vi x5), (6, vi x6), (7, vi x7)] [] M P := by
  refine Runs.iload (j := 0) dX7_mayFollow_126 rfl ?_
  refine Runs.iload (j := 1) dX7_mayFollow_128 rfl ?_
  refine Runs.icmp_lt (tgt := 144) dX7_mayFollow_130 (by decide) (fun h => ?_) (fun h => ?_)
  · refine Runs.picks (loc' := []) [] rfl ?_
    exact k1 h
  · refine Runs.picks (loc' := [(5, vi x5), (7, vi x7)]) [0, 2] rfl ?_
    exact k2 h
theorem kX7_mayFollow_133 {X : Scr} {M : Mem} {P : Option AV → Mem → Prop} {x5 x7 : Int} (k1 : x7 < x5 → Runs X mX7_mayFollow 144 [] [] M P) (k2 : x5 ≤ x7 → Runs X mX7_mayFollow 140 [] [] M P) : Runs X mX7_mayFollow 133 [(5, vi x5), (7, vi x7)] [] M P := by
  refine Runs.iload (j := 0) dX7_mayFollow_133 rfl ?_
  refine Runs.iload (j := 1) dX7_mayFollow_135 rfl ?_
  refine Runs.icmp_gt (tgt := 144) dX7_mayFollow_137 (by decide) (fun h => ?_) (fun h => ?_)
  · refine Runs.picks (loc' := []) [] rfl ?_
    exact k1 h
  · refine Runs.picks (loc' := []) [] rfl ?_
    exact k2 h
theorem kX7_mayFollow_140 {X : Scr} {M : Mem} {P : Option AV → Mem → Prop} (k : Runs X mX7_mayFollow 145 [] [vi (1 : Int)] M P) : Runs X mX7_mayFollow 140 [] [] M P := by
  refine Runs.iconst dX7_mayFollow_140 (by decide) ?_
  refine Runs.goto (tgt := 145) dX7_mayFollow_141 (by decide) ?_
  exact k
theorem kX7_mayFollow_144 {X : Scr} {M : Mem} {P : Option AV → Mem → Prop} (k : Runs X mX7_mayFollow 145 [] [vi (0 : Int)] M P) : Runs X mX7_mayFollow 144 [] [] M P := by
  refine Runs.iconst dX7_mayFollow_144 (by decide) ?_
  exact k
theorem kX7_mayFollow_145 {X : Scr} {M : Mem} {P : Option AV → Mem → Prop} {xs0 : Int} (k : P (some (vi xs0)) M) (h1 : 0 ≤ xs0 ∧ xs0 ≤ 1 := by omega) : Runs X mX7_mayFollow 145 [] [vi xs0] M P := by
  exact Runs.retz dX7_mayFollow_145 rfl h1 k
