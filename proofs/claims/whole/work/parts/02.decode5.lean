theorem d_W_shiftRight_45 : decode b_W_shiftRight 45 = .ok (.lshl, 1) := by decide +kernel
theorem d_W_shiftRight_46 : decode b_W_shiftRight 46 = .ok (.ldc2_w 13, 3) := by decide +kernel
theorem d_W_shiftRight_49 : decode b_W_shiftRight 49 = .ok (.land, 1) := by decide +kernel
theorem d_W_shiftRight_50 : decode b_W_shiftRight 50 = .ok (.lor, 1) := by decide +kernel
theorem d_W_shiftRight_51 : decode b_W_shiftRight 51 = .ok (.lastore, 1) := by decide +kernel
theorem d_W_shiftRight_52 : decode b_W_shiftRight 52 = .ok (.iinc 2 1, 3) := by decide +kernel
theorem d_W_shiftRight_55 : decode b_W_shiftRight 55 = .ok (.goto (-53), 3) := by decide +kernel
theorem d_W_shiftRight_58 : decode b_W_shiftRight 58 = .ok (.return_, 1) := by decide +kernel
theorem d_W_dropTwos_0 : decode b_W_dropTwos 0 = .ok (.aload_n 0, 1) := by decide +kernel
theorem d_W_dropTwos_1 : decode b_W_dropTwos 1 = .ok (.invokevirtual 40, 3) := by decide +kernel
theorem d_W_dropTwos_4 : decode b_W_dropTwos 4 = .ok (.istore_n 1, 1) := by decide +kernel
theorem d_W_dropTwos_5 : decode b_W_dropTwos 5 = .ok (.iconst 0, 1) := by decide +kernel
theorem d_W_dropTwos_6 : decode b_W_dropTwos 6 = .ok (.istore_n 2, 1) := by decide +kernel
theorem d_W_dropTwos_7 : decode b_W_dropTwos 7 = .ok (.iload_n 1, 1) := by decide +kernel
theorem d_W_dropTwos_8 : decode b_W_dropTwos 8 = .ok (.ifCond .le 24, 3) := by decide +kernel
theorem d_W_dropTwos_11 : decode b_W_dropTwos 11 = .ok (.iload_n 2, 1) := by decide +kernel
theorem d_W_dropTwos_12 : decode b_W_dropTwos 12 = .ok (.iconst 5, 1) := by decide +kernel
theorem d_W_dropTwos_13 : decode b_W_dropTwos 13 = .ok (.if_icmp .gt 19, 3) := by decide +kernel
theorem d_W_dropTwos_16 : decode b_W_dropTwos 16 = .ok (.aload_n 0, 1) := by decide +kernel
theorem d_W_dropTwos_17 : decode b_W_dropTwos 17 = .ok (.iload_n 1, 1) := by decide +kernel
theorem d_W_dropTwos_18 : decode b_W_dropTwos 18 = .ok (.invokevirtual 44, 3) := by decide +kernel
theorem d_W_dropTwos_21 : decode b_W_dropTwos 21 = .ok (.aload_n 0, 1) := by decide +kernel
theorem d_W_dropTwos_22 : decode b_W_dropTwos 22 = .ok (.invokevirtual 40, 3) := by decide +kernel
theorem d_W_dropTwos_25 : decode b_W_dropTwos 25 = .ok (.istore_n 1, 1) := by decide +kernel
theorem d_W_dropTwos_26 : decode b_W_dropTwos 26 = .ok (.iinc 2 1, 3) := by decide +kernel
theorem d_W_dropTwos_29 : decode b_W_dropTwos 29 = .ok (.goto (-22), 3) := by decide +kernel
theorem d_W_dropTwos_32 : decode b_W_dropTwos 32 = .ok (.return_, 1) := by decide +kernel
theorem d_W_divideByOdd_0 : decode b_W_divideByOdd 0 = .ok (.aload_n 1, 1) := by decide +kernel
theorem d_W_divideByOdd_1 : decode b_W_divideByOdd 1 = .ok (.getfield 9, 3) := by decide +kernel
theorem d_W_divideByOdd_4 : decode b_W_divideByOdd 4 = .ok (.iconst 0, 1) := by decide +kernel
theorem d_W_divideByOdd_5 : decode b_W_divideByOdd 5 = .ok (.laload, 1) := by decide +kernel
theorem d_W_divideByOdd_6 : decode b_W_divideByOdd 6 = .ok (.invokestatic 47, 3) := by decide +kernel
theorem d_W_divideByOdd_9 : decode b_W_divideByOdd 9 = .ok (.lstore_n 2, 1) := by decide +kernel
theorem d_W_divideByOdd_10 : decode b_W_divideByOdd 10 = .ok (.iconst 0, 1) := by decide +kernel
theorem d_W_divideByOdd_11 : decode b_W_divideByOdd 11 = .ok (.istore 4, 2) := by decide +kernel
theorem d_W_divideByOdd_13 : decode b_W_divideByOdd 13 = .ok (.iload 4, 2) := by decide +kernel
theorem d_W_divideByOdd_15 : decode b_W_divideByOdd 15 = .ok (.iconst 5, 1) := by decide +kernel
theorem d_W_divideByOdd_16 : decode b_W_divideByOdd 16 = .ok (.if_icmp .ge 42, 3) := by decide +kernel
theorem d_W_divideByOdd_19 : decode b_W_divideByOdd 19 = .ok (.aload_n 0, 1) := by decide +kernel
theorem d_W_divideByOdd_20 : decode b_W_divideByOdd 20 = .ok (.getfield 9, 3) := by decide +kernel
theorem d_W_divideByOdd_23 : decode b_W_divideByOdd 23 = .ok (.iload 4, 2) := by decide +kernel
theorem d_W_divideByOdd_25 : decode b_W_divideByOdd 25 = .ok (.laload, 1) := by decide +kernel
theorem d_W_divideByOdd_26 : decode b_W_divideByOdd 26 = .ok (.lload_n 2, 1) := by decide +kernel
theorem d_W_divideByOdd_27 : decode b_W_divideByOdd 27 = .ok (.lmul, 1) := by decide +kernel
theorem d_W_divideByOdd_28 : decode b_W_divideByOdd 28 = .ok (.ldc2_w 13, 3) := by decide +kernel
theorem d_W_divideByOdd_31 : decode b_W_divideByOdd 31 = .ok (.land, 1) := by decide +kernel
theorem d_W_divideByOdd_32 : decode b_W_divideByOdd 32 = .ok (.lstore 5, 2) := by decide +kernel
theorem d_W_divideByOdd_34 : decode b_W_divideByOdd 34 = .ok (.aload_n 0, 1) := by decide +kernel
theorem d_W_divideByOdd_35 : decode b_W_divideByOdd 35 = .ok (.aload_n 1, 1) := by decide +kernel
theorem d_W_divideByOdd_36 : decode b_W_divideByOdd 36 = .ok (.lload 5, 2) := by decide +kernel
theorem d_W_divideByOdd_38 : decode b_W_divideByOdd 38 = .ok (.iload 4, 2) := by decide +kernel
theorem d_W_divideByOdd_40 : decode b_W_divideByOdd 40 = .ok (.invokevirtual 51, 3) := by decide +kernel
theorem d_W_divideByOdd_43 : decode b_W_divideByOdd 43 = .ok (.aload_n 0, 1) := by decide +kernel
theorem d_W_divideByOdd_44 : decode b_W_divideByOdd 44 = .ok (.getfield 9, 3) := by decide +kernel
theorem d_W_divideByOdd_47 : decode b_W_divideByOdd 47 = .ok (.iload 4, 2) := by decide +kernel
theorem d_W_divideByOdd_49 : decode b_W_divideByOdd 49 = .ok (.lload 5, 2) := by decide +kernel
theorem d_W_divideByOdd_51 : decode b_W_divideByOdd 51 = .ok (.lastore, 1) := by decide +kernel
theorem d_W_divideByOdd_52 : decode b_W_divideByOdd 52 = .ok (.iinc 4 1, 3) := by decide +kernel
theorem d_W_divideByOdd_55 : decode b_W_divideByOdd 55 = .ok (.goto (-42), 3) := by decide +kernel
theorem d_W_divideByOdd_58 : decode b_W_divideByOdd 58 = .ok (.return_, 1) := by decide +kernel
theorem d_W_takeTimes_0 : decode b_W_takeTimes 0 = .ok (.lconst 0, 1) := by decide +kernel
theorem d_W_takeTimes_1 : decode b_W_takeTimes 1 = .ok (.lstore 5, 2) := by decide +kernel
theorem d_W_takeTimes_3 : decode b_W_takeTimes 3 = .ok (.iconst 0, 1) := by decide +kernel
theorem d_W_takeTimes_4 : decode b_W_takeTimes 4 = .ok (.istore 7, 2) := by decide +kernel
theorem d_W_takeTimes_6 : decode b_W_takeTimes 6 = .ok (.iload 4, 2) := by decide +kernel
theorem d_W_takeTimes_8 : decode b_W_takeTimes 8 = .ok (.iload 7, 2) := by decide +kernel
theorem d_W_takeTimes_10 : decode b_W_takeTimes 10 = .ok (.iadd, 1) := by decide +kernel
theorem d_W_takeTimes_11 : decode b_W_takeTimes 11 = .ok (.iconst 5, 1) := by decide +kernel
theorem d_W_takeTimes_12 : decode b_W_takeTimes 12 = .ok (.if_icmp .ge 79, 3) := by decide +kernel
theorem d_W_takeTimes_15 : decode b_W_takeTimes 15 = .ok (.aload_n 1, 1) := by decide +kernel
theorem d_W_takeTimes_16 : decode b_W_takeTimes 16 = .ok (.getfield 9, 3) := by decide +kernel
theorem d_W_takeTimes_19 : decode b_W_takeTimes 19 = .ok (.iload 7, 2) := by decide +kernel
theorem d_W_takeTimes_21 : decode b_W_takeTimes 21 = .ok (.laload, 1) := by decide +kernel
theorem d_W_takeTimes_22 : decode b_W_takeTimes 22 = .ok (.lload_n 2, 1) := by decide +kernel
theorem d_W_takeTimes_23 : decode b_W_takeTimes 23 = .ok (.lmul, 1) := by decide +kernel
theorem d_W_takeTimes_24 : decode b_W_takeTimes 24 = .ok (.lload 5, 2) := by decide +kernel
theorem d_W_takeTimes_26 : decode b_W_takeTimes 26 = .ok (.ladd, 1) := by decide +kernel
theorem d_W_takeTimes_27 : decode b_W_takeTimes 27 = .ok (.lstore 8, 2) := by decide +kernel
theorem d_W_takeTimes_29 : decode b_W_takeTimes 29 = .ok (.aload_n 0, 1) := by decide +kernel
theorem d_W_takeTimes_30 : decode b_W_takeTimes 30 = .ok (.getfield 9, 3) := by decide +kernel
theorem d_W_takeTimes_33 : decode b_W_takeTimes 33 = .ok (.iload 4, 2) := by decide +kernel
theorem d_W_takeTimes_35 : decode b_W_takeTimes 35 = .ok (.iload 7, 2) := by decide +kernel
theorem d_W_takeTimes_37 : decode b_W_takeTimes 37 = .ok (.iadd, 1) := by decide +kernel
theorem d_W_takeTimes_38 : decode b_W_takeTimes 38 = .ok (.laload, 1) := by decide +kernel
theorem d_W_takeTimes_39 : decode b_W_takeTimes 39 = .ok (.lload 8, 2) := by decide +kernel
theorem d_W_takeTimes_41 : decode b_W_takeTimes 41 = .ok (.ldc2_w 13, 3) := by decide +kernel
theorem d_W_takeTimes_44 : decode b_W_takeTimes 44 = .ok (.land, 1) := by decide +kernel
theorem d_W_takeTimes_45 : decode b_W_takeTimes 45 = .ok (.lsub, 1) := by decide +kernel
theorem d_W_takeTimes_46 : decode b_W_takeTimes 46 = .ok (.lstore 10, 2) := by decide +kernel
theorem d_W_takeTimes_48 : decode b_W_takeTimes 48 = .ok (.aload_n 0, 1) := by decide +kernel
theorem d_W_takeTimes_49 : decode b_W_takeTimes 49 = .ok (.getfield 9, 3) := by decide +kernel
theorem d_W_takeTimes_52 : decode b_W_takeTimes 52 = .ok (.iload 4, 2) := by decide +kernel
theorem d_W_takeTimes_54 : decode b_W_takeTimes 54 = .ok (.iload 7, 2) := by decide +kernel
theorem d_W_takeTimes_56 : decode b_W_takeTimes 56 = .ok (.iadd, 1) := by decide +kernel
theorem d_W_takeTimes_57 : decode b_W_takeTimes 57 = .ok (.lload 10, 2) := by decide +kernel
theorem d_W_takeTimes_59 : decode b_W_takeTimes 59 = .ok (.ldc2_w 13, 3) := by decide +kernel
theorem d_W_takeTimes_62 : decode b_W_takeTimes 62 = .ok (.land, 1) := by decide +kernel
theorem d_W_takeTimes_63 : decode b_W_takeTimes 63 = .ok (.lastore, 1) := by decide +kernel
theorem d_W_takeTimes_64 : decode b_W_takeTimes 64 = .ok (.lload 8, 2) := by decide +kernel
theorem d_W_takeTimes_66 : decode b_W_takeTimes 66 = .ok (.bipush 32, 2) := by decide +kernel
theorem d_W_takeTimes_68 : decode b_W_takeTimes 68 = .ok (.lushr, 1) := by decide +kernel
theorem d_W_takeTimes_69 : decode b_W_takeTimes 69 = .ok (.lload 10, 2) := by decide +kernel
theorem d_W_takeTimes_71 : decode b_W_takeTimes 71 = .ok (.lconst 0, 1) := by decide +kernel
theorem d_W_takeTimes_72 : decode b_W_takeTimes 72 = .ok (.lcmp, 1) := by decide +kernel
theorem d_W_takeTimes_73 : decode b_W_takeTimes 73 = .ok (.ifCond .ge 7, 3) := by decide +kernel
theorem d_W_takeTimes_76 : decode b_W_takeTimes 76 = .ok (.iconst 1, 1) := by decide +kernel
theorem d_W_takeTimes_77 : decode b_W_takeTimes 77 = .ok (.goto 4, 3) := by decide +kernel
theorem d_W_takeTimes_80 : decode b_W_takeTimes 80 = .ok (.iconst 0, 1) := by decide +kernel
theorem d_W_takeTimes_81 : decode b_W_takeTimes 81 = .ok (.i2l, 1) := by decide +kernel
theorem d_W_takeTimes_82 : decode b_W_takeTimes 82 = .ok (.ladd, 1) := by decide +kernel
theorem d_W_takeTimes_83 : decode b_W_takeTimes 83 = .ok (.lstore 5, 2) := by decide +kernel
theorem d_W_takeTimes_85 : decode b_W_takeTimes 85 = .ok (.iinc 7 1, 3) := by decide +kernel
theorem d_W_takeTimes_88 : decode b_W_takeTimes 88 = .ok (.goto (-82), 3) := by decide +kernel
theorem d_W_takeTimes_91 : decode b_W_takeTimes 91 = .ok (.return_, 1) := by decide +kernel
theorem d_W_inverseOfLimb_0 : decode b_W_inverseOfLimb 0 = .ok (.lload_n 0, 1) := by decide +kernel
theorem d_W_inverseOfLimb_1 : decode b_W_inverseOfLimb 1 = .ok (.lstore_n 2, 1) := by decide +kernel
theorem d_W_inverseOfLimb_2 : decode b_W_inverseOfLimb 2 = .ok (.iconst 3, 1) := by decide +kernel
theorem d_W_inverseOfLimb_3 : decode b_W_inverseOfLimb 3 = .ok (.istore 4, 2) := by decide +kernel
theorem d_W_inverseOfLimb_5 : decode b_W_inverseOfLimb 5 = .ok (.iload 4, 2) := by decide +kernel
theorem d_W_inverseOfLimb_7 : decode b_W_inverseOfLimb 7 = .ok (.bipush 32, 2) := by decide +kernel
theorem d_W_inverseOfLimb_9 : decode b_W_inverseOfLimb 9 = .ok (.if_icmp .ge 26, 3) := by decide +kernel
theorem d_W_inverseOfLimb_12 : decode b_W_inverseOfLimb 12 = .ok (.lload_n 2, 1) := by decide +kernel
theorem d_W_inverseOfLimb_13 : decode b_W_inverseOfLimb 13 = .ok (.ldc2_w 55, 3) := by decide +kernel
theorem d_W_inverseOfLimb_16 : decode b_W_inverseOfLimb 16 = .ok (.lload_n 0, 1) := by decide +kernel
theorem d_W_inverseOfLimb_17 : decode b_W_inverseOfLimb 17 = .ok (.lload_n 2, 1) := by decide +kernel
theorem d_W_inverseOfLimb_18 : decode b_W_inverseOfLimb 18 = .ok (.lmul, 1) := by decide +kernel
theorem d_W_inverseOfLimb_19 : decode b_W_inverseOfLimb 19 = .ok (.lsub, 1) := by decide +kernel
theorem d_W_inverseOfLimb_20 : decode b_W_inverseOfLimb 20 = .ok (.lmul, 1) := by decide +kernel
theorem d_W_inverseOfLimb_21 : decode b_W_inverseOfLimb 21 = .ok (.ldc2_w 13, 3) := by decide +kernel
theorem d_W_inverseOfLimb_24 : decode b_W_inverseOfLimb 24 = .ok (.land, 1) := by decide +kernel
theorem d_W_inverseOfLimb_25 : decode b_W_inverseOfLimb 25 = .ok (.lstore_n 2, 1) := by decide +kernel
theorem d_W_inverseOfLimb_26 : decode b_W_inverseOfLimb 26 = .ok (.iload 4, 2) := by decide +kernel
theorem d_W_inverseOfLimb_28 : decode b_W_inverseOfLimb 28 = .ok (.iconst 2, 1) := by decide +kernel
theorem d_W_inverseOfLimb_29 : decode b_W_inverseOfLimb 29 = .ok (.imul, 1) := by decide +kernel
theorem d_W_inverseOfLimb_30 : decode b_W_inverseOfLimb 30 = .ok (.istore 4, 2) := by decide +kernel
theorem d_W_inverseOfLimb_32 : decode b_W_inverseOfLimb 32 = .ok (.goto (-27), 3) := by decide +kernel
theorem d_W_inverseOfLimb_35 : decode b_W_inverseOfLimb 35 = .ok (.lload_n 2, 1) := by decide +kernel
theorem d_W_inverseOfLimb_36 : decode b_W_inverseOfLimb 36 = .ok (.lreturn, 1) := by decide +kernel
theorem d_L_law_0 : decode code 0 = .ok (.new 7, 3) := by decide +kernel
theorem d_L_law_3 : decode code 3 = .ok (.dup, 1) := by decide +kernel
theorem d_L_law_4 : decode code 4 = .ok (.invokespecial 9, 3) := by decide +kernel
theorem d_L_law_7 : decode code 7 = .ok (.astore_n 1, 1) := by decide +kernel
theorem d_L_law_8 : decode code 8 = .ok (.new 10, 3) := by decide +kernel
theorem d_L_law_11 : decode code 11 = .ok (.dup, 1) := by decide +kernel
theorem d_L_law_12 : decode code 12 = .ok (.invokespecial 12, 3) := by decide +kernel
theorem d_L_law_15 : decode code 15 = .ok (.astore_n 2, 1) := by decide +kernel
theorem d_L_law_16 : decode code 16 = .ok (.iconst 0, 1) := by decide +kernel
theorem d_L_law_17 : decode code 17 = .ok (.istore_n 3, 1) := by decide +kernel
theorem d_L_law_18 : decode code 18 = .ok (.iload_n 3, 1) := by decide +kernel
theorem d_L_law_19 : decode code 19 = .ok (.aload_n 0, 1) := by decide +kernel
theorem d_L_law_20 : decode code 20 = .ok (.arraylength, 1) := by decide +kernel
theorem d_L_law_21 : decode code 21 = .ok (.bipush 6, 2) := by decide +kernel
theorem d_L_law_23 : decode code 23 = .ok (.isub, 1) := by decide +kernel
theorem d_L_law_24 : decode code 24 = .ok (.if_icmp .gt 580, 3) := by decide +kernel
theorem d_L_law_27 : decode code 27 = .ok (.aload_n 0, 1) := by decide +kernel
theorem d_L_law_28 : decode code 28 = .ok (.iload_n 3, 1) := by decide +kernel
theorem d_L_law_29 : decode code 29 = .ok (.iaload, 1) := by decide +kernel
theorem d_L_law_30 : decode code 30 = .ok (.bipush 15, 2) := by decide +kernel
theorem d_L_law_32 : decode code 32 = .ok (.iand, 1) := by decide +kernel
theorem d_L_law_33 : decode code 33 = .ok (.tableswitch 565 0 10 #[59, 122, 175, 218, 271, 284, 297, 310, 353, 422, 502], 59) := by decide +kernel
theorem d_L_law_92 : decode code 92 = .ok (.aload_n 1, 1) := by decide +kernel
theorem d_L_law_93 : decode code 93 = .ok (.aload_n 0, 1) := by decide +kernel
theorem d_L_law_94 : decode code 94 = .ok (.iload_n 3, 1) := by decide +kernel
theorem d_L_law_95 : decode code 95 = .ok (.iconst 1, 1) := by decide +kernel
theorem d_L_law_96 : decode code 96 = .ok (.iadd, 1) := by decide +kernel
theorem d_L_law_97 : decode code 97 = .ok (.iaload, 1) := by decide +kernel
theorem d_L_law_98 : decode code 98 = .ok (.aload_n 0, 1) := by decide +kernel
theorem d_L_law_99 : decode code 99 = .ok (.iload_n 3, 1) := by decide +kernel
theorem d_L_law_100 : decode code 100 = .ok (.iconst 2, 1) := by decide +kernel
theorem d_L_law_101 : decode code 101 = .ok (.iadd, 1) := by decide +kernel
theorem d_L_law_102 : decode code 102 = .ok (.iaload, 1) := by decide +kernel
theorem d_L_law_103 : decode code 103 = .ok (.aload_n 0, 1) := by decide +kernel
theorem d_L_law_104 : decode code 104 = .ok (.iload_n 3, 1) := by decide +kernel
theorem d_L_law_105 : decode code 105 = .ok (.iconst 3, 1) := by decide +kernel
theorem d_L_law_106 : decode code 106 = .ok (.iadd, 1) := by decide +kernel
theorem d_L_law_107 : decode code 107 = .ok (.iaload, 1) := by decide +kernel
theorem d_L_law_108 : decode code 108 = .ok (.aload_n 0, 1) := by decide +kernel
theorem d_L_law_109 : decode code 109 = .ok (.iload_n 3, 1) := by decide +kernel
theorem d_L_law_110 : decode code 110 = .ok (.iconst 4, 1) := by decide +kernel
theorem d_L_law_111 : decode code 111 = .ok (.iadd, 1) := by decide +kernel
theorem d_L_law_112 : decode code 112 = .ok (.iaload, 1) := by decide +kernel
theorem d_L_law_113 : decode code 113 = .ok (.aload_n 0, 1) := by decide +kernel
theorem d_L_law_114 : decode code 114 = .ok (.iload_n 3, 1) := by decide +kernel
theorem d_L_law_115 : decode code 115 = .ok (.iconst 5, 1) := by decide +kernel
theorem d_L_law_116 : decode code 116 = .ok (.iadd, 1) := by decide +kernel
theorem d_L_law_117 : decode code 117 = .ok (.iaload, 1) := by decide +kernel
theorem d_L_law_118 : decode code 118 = .ok (.invokevirtual 13, 3) := by decide +kernel
theorem d_L_law_121 : decode code 121 = .ok (.aload_n 2, 1) := by decide +kernel
theorem d_L_law_122 : decode code 122 = .ok (.aload_n 0, 1) := by decide +kernel
theorem d_L_law_123 : decode code 123 = .ok (.iload_n 3, 1) := by decide +kernel
theorem d_L_law_124 : decode code 124 = .ok (.iconst 1, 1) := by decide +kernel
theorem d_L_law_125 : decode code 125 = .ok (.iadd, 1) := by decide +kernel
theorem d_L_law_126 : decode code 126 = .ok (.iaload, 1) := by decide +kernel
theorem d_L_law_127 : decode code 127 = .ok (.aload_n 0, 1) := by decide +kernel
theorem d_L_law_128 : decode code 128 = .ok (.iload_n 3, 1) := by decide +kernel
theorem d_L_law_129 : decode code 129 = .ok (.iconst 2, 1) := by decide +kernel
theorem d_L_law_130 : decode code 130 = .ok (.iadd, 1) := by decide +kernel
theorem d_L_law_131 : decode code 131 = .ok (.iaload, 1) := by decide +kernel
theorem d_L_law_132 : decode code 132 = .ok (.aload_n 0, 1) := by decide +kernel
theorem d_L_law_133 : decode code 133 = .ok (.iload_n 3, 1) := by decide +kernel
theorem d_L_law_134 : decode code 134 = .ok (.iconst 3, 1) := by decide +kernel
theorem d_L_law_135 : decode code 135 = .ok (.iadd, 1) := by decide +kernel
theorem d_L_law_136 : decode code 136 = .ok (.iaload, 1) := by decide +kernel
theorem d_L_law_137 : decode code 137 = .ok (.aload_n 0, 1) := by decide +kernel
theorem d_L_law_138 : decode code 138 = .ok (.iload_n 3, 1) := by decide +kernel
theorem d_L_law_139 : decode code 139 = .ok (.iconst 4, 1) := by decide +kernel
theorem d_L_law_140 : decode code 140 = .ok (.iadd, 1) := by decide +kernel
theorem d_L_law_141 : decode code 141 = .ok (.iaload, 1) := by decide +kernel
theorem d_L_law_142 : decode code 142 = .ok (.aload_n 0, 1) := by decide +kernel
theorem d_L_law_143 : decode code 143 = .ok (.iload_n 3, 1) := by decide +kernel
theorem d_L_law_144 : decode code 144 = .ok (.iconst 5, 1) := by decide +kernel
theorem d_L_law_145 : decode code 145 = .ok (.iadd, 1) := by decide +kernel
theorem d_L_law_146 : decode code 146 = .ok (.iaload, 1) := by decide +kernel
theorem d_L_law_147 : decode code 147 = .ok (.invokevirtual 17, 3) := by decide +kernel
theorem d_L_law_150 : decode code 150 = .ok (.if_icmp .eq 448, 3) := by decide +kernel
theorem d_L_law_153 : decode code 153 = .ok (.iconst 0, 1) := by decide +kernel
theorem d_L_law_154 : decode code 154 = .ok (.ireturn, 1) := by decide +kernel
theorem d_L_law_155 : decode code 155 = .ok (.aload_n 1, 1) := by decide +kernel
theorem d_L_law_156 : decode code 156 = .ok (.aload_n 0, 1) := by decide +kernel
theorem d_L_law_157 : decode code 157 = .ok (.iload_n 3, 1) := by decide +kernel
theorem d_L_law_158 : decode code 158 = .ok (.iconst 1, 1) := by decide +kernel
theorem d_L_law_159 : decode code 159 = .ok (.iadd, 1) := by decide +kernel
theorem d_L_law_160 : decode code 160 = .ok (.iaload, 1) := by decide +kernel
theorem d_L_law_161 : decode code 161 = .ok (.aload_n 0, 1) := by decide +kernel
theorem d_L_law_162 : decode code 162 = .ok (.iload_n 3, 1) := by decide +kernel
theorem d_L_law_163 : decode code 163 = .ok (.iconst 2, 1) := by decide +kernel
theorem d_L_law_164 : decode code 164 = .ok (.iadd, 1) := by decide +kernel
theorem d_L_law_165 : decode code 165 = .ok (.iaload, 1) := by decide +kernel
theorem d_L_law_166 : decode code 166 = .ok (.aload_n 0, 1) := by decide +kernel
theorem d_L_law_167 : decode code 167 = .ok (.iload_n 3, 1) := by decide +kernel
theorem d_L_law_168 : decode code 168 = .ok (.iconst 3, 1) := by decide +kernel
theorem d_L_law_169 : decode code 169 = .ok (.iadd, 1) := by decide +kernel
theorem d_L_law_170 : decode code 170 = .ok (.iaload, 1) := by decide +kernel
theorem d_L_law_171 : decode code 171 = .ok (.aload_n 0, 1) := by decide +kernel
theorem d_L_law_172 : decode code 172 = .ok (.iload_n 3, 1) := by decide +kernel
theorem d_L_law_173 : decode code 173 = .ok (.iconst 4, 1) := by decide +kernel
theorem d_L_law_174 : decode code 174 = .ok (.iadd, 1) := by decide +kernel
theorem d_L_law_175 : decode code 175 = .ok (.iaload, 1) := by decide +kernel
theorem d_L_law_176 : decode code 176 = .ok (.invokevirtual 18, 3) := by decide +kernel
theorem d_L_law_179 : decode code 179 = .ok (.aload_n 2, 1) := by decide +kernel
theorem d_L_law_180 : decode code 180 = .ok (.aload_n 0, 1) := by decide +kernel
theorem d_L_law_181 : decode code 181 = .ok (.iload_n 3, 1) := by decide +kernel
theorem d_L_law_182 : decode code 182 = .ok (.iconst 1, 1) := by decide +kernel
theorem d_L_law_183 : decode code 183 = .ok (.iadd, 1) := by decide +kernel
theorem d_L_law_184 : decode code 184 = .ok (.iaload, 1) := by decide +kernel
theorem d_L_law_185 : decode code 185 = .ok (.aload_n 0, 1) := by decide +kernel
theorem d_L_law_186 : decode code 186 = .ok (.iload_n 3, 1) := by decide +kernel
theorem d_L_law_187 : decode code 187 = .ok (.iconst 2, 1) := by decide +kernel
theorem d_L_law_188 : decode code 188 = .ok (.iadd, 1) := by decide +kernel
theorem d_L_law_189 : decode code 189 = .ok (.iaload, 1) := by decide +kernel
theorem d_L_law_190 : decode code 190 = .ok (.aload_n 0, 1) := by decide +kernel
theorem d_L_law_191 : decode code 191 = .ok (.iload_n 3, 1) := by decide +kernel
theorem d_L_law_192 : decode code 192 = .ok (.iconst 3, 1) := by decide +kernel
theorem d_L_law_193 : decode code 193 = .ok (.iadd, 1) := by decide +kernel
theorem d_L_law_194 : decode code 194 = .ok (.iaload, 1) := by decide +kernel
theorem d_L_law_195 : decode code 195 = .ok (.aload_n 0, 1) := by decide +kernel
theorem d_L_law_196 : decode code 196 = .ok (.iload_n 3, 1) := by decide +kernel
theorem d_L_law_197 : decode code 197 = .ok (.iconst 4, 1) := by decide +kernel
theorem d_L_law_198 : decode code 198 = .ok (.iadd, 1) := by decide +kernel
theorem d_L_law_199 : decode code 199 = .ok (.iaload, 1) := by decide +kernel
theorem d_L_law_200 : decode code 200 = .ok (.invokevirtual 22, 3) := by decide +kernel
theorem d_L_law_203 : decode code 203 = .ok (.if_icmp .eq 395, 3) := by decide +kernel
theorem d_L_law_206 : decode code 206 = .ok (.iconst 0, 1) := by decide +kernel
theorem d_L_law_207 : decode code 207 = .ok (.ireturn, 1) := by decide +kernel
theorem d_L_law_208 : decode code 208 = .ok (.aload_n 1, 1) := by decide +kernel
theorem d_L_law_209 : decode code 209 = .ok (.aload_n 0, 1) := by decide +kernel
theorem d_L_law_210 : decode code 210 = .ok (.iload_n 3, 1) := by decide +kernel
theorem d_L_law_211 : decode code 211 = .ok (.iconst 1, 1) := by decide +kernel
theorem d_L_law_212 : decode code 212 = .ok (.iadd, 1) := by decide +kernel
theorem d_L_law_213 : decode code 213 = .ok (.iaload, 1) := by decide +kernel
theorem d_L_law_214 : decode code 214 = .ok (.aload_n 0, 1) := by decide +kernel
theorem d_L_law_215 : decode code 215 = .ok (.iload_n 3, 1) := by decide +kernel
theorem d_L_law_216 : decode code 216 = .ok (.iconst 2, 1) := by decide +kernel
theorem d_L_law_217 : decode code 217 = .ok (.iadd, 1) := by decide +kernel
theorem d_L_law_218 : decode code 218 = .ok (.iaload, 1) := by decide +kernel
theorem d_L_law_219 : decode code 219 = .ok (.aload_n 0, 1) := by decide +kernel
theorem d_L_law_220 : decode code 220 = .ok (.iload_n 3, 1) := by decide +kernel
theorem d_L_law_221 : decode code 221 = .ok (.iconst 3, 1) := by decide +kernel
theorem d_L_law_222 : decode code 222 = .ok (.iadd, 1) := by decide +kernel
theorem d_L_law_223 : decode code 223 = .ok (.iaload, 1) := by decide +kernel
theorem d_L_law_224 : decode code 224 = .ok (.invokevirtual 23, 3) := by decide +kernel
theorem d_L_law_227 : decode code 227 = .ok (.aload_n 2, 1) := by decide +kernel
theorem d_L_law_228 : decode code 228 = .ok (.aload_n 0, 1) := by decide +kernel
theorem d_L_law_229 : decode code 229 = .ok (.iload_n 3, 1) := by decide +kernel
theorem d_L_law_230 : decode code 230 = .ok (.iconst 1, 1) := by decide +kernel
theorem d_L_law_231 : decode code 231 = .ok (.iadd, 1) := by decide +kernel
theorem d_L_law_232 : decode code 232 = .ok (.iaload, 1) := by decide +kernel
theorem d_L_law_233 : decode code 233 = .ok (.aload_n 0, 1) := by decide +kernel
theorem d_L_law_234 : decode code 234 = .ok (.iload_n 3, 1) := by decide +kernel
theorem d_L_law_235 : decode code 235 = .ok (.iconst 2, 1) := by decide +kernel
theorem d_L_law_236 : decode code 236 = .ok (.iadd, 1) := by decide +kernel
theorem d_L_law_237 : decode code 237 = .ok (.iaload, 1) := by decide +kernel
theorem d_L_law_238 : decode code 238 = .ok (.aload_n 0, 1) := by decide +kernel
theorem d_L_law_239 : decode code 239 = .ok (.iload_n 3, 1) := by decide +kernel
theorem d_L_law_240 : decode code 240 = .ok (.iconst 3, 1) := by decide +kernel
theorem d_L_law_241 : decode code 241 = .ok (.iadd, 1) := by decide +kernel
theorem d_L_law_242 : decode code 242 = .ok (.iaload, 1) := by decide +kernel
theorem d_L_law_243 : decode code 243 = .ok (.invokevirtual 27, 3) := by decide +kernel
theorem d_L_law_246 : decode code 246 = .ok (.if_icmp .eq 352, 3) := by decide +kernel
theorem d_L_law_249 : decode code 249 = .ok (.iconst 0, 1) := by decide +kernel
theorem d_L_law_250 : decode code 250 = .ok (.ireturn, 1) := by decide +kernel
theorem d_L_law_251 : decode code 251 = .ok (.aload_n 1, 1) := by decide +kernel
theorem d_L_law_252 : decode code 252 = .ok (.aload_n 0, 1) := by decide +kernel
theorem d_L_law_253 : decode code 253 = .ok (.iload_n 3, 1) := by decide +kernel
theorem d_L_law_254 : decode code 254 = .ok (.iconst 1, 1) := by decide +kernel
theorem d_L_law_255 : decode code 255 = .ok (.iadd, 1) := by decide +kernel
theorem d_L_law_256 : decode code 256 = .ok (.iaload, 1) := by decide +kernel
theorem d_L_law_257 : decode code 257 = .ok (.aload_n 0, 1) := by decide +kernel
theorem d_L_law_258 : decode code 258 = .ok (.iload_n 3, 1) := by decide +kernel
theorem d_L_law_259 : decode code 259 = .ok (.iconst 2, 1) := by decide +kernel
theorem d_L_law_260 : decode code 260 = .ok (.iadd, 1) := by decide +kernel
theorem d_L_law_261 : decode code 261 = .ok (.iaload, 1) := by decide +kernel
theorem d_L_law_262 : decode code 262 = .ok (.aload_n 0, 1) := by decide +kernel
theorem d_L_law_263 : decode code 263 = .ok (.iload_n 3, 1) := by decide +kernel
theorem d_L_law_264 : decode code 264 = .ok (.iconst 3, 1) := by decide +kernel
theorem d_L_law_265 : decode code 265 = .ok (.iadd, 1) := by decide +kernel
theorem d_L_law_266 : decode code 266 = .ok (.iaload, 1) := by decide +kernel
theorem d_L_law_267 : decode code 267 = .ok (.aload_n 0, 1) := by decide +kernel
theorem d_L_law_268 : decode code 268 = .ok (.iload_n 3, 1) := by decide +kernel
theorem d_L_law_269 : decode code 269 = .ok (.iconst 4, 1) := by decide +kernel
theorem d_L_law_270 : decode code 270 = .ok (.iadd, 1) := by decide +kernel
theorem d_L_law_271 : decode code 271 = .ok (.iaload, 1) := by decide +kernel
theorem d_L_law_272 : decode code 272 = .ok (.invokevirtual 28, 3) := by decide +kernel
theorem d_L_law_275 : decode code 275 = .ok (.aload_n 2, 1) := by decide +kernel
theorem d_L_law_276 : decode code 276 = .ok (.aload_n 0, 1) := by decide +kernel
theorem d_L_law_277 : decode code 277 = .ok (.iload_n 3, 1) := by decide +kernel
theorem d_L_law_278 : decode code 278 = .ok (.iconst 1, 1) := by decide +kernel
theorem d_L_law_279 : decode code 279 = .ok (.iadd, 1) := by decide +kernel
theorem d_L_law_280 : decode code 280 = .ok (.iaload, 1) := by decide +kernel
theorem d_L_law_281 : decode code 281 = .ok (.aload_n 0, 1) := by decide +kernel
theorem d_L_law_282 : decode code 282 = .ok (.iload_n 3, 1) := by decide +kernel
theorem d_L_law_283 : decode code 283 = .ok (.iconst 2, 1) := by decide +kernel
theorem d_L_law_284 : decode code 284 = .ok (.iadd, 1) := by decide +kernel
theorem d_L_law_285 : decode code 285 = .ok (.iaload, 1) := by decide +kernel
theorem d_L_law_286 : decode code 286 = .ok (.aload_n 0, 1) := by decide +kernel
theorem d_L_law_287 : decode code 287 = .ok (.iload_n 3, 1) := by decide +kernel
theorem d_L_law_288 : decode code 288 = .ok (.iconst 3, 1) := by decide +kernel
theorem d_L_law_289 : decode code 289 = .ok (.iadd, 1) := by decide +kernel
theorem d_L_law_290 : decode code 290 = .ok (.iaload, 1) := by decide +kernel
theorem d_L_law_291 : decode code 291 = .ok (.aload_n 0, 1) := by decide +kernel
theorem d_L_law_292 : decode code 292 = .ok (.iload_n 3, 1) := by decide +kernel
theorem d_L_law_293 : decode code 293 = .ok (.iconst 4, 1) := by decide +kernel
theorem d_L_law_294 : decode code 294 = .ok (.iadd, 1) := by decide +kernel
theorem d_L_law_295 : decode code 295 = .ok (.iaload, 1) := by decide +kernel
theorem d_L_law_296 : decode code 296 = .ok (.invokevirtual 32, 3) := by decide +kernel
theorem d_L_law_299 : decode code 299 = .ok (.if_icmp .eq 299, 3) := by decide +kernel
theorem d_L_law_302 : decode code 302 = .ok (.iconst 0, 1) := by decide +kernel
theorem d_L_law_303 : decode code 303 = .ok (.ireturn, 1) := by decide +kernel
theorem d_L_law_304 : decode code 304 = .ok (.aload_n 1, 1) := by decide +kernel
theorem d_L_law_305 : decode code 305 = .ok (.invokevirtual 33, 3) := by decide +kernel
theorem d_L_law_308 : decode code 308 = .ok (.aload_n 2, 1) := by decide +kernel
theorem d_L_law_309 : decode code 309 = .ok (.invokevirtual 37, 3) := by decide +kernel
theorem d_L_law_312 : decode code 312 = .ok (.if_icmp .eq 286, 3) := by decide +kernel
theorem d_L_law_315 : decode code 315 = .ok (.iconst 0, 1) := by decide +kernel
theorem d_L_law_316 : decode code 316 = .ok (.ireturn, 1) := by decide +kernel
theorem d_L_law_317 : decode code 317 = .ok (.aload_n 1, 1) := by decide +kernel
theorem d_L_law_318 : decode code 318 = .ok (.invokevirtual 38, 3) := by decide +kernel
theorem d_L_law_321 : decode code 321 = .ok (.aload_n 2, 1) := by decide +kernel
theorem d_L_law_322 : decode code 322 = .ok (.invokevirtual 41, 3) := by decide +kernel
theorem d_L_law_325 : decode code 325 = .ok (.if_icmp .eq 273, 3) := by decide +kernel
theorem d_L_law_328 : decode code 328 = .ok (.iconst 0, 1) := by decide +kernel
theorem d_L_law_329 : decode code 329 = .ok (.ireturn, 1) := by decide +kernel
theorem d_L_law_330 : decode code 330 = .ok (.aload_n 1, 1) := by decide +kernel
theorem d_L_law_331 : decode code 331 = .ok (.invokevirtual 42, 3) := by decide +kernel
theorem d_L_law_334 : decode code 334 = .ok (.aload_n 2, 1) := by decide +kernel
theorem d_L_law_335 : decode code 335 = .ok (.invokevirtual 45, 3) := by decide +kernel
theorem d_L_law_338 : decode code 338 = .ok (.if_icmp .eq 260, 3) := by decide +kernel
theorem d_L_law_341 : decode code 341 = .ok (.iconst 0, 1) := by decide +kernel
theorem d_L_law_342 : decode code 342 = .ok (.ireturn, 1) := by decide +kernel
theorem d_L_law_343 : decode code 343 = .ok (.aload_n 1, 1) := by decide +kernel
theorem d_L_law_344 : decode code 344 = .ok (.aload_n 0, 1) := by decide +kernel
theorem d_L_law_345 : decode code 345 = .ok (.iload_n 3, 1) := by decide +kernel
theorem d_L_law_346 : decode code 346 = .ok (.iconst 1, 1) := by decide +kernel
theorem d_L_law_347 : decode code 347 = .ok (.iadd, 1) := by decide +kernel
theorem d_L_law_348 : decode code 348 = .ok (.iaload, 1) := by decide +kernel
theorem d_L_law_349 : decode code 349 = .ok (.aload_n 0, 1) := by decide +kernel
theorem d_L_law_350 : decode code 350 = .ok (.iload_n 3, 1) := by decide +kernel
theorem d_L_law_351 : decode code 351 = .ok (.iconst 2, 1) := by decide +kernel
theorem d_L_law_352 : decode code 352 = .ok (.iadd, 1) := by decide +kernel
theorem d_L_law_353 : decode code 353 = .ok (.iaload, 1) := by decide +kernel
theorem d_L_law_354 : decode code 354 = .ok (.aload_n 0, 1) := by decide +kernel
theorem d_L_law_355 : decode code 355 = .ok (.iload_n 3, 1) := by decide +kernel
theorem d_L_law_356 : decode code 356 = .ok (.iconst 3, 1) := by decide +kernel
theorem d_L_law_357 : decode code 357 = .ok (.iadd, 1) := by decide +kernel
theorem d_L_law_358 : decode code 358 = .ok (.iaload, 1) := by decide +kernel
theorem d_L_law_359 : decode code 359 = .ok (.invokevirtual 46, 3) := by decide +kernel
theorem d_L_law_362 : decode code 362 = .ok (.aload_n 2, 1) := by decide +kernel
theorem d_L_law_363 : decode code 363 = .ok (.aload_n 0, 1) := by decide +kernel
theorem d_L_law_364 : decode code 364 = .ok (.iload_n 3, 1) := by decide +kernel
theorem d_L_law_365 : decode code 365 = .ok (.iconst 1, 1) := by decide +kernel
theorem d_L_law_366 : decode code 366 = .ok (.iadd, 1) := by decide +kernel
theorem d_L_law_367 : decode code 367 = .ok (.iaload, 1) := by decide +kernel
theorem d_L_law_368 : decode code 368 = .ok (.aload_n 0, 1) := by decide +kernel
theorem d_L_law_369 : decode code 369 = .ok (.iload_n 3, 1) := by decide +kernel
theorem d_L_law_370 : decode code 370 = .ok (.iconst 2, 1) := by decide +kernel
theorem d_L_law_371 : decode code 371 = .ok (.iadd, 1) := by decide +kernel
theorem d_L_law_372 : decode code 372 = .ok (.iaload, 1) := by decide +kernel
theorem d_L_law_373 : decode code 373 = .ok (.aload_n 0, 1) := by decide +kernel
theorem d_L_law_374 : decode code 374 = .ok (.iload_n 3, 1) := by decide +kernel
theorem d_L_law_375 : decode code 375 = .ok (.iconst 3, 1) := by decide +kernel
theorem d_L_law_376 : decode code 376 = .ok (.iadd, 1) := by decide +kernel
theorem d_L_law_377 : decode code 377 = .ok (.iaload, 1) := by decide +kernel
theorem d_L_law_378 : decode code 378 = .ok (.invokevirtual 49, 3) := by decide +kernel
theorem d_L_law_381 : decode code 381 = .ok (.if_icmp .eq 217, 3) := by decide +kernel
theorem d_L_law_384 : decode code 384 = .ok (.iconst 0, 1) := by decide +kernel
theorem d_L_law_385 : decode code 385 = .ok (.ireturn, 1) := by decide +kernel
theorem d_L_law_386 : decode code 386 = .ok (.aload_n 1, 1) := by decide +kernel
theorem d_L_law_387 : decode code 387 = .ok (.aload_n 0, 1) := by decide +kernel
theorem d_L_law_388 : decode code 388 = .ok (.iload_n 3, 1) := by decide +kernel
theorem d_L_law_389 : decode code 389 = .ok (.iconst 1, 1) := by decide +kernel
theorem d_L_law_390 : decode code 390 = .ok (.iadd, 1) := by decide +kernel
theorem d_L_law_391 : decode code 391 = .ok (.iaload, 1) := by decide +kernel
theorem d_L_law_392 : decode code 392 = .ok (.aload_n 0, 1) := by decide +kernel
theorem d_L_law_393 : decode code 393 = .ok (.iload_n 3, 1) := by decide +kernel
theorem d_L_law_394 : decode code 394 = .ok (.iconst 2, 1) := by decide +kernel
theorem d_L_law_395 : decode code 395 = .ok (.iadd, 1) := by decide +kernel
theorem d_L_law_396 : decode code 396 = .ok (.iaload, 1) := by decide +kernel
theorem d_L_law_397 : decode code 397 = .ok (.aload_n 0, 1) := by decide +kernel
theorem d_L_law_398 : decode code 398 = .ok (.iload_n 3, 1) := by decide +kernel
theorem d_L_law_399 : decode code 399 = .ok (.iconst 3, 1) := by decide +kernel
theorem d_L_law_400 : decode code 400 = .ok (.iadd, 1) := by decide +kernel
theorem d_L_law_401 : decode code 401 = .ok (.iaload, 1) := by decide +kernel
theorem d_L_law_402 : decode code 402 = .ok (.aload_n 0, 1) := by decide +kernel
theorem d_L_law_403 : decode code 403 = .ok (.iload_n 3, 1) := by decide +kernel
theorem d_L_law_404 : decode code 404 = .ok (.iconst 4, 1) := by decide +kernel
theorem d_L_law_405 : decode code 405 = .ok (.iadd, 1) := by decide +kernel
theorem d_L_law_406 : decode code 406 = .ok (.iaload, 1) := by decide +kernel
theorem d_L_law_407 : decode code 407 = .ok (.ifCond .eq 7, 3) := by decide +kernel
theorem d_L_law_410 : decode code 410 = .ok (.iconst 1, 1) := by decide +kernel
theorem d_L_law_411 : decode code 411 = .ok (.goto 4, 3) := by decide +kernel
theorem d_L_law_414 : decode code 414 = .ok (.iconst 0, 1) := by decide +kernel
theorem d_L_law_415 : decode code 415 = .ok (.invokevirtual 50, 3) := by decide +kernel
theorem d_L_law_418 : decode code 418 = .ok (.aload_n 2, 1) := by decide +kernel
theorem d_L_law_419 : decode code 419 = .ok (.aload_n 0, 1) := by decide +kernel
theorem d_L_law_420 : decode code 420 = .ok (.iload_n 3, 1) := by decide +kernel
theorem d_L_law_421 : decode code 421 = .ok (.iconst 1, 1) := by decide +kernel
theorem d_L_law_422 : decode code 422 = .ok (.iadd, 1) := by decide +kernel
theorem d_L_law_423 : decode code 423 = .ok (.iaload, 1) := by decide +kernel
theorem d_L_law_424 : decode code 424 = .ok (.aload_n 0, 1) := by decide +kernel
theorem d_L_law_425 : decode code 425 = .ok (.iload_n 3, 1) := by decide +kernel
theorem d_L_law_426 : decode code 426 = .ok (.iconst 2, 1) := by decide +kernel
theorem d_L_law_427 : decode code 427 = .ok (.iadd, 1) := by decide +kernel
theorem d_L_law_428 : decode code 428 = .ok (.iaload, 1) := by decide +kernel
theorem d_L_law_429 : decode code 429 = .ok (.aload_n 0, 1) := by decide +kernel
theorem d_L_law_430 : decode code 430 = .ok (.iload_n 3, 1) := by decide +kernel
theorem d_L_law_431 : decode code 431 = .ok (.iconst 3, 1) := by decide +kernel
theorem d_L_law_432 : decode code 432 = .ok (.iadd, 1) := by decide +kernel
theorem d_L_law_433 : decode code 433 = .ok (.iaload, 1) := by decide +kernel
theorem d_L_law_434 : decode code 434 = .ok (.aload_n 0, 1) := by decide +kernel
theorem d_L_law_435 : decode code 435 = .ok (.iload_n 3, 1) := by decide +kernel
theorem d_L_law_436 : decode code 436 = .ok (.iconst 4, 1) := by decide +kernel
theorem d_L_law_437 : decode code 437 = .ok (.iadd, 1) := by decide +kernel
theorem d_L_law_438 : decode code 438 = .ok (.iaload, 1) := by decide +kernel
theorem d_L_law_439 : decode code 439 = .ok (.ifCond .eq 7, 3) := by decide +kernel
theorem d_L_law_442 : decode code 442 = .ok (.iconst 1, 1) := by decide +kernel
theorem d_L_law_443 : decode code 443 = .ok (.goto 4, 3) := by decide +kernel
theorem d_L_law_446 : decode code 446 = .ok (.iconst 0, 1) := by decide +kernel
theorem d_L_law_447 : decode code 447 = .ok (.invokevirtual 54, 3) := by decide +kernel
theorem d_L_law_450 : decode code 450 = .ok (.if_icmp .eq 148, 3) := by decide +kernel
theorem d_L_law_453 : decode code 453 = .ok (.iconst 0, 1) := by decide +kernel
theorem d_L_law_454 : decode code 454 = .ok (.ireturn, 1) := by decide +kernel
theorem d_L_law_455 : decode code 455 = .ok (.aload_n 1, 1) := by decide +kernel
theorem d_L_law_456 : decode code 456 = .ok (.aload_n 0, 1) := by decide +kernel
theorem d_L_law_457 : decode code 457 = .ok (.iload_n 3, 1) := by decide +kernel
theorem d_L_law_458 : decode code 458 = .ok (.iconst 1, 1) := by decide +kernel
theorem d_L_law_459 : decode code 459 = .ok (.iadd, 1) := by decide +kernel
theorem d_L_law_460 : decode code 460 = .ok (.iaload, 1) := by decide +kernel
theorem d_L_law_461 : decode code 461 = .ok (.aload_n 0, 1) := by decide +kernel
theorem d_L_law_462 : decode code 462 = .ok (.iload_n 3, 1) := by decide +kernel
theorem d_L_law_463 : decode code 463 = .ok (.iconst 2, 1) := by decide +kernel
theorem d_L_law_464 : decode code 464 = .ok (.iadd, 1) := by decide +kernel
theorem d_L_law_465 : decode code 465 = .ok (.iaload, 1) := by decide +kernel
theorem d_L_law_466 : decode code 466 = .ok (.aload_n 0, 1) := by decide +kernel
theorem d_L_law_467 : decode code 467 = .ok (.iload_n 3, 1) := by decide +kernel
theorem d_L_law_468 : decode code 468 = .ok (.iconst 3, 1) := by decide +kernel
theorem d_L_law_469 : decode code 469 = .ok (.iadd, 1) := by decide +kernel
theorem d_L_law_470 : decode code 470 = .ok (.iaload, 1) := by decide +kernel
theorem d_L_law_471 : decode code 471 = .ok (.aload_n 0, 1) := by decide +kernel
theorem d_L_law_472 : decode code 472 = .ok (.iload_n 3, 1) := by decide +kernel
theorem d_L_law_473 : decode code 473 = .ok (.iconst 4, 1) := by decide +kernel
theorem d_L_law_474 : decode code 474 = .ok (.iadd, 1) := by decide +kernel
theorem d_L_law_475 : decode code 475 = .ok (.iaload, 1) := by decide +kernel
theorem d_L_law_476 : decode code 476 = .ok (.ifCond .eq 7, 3) := by decide +kernel
theorem d_L_law_479 : decode code 479 = .ok (.iconst 1, 1) := by decide +kernel
theorem d_L_law_480 : decode code 480 = .ok (.goto 4, 3) := by decide +kernel
theorem d_L_law_483 : decode code 483 = .ok (.iconst 0, 1) := by decide +kernel
theorem d_L_law_484 : decode code 484 = .ok (.aload_n 0, 1) := by decide +kernel
theorem d_L_law_485 : decode code 485 = .ok (.iload_n 3, 1) := by decide +kernel
theorem d_L_law_486 : decode code 486 = .ok (.iconst 5, 1) := by decide +kernel
theorem d_L_law_487 : decode code 487 = .ok (.iadd, 1) := by decide +kernel
theorem d_L_law_488 : decode code 488 = .ok (.iaload, 1) := by decide +kernel
theorem d_L_law_489 : decode code 489 = .ok (.invokevirtual 55, 3) := by decide +kernel
theorem d_L_law_492 : decode code 492 = .ok (.aload_n 2, 1) := by decide +kernel
theorem d_L_law_493 : decode code 493 = .ok (.aload_n 0, 1) := by decide +kernel
theorem d_L_law_494 : decode code 494 = .ok (.iload_n 3, 1) := by decide +kernel
theorem d_L_law_495 : decode code 495 = .ok (.iconst 1, 1) := by decide +kernel
theorem d_L_law_496 : decode code 496 = .ok (.iadd, 1) := by decide +kernel
theorem d_L_law_497 : decode code 497 = .ok (.iaload, 1) := by decide +kernel
theorem d_L_law_498 : decode code 498 = .ok (.aload_n 0, 1) := by decide +kernel
theorem d_L_law_499 : decode code 499 = .ok (.iload_n 3, 1) := by decide +kernel
theorem d_L_law_500 : decode code 500 = .ok (.iconst 2, 1) := by decide +kernel
theorem d_L_law_501 : decode code 501 = .ok (.iadd, 1) := by decide +kernel
theorem d_L_law_502 : decode code 502 = .ok (.iaload, 1) := by decide +kernel
theorem d_L_law_503 : decode code 503 = .ok (.aload_n 0, 1) := by decide +kernel
theorem d_L_law_504 : decode code 504 = .ok (.iload_n 3, 1) := by decide +kernel
theorem d_L_law_505 : decode code 505 = .ok (.iconst 3, 1) := by decide +kernel
theorem d_L_law_506 : decode code 506 = .ok (.iadd, 1) := by decide +kernel
theorem d_L_law_507 : decode code 507 = .ok (.iaload, 1) := by decide +kernel
theorem d_L_law_508 : decode code 508 = .ok (.aload_n 0, 1) := by decide +kernel
theorem d_L_law_509 : decode code 509 = .ok (.iload_n 3, 1) := by decide +kernel
theorem d_L_law_510 : decode code 510 = .ok (.iconst 4, 1) := by decide +kernel
theorem d_L_law_511 : decode code 511 = .ok (.iadd, 1) := by decide +kernel
theorem d_L_law_512 : decode code 512 = .ok (.iaload, 1) := by decide +kernel
theorem d_L_law_513 : decode code 513 = .ok (.ifCond .eq 7, 3) := by decide +kernel
theorem d_L_law_516 : decode code 516 = .ok (.iconst 1, 1) := by decide +kernel
theorem d_L_law_517 : decode code 517 = .ok (.goto 4, 3) := by decide +kernel
theorem d_L_law_520 : decode code 520 = .ok (.iconst 0, 1) := by decide +kernel
theorem d_L_law_521 : decode code 521 = .ok (.aload_n 0, 1) := by decide +kernel
theorem d_L_law_522 : decode code 522 = .ok (.iload_n 3, 1) := by decide +kernel
theorem d_L_law_523 : decode code 523 = .ok (.iconst 5, 1) := by decide +kernel
theorem d_L_law_524 : decode code 524 = .ok (.iadd, 1) := by decide +kernel
theorem d_L_law_525 : decode code 525 = .ok (.iaload, 1) := by decide +kernel
theorem d_L_law_526 : decode code 526 = .ok (.invokevirtual 59, 3) := by decide +kernel
theorem d_L_law_529 : decode code 529 = .ok (.lcmp, 1) := by decide +kernel
theorem d_L_law_530 : decode code 530 = .ok (.ifCond .eq 68, 3) := by decide +kernel
theorem d_L_law_533 : decode code 533 = .ok (.iconst 0, 1) := by decide +kernel
theorem d_L_law_534 : decode code 534 = .ok (.ireturn, 1) := by decide +kernel
theorem d_L_law_535 : decode code 535 = .ok (.aload_n 1, 1) := by decide +kernel
theorem d_L_law_536 : decode code 536 = .ok (.aload_n 0, 1) := by decide +kernel
theorem d_L_law_537 : decode code 537 = .ok (.iload_n 3, 1) := by decide +kernel
theorem d_L_law_538 : decode code 538 = .ok (.iconst 1, 1) := by decide +kernel
theorem d_L_law_539 : decode code 539 = .ok (.iadd, 1) := by decide +kernel
theorem d_L_law_540 : decode code 540 = .ok (.iaload, 1) := by decide +kernel
theorem d_L_law_541 : decode code 541 = .ok (.aload_n 0, 1) := by decide +kernel
theorem d_L_law_542 : decode code 542 = .ok (.iload_n 3, 1) := by decide +kernel
theorem d_L_law_543 : decode code 543 = .ok (.iconst 2, 1) := by decide +kernel
theorem d_L_law_544 : decode code 544 = .ok (.iadd, 1) := by decide +kernel
theorem d_L_law_545 : decode code 545 = .ok (.iaload, 1) := by decide +kernel
theorem d_L_law_546 : decode code 546 = .ok (.aload_n 0, 1) := by decide +kernel
theorem d_L_law_547 : decode code 547 = .ok (.iload_n 3, 1) := by decide +kernel
theorem d_L_law_548 : decode code 548 = .ok (.iconst 3, 1) := by decide +kernel
theorem d_L_law_549 : decode code 549 = .ok (.iadd, 1) := by decide +kernel
theorem d_L_law_550 : decode code 550 = .ok (.iaload, 1) := by decide +kernel
theorem d_L_law_551 : decode code 551 = .ok (.aload_n 0, 1) := by decide +kernel
theorem d_L_law_552 : decode code 552 = .ok (.iload_n 3, 1) := by decide +kernel
theorem d_L_law_553 : decode code 553 = .ok (.iconst 4, 1) := by decide +kernel
theorem d_L_law_554 : decode code 554 = .ok (.iadd, 1) := by decide +kernel
theorem d_L_law_555 : decode code 555 = .ok (.iaload, 1) := by decide +kernel
theorem d_L_law_556 : decode code 556 = .ok (.aload_n 0, 1) := by decide +kernel
theorem d_L_law_557 : decode code 557 = .ok (.iload_n 3, 1) := by decide +kernel
theorem d_L_law_558 : decode code 558 = .ok (.iconst 5, 1) := by decide +kernel
theorem d_L_law_559 : decode code 559 = .ok (.iadd, 1) := by decide +kernel
theorem d_L_law_560 : decode code 560 = .ok (.iaload, 1) := by decide +kernel
theorem d_L_law_561 : decode code 561 = .ok (.invokevirtual 60, 3) := by decide +kernel
theorem d_L_law_564 : decode code 564 = .ok (.aload_n 2, 1) := by decide +kernel
theorem d_L_law_565 : decode code 565 = .ok (.aload_n 0, 1) := by decide +kernel
theorem d_L_law_566 : decode code 566 = .ok (.iload_n 3, 1) := by decide +kernel
theorem d_L_law_567 : decode code 567 = .ok (.iconst 1, 1) := by decide +kernel
theorem d_L_law_568 : decode code 568 = .ok (.iadd, 1) := by decide +kernel
theorem d_L_law_569 : decode code 569 = .ok (.iaload, 1) := by decide +kernel
theorem d_L_law_570 : decode code 570 = .ok (.aload_n 0, 1) := by decide +kernel
theorem d_L_law_571 : decode code 571 = .ok (.iload_n 3, 1) := by decide +kernel
theorem d_L_law_572 : decode code 572 = .ok (.iconst 2, 1) := by decide +kernel
theorem d_L_law_573 : decode code 573 = .ok (.iadd, 1) := by decide +kernel
theorem d_L_law_574 : decode code 574 = .ok (.iaload, 1) := by decide +kernel
theorem d_L_law_575 : decode code 575 = .ok (.aload_n 0, 1) := by decide +kernel
theorem d_L_law_576 : decode code 576 = .ok (.iload_n 3, 1) := by decide +kernel
theorem d_L_law_577 : decode code 577 = .ok (.iconst 3, 1) := by decide +kernel
theorem d_L_law_578 : decode code 578 = .ok (.iadd, 1) := by decide +kernel
theorem d_L_law_579 : decode code 579 = .ok (.iaload, 1) := by decide +kernel
theorem d_L_law_580 : decode code 580 = .ok (.aload_n 0, 1) := by decide +kernel
theorem d_L_law_581 : decode code 581 = .ok (.iload_n 3, 1) := by decide +kernel
theorem d_L_law_582 : decode code 582 = .ok (.iconst 4, 1) := by decide +kernel
theorem d_L_law_583 : decode code 583 = .ok (.iadd, 1) := by decide +kernel
theorem d_L_law_584 : decode code 584 = .ok (.iaload, 1) := by decide +kernel
theorem d_L_law_585 : decode code 585 = .ok (.aload_n 0, 1) := by decide +kernel
theorem d_L_law_586 : decode code 586 = .ok (.iload_n 3, 1) := by decide +kernel
theorem d_L_law_587 : decode code 587 = .ok (.iconst 5, 1) := by decide +kernel
theorem d_L_law_588 : decode code 588 = .ok (.iadd, 1) := by decide +kernel
theorem d_L_law_589 : decode code 589 = .ok (.iaload, 1) := by decide +kernel
theorem d_L_law_590 : decode code 590 = .ok (.invokevirtual 63, 3) := by decide +kernel
theorem d_L_law_593 : decode code 593 = .ok (.if_icmp .eq 5, 3) := by decide +kernel
theorem d_L_law_596 : decode code 596 = .ok (.iconst 0, 1) := by decide +kernel
theorem d_L_law_597 : decode code 597 = .ok (.ireturn, 1) := by decide +kernel
theorem d_L_law_598 : decode code 598 = .ok (.iinc 3 6, 3) := by decide +kernel
theorem d_L_law_601 : decode code 601 = .ok (.goto (-583), 3) := by decide +kernel
theorem d_L_law_604 : decode code 604 = .ok (.iconst 1, 1) := by decide +kernel
theorem d_L_law_605 : decode code 605 = .ok (.ireturn, 1) := by decide +kernel
