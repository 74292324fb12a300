theorem d_B_learn_286 : decode b_B_learn 286 = .ok (.aload_n 0, 1) := by decide +kernel
theorem d_B_learn_287 : decode b_B_learn 287 = .ok (.getfield 10, 3) := by decide +kernel
theorem d_B_learn_290 : decode b_B_learn 290 = .ok (.iload_n 3, 1) := by decide +kernel
theorem d_B_learn_291 : decode b_B_learn 291 = .ok (.iload_n 3, 1) := by decide +kernel
theorem d_B_learn_292 : decode b_B_learn 292 = .ok (.imul, 1) := by decide +kernel
theorem d_B_learn_293 : decode b_B_learn 293 = .ok (.invokevirtual 70, 3) := by decide +kernel
theorem d_B_learn_296 : decode b_B_learn 296 = .ok (.aload_n 0, 1) := by decide +kernel
theorem d_B_learn_297 : decode b_B_learn 297 = .ok (.getfield 10, 3) := by decide +kernel
theorem d_B_learn_300 : decode b_B_learn 300 = .ok (.iload 4, 2) := by decide +kernel
theorem d_B_learn_302 : decode b_B_learn 302 = .ok (.invokevirtual 63, 3) := by decide +kernel
theorem d_B_learn_305 : decode b_B_learn 305 = .ok (.return_, 1) := by decide +kernel
theorem d_B_addNoise_0 : decode b_B_addNoise 0 = .ok (.aload_n 0, 1) := by decide +kernel
theorem d_B_addNoise_1 : decode b_B_addNoise 1 = .ok (.getfield 10, 3) := by decide +kernel
theorem d_B_addNoise_4 : decode b_B_addNoise 4 = .ok (.aload_n 0, 1) := by decide +kernel
theorem d_B_addNoise_5 : decode b_B_addNoise 5 = .ok (.getfield 16, 3) := by decide +kernel
theorem d_B_addNoise_8 : decode b_B_addNoise 8 = .ok (.aload_n 1, 1) := by decide +kernel
theorem d_B_addNoise_9 : decode b_B_addNoise 9 = .ok (.getfield 74, 3) := by decide +kernel
theorem d_B_addNoise_12 : decode b_B_addNoise 12 = .ok (.aload_n 0, 1) := by decide +kernel
theorem d_B_addNoise_13 : decode b_B_addNoise 13 = .ok (.getfield 22, 3) := by decide +kernel
theorem d_B_addNoise_16 : decode b_B_addNoise 16 = .ok (.aload_n 1, 1) := by decide +kernel
theorem d_B_addNoise_17 : decode b_B_addNoise 17 = .ok (.getfield 79, 3) := by decide +kernel
theorem d_B_addNoise_20 : decode b_B_addNoise 20 = .ok (.invokevirtual 66, 3) := by decide +kernel
theorem d_B_addNoise_23 : decode b_B_addNoise 23 = .ok (.aload_n 0, 1) := by decide +kernel
theorem d_B_addNoise_24 : decode b_B_addNoise 24 = .ok (.getfield 10, 3) := by decide +kernel
theorem d_B_addNoise_27 : decode b_B_addNoise 27 = .ok (.aload_n 0, 1) := by decide +kernel
theorem d_B_addNoise_28 : decode b_B_addNoise 28 = .ok (.getfield 19, 3) := by decide +kernel
theorem d_B_addNoise_31 : decode b_B_addNoise 31 = .ok (.iconst 2, 1) := by decide +kernel
theorem d_B_addNoise_32 : decode b_B_addNoise 32 = .ok (.aload_n 1, 1) := by decide +kernel
theorem d_B_addNoise_33 : decode b_B_addNoise 33 = .ok (.getfield 82, 3) := by decide +kernel
theorem d_B_addNoise_36 : decode b_B_addNoise 36 = .ok (.imul, 1) := by decide +kernel
theorem d_B_addNoise_37 : decode b_B_addNoise 37 = .ok (.aload_n 0, 1) := by decide +kernel
theorem d_B_addNoise_38 : decode b_B_addNoise 38 = .ok (.getfield 25, 3) := by decide +kernel
theorem d_B_addNoise_41 : decode b_B_addNoise 41 = .ok (.aload_n 1, 1) := by decide +kernel
theorem d_B_addNoise_42 : decode b_B_addNoise 42 = .ok (.invokevirtual 85, 3) := by decide +kernel
theorem d_B_addNoise_45 : decode b_B_addNoise 45 = .ok (.invokevirtual 66, 3) := by decide +kernel
theorem d_B_addNoise_48 : decode b_B_addNoise 48 = .ok (.aload_n 0, 1) := by decide +kernel
theorem d_B_addNoise_49 : decode b_B_addNoise 49 = .ok (.getfield 16, 3) := by decide +kernel
theorem d_B_addNoise_52 : decode b_B_addNoise 52 = .ok (.aload_n 0, 1) := by decide +kernel
theorem d_B_addNoise_53 : decode b_B_addNoise 53 = .ok (.getfield 25, 3) := by decide +kernel
theorem d_B_addNoise_56 : decode b_B_addNoise 56 = .ok (.aload_n 1, 1) := by decide +kernel
theorem d_B_addNoise_57 : decode b_B_addNoise 57 = .ok (.getfield 79, 3) := by decide +kernel
theorem d_B_addNoise_60 : decode b_B_addNoise 60 = .ok (.invokevirtual 70, 3) := by decide +kernel
theorem d_B_addNoise_63 : decode b_B_addNoise 63 = .ok (.aload_n 0, 1) := by decide +kernel
theorem d_B_addNoise_64 : decode b_B_addNoise 64 = .ok (.getfield 19, 3) := by decide +kernel
theorem d_B_addNoise_67 : decode b_B_addNoise 67 = .ok (.aload_n 0, 1) := by decide +kernel
theorem d_B_addNoise_68 : decode b_B_addNoise 68 = .ok (.getfield 25, 3) := by decide +kernel
theorem d_B_addNoise_71 : decode b_B_addNoise 71 = .ok (.aload_n 1, 1) := by decide +kernel
theorem d_B_addNoise_72 : decode b_B_addNoise 72 = .ok (.getfield 82, 3) := by decide +kernel
theorem d_B_addNoise_75 : decode b_B_addNoise 75 = .ok (.ineg, 1) := by decide +kernel
theorem d_B_addNoise_76 : decode b_B_addNoise 76 = .ok (.invokevirtual 70, 3) := by decide +kernel
theorem d_B_addNoise_79 : decode b_B_addNoise 79 = .ok (.aload_n 0, 1) := by decide +kernel
theorem d_B_addNoise_80 : decode b_B_addNoise 80 = .ok (.getfield 22, 3) := by decide +kernel
theorem d_B_addNoise_83 : decode b_B_addNoise 83 = .ok (.aload_n 0, 1) := by decide +kernel
theorem d_B_addNoise_84 : decode b_B_addNoise 84 = .ok (.getfield 25, 3) := by decide +kernel
theorem d_B_addNoise_87 : decode b_B_addNoise 87 = .ok (.aload_n 1, 1) := by decide +kernel
theorem d_B_addNoise_88 : decode b_B_addNoise 88 = .ok (.getfield 74, 3) := by decide +kernel
theorem d_B_addNoise_91 : decode b_B_addNoise 91 = .ok (.invokevirtual 70, 3) := by decide +kernel
theorem d_B_addNoise_94 : decode b_B_addNoise 94 = .ok (.aload_n 0, 1) := by decide +kernel
theorem d_B_addNoise_95 : decode b_B_addNoise 95 = .ok (.getfield 28, 3) := by decide +kernel
theorem d_B_addNoise_98 : decode b_B_addNoise 98 = .ok (.aload_n 0, 1) := by decide +kernel
theorem d_B_addNoise_99 : decode b_B_addNoise 99 = .ok (.getfield 34, 3) := by decide +kernel
theorem d_B_addNoise_102 : decode b_B_addNoise 102 = .ok (.aload_n 1, 1) := by decide +kernel
theorem d_B_addNoise_103 : decode b_B_addNoise 103 = .ok (.getfield 79, 3) := by decide +kernel
theorem d_B_addNoise_106 : decode b_B_addNoise 106 = .ok (.aload_n 0, 1) := by decide +kernel
theorem d_B_addNoise_107 : decode b_B_addNoise 107 = .ok (.getfield 37, 3) := by decide +kernel
theorem d_B_addNoise_110 : decode b_B_addNoise 110 = .ok (.aload_n 1, 1) := by decide +kernel
theorem d_B_addNoise_111 : decode b_B_addNoise 111 = .ok (.getfield 82, 3) := by decide +kernel
theorem d_B_addNoise_114 : decode b_B_addNoise 114 = .ok (.ineg, 1) := by decide +kernel
theorem d_B_addNoise_115 : decode b_B_addNoise 115 = .ok (.invokevirtual 66, 3) := by decide +kernel
theorem d_B_addNoise_118 : decode b_B_addNoise 118 = .ok (.aload_n 0, 1) := by decide +kernel
theorem d_B_addNoise_119 : decode b_B_addNoise 119 = .ok (.getfield 31, 3) := by decide +kernel
theorem d_B_addNoise_122 : decode b_B_addNoise 122 = .ok (.aload_n 0, 1) := by decide +kernel
theorem d_B_addNoise_123 : decode b_B_addNoise 123 = .ok (.getfield 37, 3) := by decide +kernel
theorem d_B_addNoise_126 : decode b_B_addNoise 126 = .ok (.aload_n 1, 1) := by decide +kernel
theorem d_B_addNoise_127 : decode b_B_addNoise 127 = .ok (.getfield 74, 3) := by decide +kernel
theorem d_B_addNoise_130 : decode b_B_addNoise 130 = .ok (.aload_n 0, 1) := by decide +kernel
theorem d_B_addNoise_131 : decode b_B_addNoise 131 = .ok (.getfield 34, 3) := by decide +kernel
theorem d_B_addNoise_134 : decode b_B_addNoise 134 = .ok (.aload_n 1, 1) := by decide +kernel
theorem d_B_addNoise_135 : decode b_B_addNoise 135 = .ok (.getfield 82, 3) := by decide +kernel
theorem d_B_addNoise_138 : decode b_B_addNoise 138 = .ok (.ineg, 1) := by decide +kernel
theorem d_B_addNoise_139 : decode b_B_addNoise 139 = .ok (.invokevirtual 66, 3) := by decide +kernel
theorem d_B_addNoise_142 : decode b_B_addNoise 142 = .ok (.return_, 1) := by decide +kernel
theorem d_B_moveOn_0 : decode b_B_moveOn 0 = .ok (.aload_n 0, 1) := by decide +kernel
theorem d_B_moveOn_1 : decode b_B_moveOn 1 = .ok (.aload_n 1, 1) := by decide +kernel
theorem d_B_moveOn_2 : decode b_B_moveOn 2 = .ok (.aload_n 2, 1) := by decide +kernel
theorem d_B_moveOn_3 : decode b_B_moveOn 3 = .ok (.getfield 89, 3) := by decide +kernel
theorem d_B_moveOn_6 : decode b_B_moveOn 6 = .ok (.aload_n 2, 1) := by decide +kernel
theorem d_B_moveOn_7 : decode b_B_moveOn 7 = .ok (.getfield 92, 3) := by decide +kernel
theorem d_B_moveOn_10 : decode b_B_moveOn 10 = .ok (.ineg, 1) := by decide +kernel
theorem d_B_moveOn_11 : decode b_B_moveOn 11 = .ok (.aload_n 2, 1) := by decide +kernel
theorem d_B_moveOn_12 : decode b_B_moveOn 12 = .ok (.getfield 95, 3) := by decide +kernel
theorem d_B_moveOn_15 : decode b_B_moveOn 15 = .ok (.ineg, 1) := by decide +kernel
theorem d_B_moveOn_16 : decode b_B_moveOn 16 = .ok (.aload_n 2, 1) := by decide +kernel
theorem d_B_moveOn_17 : decode b_B_moveOn 17 = .ok (.getfield 98, 3) := by decide +kernel
theorem d_B_moveOn_20 : decode b_B_moveOn 20 = .ok (.invokevirtual 101, 3) := by decide +kernel
theorem d_B_moveOn_23 : decode b_B_moveOn 23 = .ok (.aload_n 0, 1) := by decide +kernel
theorem d_B_moveOn_24 : decode b_B_moveOn 24 = .ok (.aload_n 1, 1) := by decide +kernel
theorem d_B_moveOn_25 : decode b_B_moveOn 25 = .ok (.aload_n 2, 1) := by decide +kernel
theorem d_B_moveOn_26 : decode b_B_moveOn 26 = .ok (.invokevirtual 105, 3) := by decide +kernel
theorem d_B_moveOn_29 : decode b_B_moveOn 29 = .ok (.iconst 1, 1) := by decide +kernel
theorem d_B_moveOn_30 : decode b_B_moveOn 30 = .ok (.invokevirtual 108, 3) := by decide +kernel
theorem d_B_moveOn_33 : decode b_B_moveOn 33 = .ok (.return_, 1) := by decide +kernel
theorem d_B_moveBack_0 : decode b_B_moveBack 0 = .ok (.aload_n 0, 1) := by decide +kernel
theorem d_B_moveBack_1 : decode b_B_moveBack 1 = .ok (.aload_n 1, 1) := by decide +kernel
theorem d_B_moveBack_2 : decode b_B_moveBack 2 = .ok (.aload_n 2, 1) := by decide +kernel
theorem d_B_moveBack_3 : decode b_B_moveBack 3 = .ok (.getfield 98, 3) := by decide +kernel
theorem d_B_moveBack_6 : decode b_B_moveBack 6 = .ok (.aload_n 2, 1) := by decide +kernel
theorem d_B_moveBack_7 : decode b_B_moveBack 7 = .ok (.getfield 92, 3) := by decide +kernel
theorem d_B_moveBack_10 : decode b_B_moveBack 10 = .ok (.aload_n 2, 1) := by decide +kernel
theorem d_B_moveBack_11 : decode b_B_moveBack 11 = .ok (.getfield 95, 3) := by decide +kernel
theorem d_B_moveBack_14 : decode b_B_moveBack 14 = .ok (.aload_n 2, 1) := by decide +kernel
theorem d_B_moveBack_15 : decode b_B_moveBack 15 = .ok (.getfield 89, 3) := by decide +kernel
theorem d_B_moveBack_18 : decode b_B_moveBack 18 = .ok (.invokevirtual 101, 3) := by decide +kernel
theorem d_B_moveBack_21 : decode b_B_moveBack 21 = .ok (.aload_n 0, 1) := by decide +kernel
theorem d_B_moveBack_22 : decode b_B_moveBack 22 = .ok (.aload_n 1, 1) := by decide +kernel
theorem d_B_moveBack_23 : decode b_B_moveBack 23 = .ok (.iconst 1, 1) := by decide +kernel
theorem d_B_moveBack_24 : decode b_B_moveBack 24 = .ok (.aload_n 2, 1) := by decide +kernel
theorem d_B_moveBack_25 : decode b_B_moveBack 25 = .ok (.invokevirtual 105, 3) := by decide +kernel
theorem d_B_moveBack_28 : decode b_B_moveBack 28 = .ok (.invokevirtual 108, 3) := by decide +kernel
theorem d_B_moveBack_31 : decode b_B_moveBack 31 = .ok (.return_, 1) := by decide +kernel
theorem d_B_turn_0 : decode b_B_turn 0 = .ok (.aload_n 0, 1) := by decide +kernel
theorem d_B_turn_1 : decode b_B_turn 1 = .ok (.getfield 16, 3) := by decide +kernel
theorem d_B_turn_4 : decode b_B_turn 4 = .ok (.aload_n 1, 1) := by decide +kernel
theorem d_B_turn_5 : decode b_B_turn 5 = .ok (.getfield 16, 3) := by decide +kernel
theorem d_B_turn_8 : decode b_B_turn 8 = .ok (.iload_n 2, 1) := by decide +kernel
theorem d_B_turn_9 : decode b_B_turn 9 = .ok (.iload_n 2, 1) := by decide +kernel
theorem d_B_turn_10 : decode b_B_turn 10 = .ok (.imul, 1) := by decide +kernel
theorem d_B_turn_11 : decode b_B_turn 11 = .ok (.aload_n 1, 1) := by decide +kernel
theorem d_B_turn_12 : decode b_B_turn 12 = .ok (.getfield 19, 3) := by decide +kernel
theorem d_B_turn_15 : decode b_B_turn 15 = .ok (.iconst 2, 1) := by decide +kernel
theorem d_B_turn_16 : decode b_B_turn 16 = .ok (.iload_n 2, 1) := by decide +kernel
theorem d_B_turn_17 : decode b_B_turn 17 = .ok (.imul, 1) := by decide +kernel
theorem d_B_turn_18 : decode b_B_turn 18 = .ok (.iload 4, 2) := by decide +kernel
theorem d_B_turn_20 : decode b_B_turn 20 = .ok (.imul, 1) := by decide +kernel
theorem d_B_turn_21 : decode b_B_turn 21 = .ok (.aload_n 1, 1) := by decide +kernel
theorem d_B_turn_22 : decode b_B_turn 22 = .ok (.getfield 22, 3) := by decide +kernel
theorem d_B_turn_25 : decode b_B_turn 25 = .ok (.iload 4, 2) := by decide +kernel
theorem d_B_turn_27 : decode b_B_turn 27 = .ok (.iload 4, 2) := by decide +kernel
theorem d_B_turn_29 : decode b_B_turn 29 = .ok (.imul, 1) := by decide +kernel
theorem d_B_turn_30 : decode b_B_turn 30 = .ok (.invokevirtual 112, 3) := by decide +kernel
theorem d_B_turn_33 : decode b_B_turn 33 = .ok (.aload_n 0, 1) := by decide +kernel
theorem d_B_turn_34 : decode b_B_turn 34 = .ok (.getfield 19, 3) := by decide +kernel
theorem d_B_turn_37 : decode b_B_turn 37 = .ok (.aload_n 1, 1) := by decide +kernel
theorem d_B_turn_38 : decode b_B_turn 38 = .ok (.getfield 16, 3) := by decide +kernel
theorem d_B_turn_41 : decode b_B_turn 41 = .ok (.iload_n 2, 1) := by decide +kernel
theorem d_B_turn_42 : decode b_B_turn 42 = .ok (.iload_n 3, 1) := by decide +kernel
theorem d_B_turn_43 : decode b_B_turn 43 = .ok (.imul, 1) := by decide +kernel
theorem d_B_turn_44 : decode b_B_turn 44 = .ok (.aload_n 1, 1) := by decide +kernel
theorem d_B_turn_45 : decode b_B_turn 45 = .ok (.getfield 19, 3) := by decide +kernel
theorem d_B_turn_48 : decode b_B_turn 48 = .ok (.iload_n 2, 1) := by decide +kernel
theorem d_B_turn_49 : decode b_B_turn 49 = .ok (.iload 5, 2) := by decide +kernel
theorem d_B_turn_51 : decode b_B_turn 51 = .ok (.imul, 1) := by decide +kernel
theorem d_B_turn_52 : decode b_B_turn 52 = .ok (.iload_n 3, 1) := by decide +kernel
theorem d_B_turn_53 : decode b_B_turn 53 = .ok (.iload 4, 2) := by decide +kernel
theorem d_B_turn_55 : decode b_B_turn 55 = .ok (.imul, 1) := by decide +kernel
theorem d_B_turn_56 : decode b_B_turn 56 = .ok (.iadd, 1) := by decide +kernel
theorem d_B_turn_57 : decode b_B_turn 57 = .ok (.aload_n 1, 1) := by decide +kernel
theorem d_B_turn_58 : decode b_B_turn 58 = .ok (.getfield 22, 3) := by decide +kernel
theorem d_B_turn_61 : decode b_B_turn 61 = .ok (.iload 4, 2) := by decide +kernel
theorem d_B_turn_63 : decode b_B_turn 63 = .ok (.iload 5, 2) := by decide +kernel
theorem d_B_turn_65 : decode b_B_turn 65 = .ok (.imul, 1) := by decide +kernel
theorem d_B_turn_66 : decode b_B_turn 66 = .ok (.invokevirtual 112, 3) := by decide +kernel
theorem d_B_turn_69 : decode b_B_turn 69 = .ok (.aload_n 0, 1) := by decide +kernel
theorem d_B_turn_70 : decode b_B_turn 70 = .ok (.getfield 22, 3) := by decide +kernel
theorem d_B_turn_73 : decode b_B_turn 73 = .ok (.aload_n 1, 1) := by decide +kernel
theorem d_B_turn_74 : decode b_B_turn 74 = .ok (.getfield 16, 3) := by decide +kernel
theorem d_B_turn_77 : decode b_B_turn 77 = .ok (.iload_n 3, 1) := by decide +kernel
theorem d_B_turn_78 : decode b_B_turn 78 = .ok (.iload_n 3, 1) := by decide +kernel
theorem d_B_turn_79 : decode b_B_turn 79 = .ok (.imul, 1) := by decide +kernel
theorem d_B_turn_80 : decode b_B_turn 80 = .ok (.aload_n 1, 1) := by decide +kernel
theorem d_B_turn_81 : decode b_B_turn 81 = .ok (.getfield 19, 3) := by decide +kernel
theorem d_B_turn_84 : decode b_B_turn 84 = .ok (.iconst 2, 1) := by decide +kernel
theorem d_B_turn_85 : decode b_B_turn 85 = .ok (.iload_n 3, 1) := by decide +kernel
theorem d_B_turn_86 : decode b_B_turn 86 = .ok (.imul, 1) := by decide +kernel
theorem d_B_turn_87 : decode b_B_turn 87 = .ok (.iload 5, 2) := by decide +kernel
theorem d_B_turn_89 : decode b_B_turn 89 = .ok (.imul, 1) := by decide +kernel
theorem d_B_turn_90 : decode b_B_turn 90 = .ok (.aload_n 1, 1) := by decide +kernel
theorem d_B_turn_91 : decode b_B_turn 91 = .ok (.getfield 22, 3) := by decide +kernel
theorem d_B_turn_94 : decode b_B_turn 94 = .ok (.iload 5, 2) := by decide +kernel
theorem d_B_turn_96 : decode b_B_turn 96 = .ok (.iload 5, 2) := by decide +kernel
theorem d_B_turn_98 : decode b_B_turn 98 = .ok (.imul, 1) := by decide +kernel
theorem d_B_turn_99 : decode b_B_turn 99 = .ok (.invokevirtual 112, 3) := by decide +kernel
theorem d_B_turn_102 : decode b_B_turn 102 = .ok (.aload_n 0, 1) := by decide +kernel
theorem d_B_turn_103 : decode b_B_turn 103 = .ok (.getfield 28, 3) := by decide +kernel
theorem d_B_turn_106 : decode b_B_turn 106 = .ok (.aload_n 1, 1) := by decide +kernel
theorem d_B_turn_107 : decode b_B_turn 107 = .ok (.getfield 28, 3) := by decide +kernel
theorem d_B_turn_110 : decode b_B_turn 110 = .ok (.iload_n 2, 1) := by decide +kernel
theorem d_B_turn_111 : decode b_B_turn 111 = .ok (.invokevirtual 116, 3) := by decide +kernel
theorem d_B_turn_114 : decode b_B_turn 114 = .ok (.aload_n 0, 1) := by decide +kernel
theorem d_B_turn_115 : decode b_B_turn 115 = .ok (.getfield 28, 3) := by decide +kernel
theorem d_B_turn_118 : decode b_B_turn 118 = .ok (.aload_n 1, 1) := by decide +kernel
theorem d_B_turn_119 : decode b_B_turn 119 = .ok (.getfield 31, 3) := by decide +kernel
theorem d_B_turn_122 : decode b_B_turn 122 = .ok (.iload 4, 2) := by decide +kernel
theorem d_B_turn_124 : decode b_B_turn 124 = .ok (.invokevirtual 70, 3) := by decide +kernel
theorem d_B_turn_127 : decode b_B_turn 127 = .ok (.aload_n 0, 1) := by decide +kernel
theorem d_B_turn_128 : decode b_B_turn 128 = .ok (.getfield 31, 3) := by decide +kernel
theorem d_B_turn_131 : decode b_B_turn 131 = .ok (.aload_n 1, 1) := by decide +kernel
theorem d_B_turn_132 : decode b_B_turn 132 = .ok (.getfield 28, 3) := by decide +kernel
theorem d_B_turn_135 : decode b_B_turn 135 = .ok (.iload_n 3, 1) := by decide +kernel
theorem d_B_turn_136 : decode b_B_turn 136 = .ok (.invokevirtual 116, 3) := by decide +kernel
theorem d_B_turn_139 : decode b_B_turn 139 = .ok (.aload_n 0, 1) := by decide +kernel
theorem d_B_turn_140 : decode b_B_turn 140 = .ok (.getfield 31, 3) := by decide +kernel
theorem d_B_turn_143 : decode b_B_turn 143 = .ok (.aload_n 1, 1) := by decide +kernel
theorem d_B_turn_144 : decode b_B_turn 144 = .ok (.getfield 31, 3) := by decide +kernel
theorem d_B_turn_147 : decode b_B_turn 147 = .ok (.iload 5, 2) := by decide +kernel
theorem d_B_turn_149 : decode b_B_turn 149 = .ok (.invokevirtual 70, 3) := by decide +kernel
theorem d_B_turn_152 : decode b_B_turn 152 = .ok (.aload_n 0, 1) := by decide +kernel
theorem d_B_turn_153 : decode b_B_turn 153 = .ok (.getfield 34, 3) := by decide +kernel
theorem d_B_turn_156 : decode b_B_turn 156 = .ok (.aload_n 1, 1) := by decide +kernel
theorem d_B_turn_157 : decode b_B_turn 157 = .ok (.getfield 34, 3) := by decide +kernel
theorem d_B_turn_160 : decode b_B_turn 160 = .ok (.iload 5, 2) := by decide +kernel
theorem d_B_turn_162 : decode b_B_turn 162 = .ok (.invokevirtual 116, 3) := by decide +kernel
theorem d_B_turn_165 : decode b_B_turn 165 = .ok (.aload_n 0, 1) := by decide +kernel
theorem d_B_turn_166 : decode b_B_turn 166 = .ok (.getfield 34, 3) := by decide +kernel
theorem d_B_turn_169 : decode b_B_turn 169 = .ok (.aload_n 1, 1) := by decide +kernel
theorem d_B_turn_170 : decode b_B_turn 170 = .ok (.getfield 37, 3) := by decide +kernel
theorem d_B_turn_173 : decode b_B_turn 173 = .ok (.iload_n 3, 1) := by decide +kernel
theorem d_B_turn_174 : decode b_B_turn 174 = .ok (.ineg, 1) := by decide +kernel
theorem d_B_turn_175 : decode b_B_turn 175 = .ok (.invokevirtual 70, 3) := by decide +kernel
theorem d_B_turn_178 : decode b_B_turn 178 = .ok (.aload_n 0, 1) := by decide +kernel
theorem d_B_turn_179 : decode b_B_turn 179 = .ok (.getfield 37, 3) := by decide +kernel
theorem d_B_turn_182 : decode b_B_turn 182 = .ok (.aload_n 1, 1) := by decide +kernel
theorem d_B_turn_183 : decode b_B_turn 183 = .ok (.getfield 37, 3) := by decide +kernel
theorem d_B_turn_186 : decode b_B_turn 186 = .ok (.iload_n 2, 1) := by decide +kernel
theorem d_B_turn_187 : decode b_B_turn 187 = .ok (.invokevirtual 116, 3) := by decide +kernel
theorem d_B_turn_190 : decode b_B_turn 190 = .ok (.aload_n 0, 1) := by decide +kernel
theorem d_B_turn_191 : decode b_B_turn 191 = .ok (.getfield 37, 3) := by decide +kernel
theorem d_B_turn_194 : decode b_B_turn 194 = .ok (.aload_n 1, 1) := by decide +kernel
theorem d_B_turn_195 : decode b_B_turn 195 = .ok (.getfield 34, 3) := by decide +kernel
theorem d_B_turn_198 : decode b_B_turn 198 = .ok (.iload 4, 2) := by decide +kernel
theorem d_B_turn_200 : decode b_B_turn 200 = .ok (.ineg, 1) := by decide +kernel
theorem d_B_turn_201 : decode b_B_turn 201 = .ok (.invokevirtual 70, 3) := by decide +kernel
theorem d_B_turn_204 : decode b_B_turn 204 = .ok (.return_, 1) := by decide +kernel
theorem d_B_moveScales_0 : decode b_B_moveScales 0 = .ok (.aload_n 0, 1) := by decide +kernel
theorem d_B_moveScales_1 : decode b_B_moveScales 1 = .ok (.getfield 10, 3) := by decide +kernel
theorem d_B_moveScales_4 : decode b_B_moveScales 4 = .ok (.aload_n 1, 1) := by decide +kernel
theorem d_B_moveScales_5 : decode b_B_moveScales 5 = .ok (.getfield 10, 3) := by decide +kernel
theorem d_B_moveScales_8 : decode b_B_moveScales 8 = .ok (.iload_n 2, 1) := by decide +kernel
theorem d_B_moveScales_9 : decode b_B_moveScales 9 = .ok (.iload_n 2, 1) := by decide +kernel
theorem d_B_moveScales_10 : decode b_B_moveScales 10 = .ok (.imul, 1) := by decide +kernel
theorem d_B_moveScales_11 : decode b_B_moveScales 11 = .ok (.invokevirtual 116, 3) := by decide +kernel
theorem d_B_moveScales_14 : decode b_B_moveScales 14 = .ok (.aload_n 0, 1) := by decide +kernel
theorem d_B_moveScales_15 : decode b_B_moveScales 15 = .ok (.getfield 28, 3) := by decide +kernel
theorem d_B_moveScales_18 : decode b_B_moveScales 18 = .ok (.iload_n 2, 1) := by decide +kernel
theorem d_B_moveScales_19 : decode b_B_moveScales 19 = .ok (.invokevirtual 63, 3) := by decide +kernel
theorem d_B_moveScales_22 : decode b_B_moveScales 22 = .ok (.aload_n 0, 1) := by decide +kernel
theorem d_B_moveScales_23 : decode b_B_moveScales 23 = .ok (.getfield 31, 3) := by decide +kernel
theorem d_B_moveScales_26 : decode b_B_moveScales 26 = .ok (.iload_n 2, 1) := by decide +kernel
theorem d_B_moveScales_27 : decode b_B_moveScales 27 = .ok (.invokevirtual 63, 3) := by decide +kernel
theorem d_B_moveScales_30 : decode b_B_moveScales 30 = .ok (.aload_n 0, 1) := by decide +kernel
theorem d_B_moveScales_31 : decode b_B_moveScales 31 = .ok (.getfield 25, 3) := by decide +kernel
theorem d_B_moveScales_34 : decode b_B_moveScales 34 = .ok (.aload_n 1, 1) := by decide +kernel
theorem d_B_moveScales_35 : decode b_B_moveScales 35 = .ok (.getfield 25, 3) := by decide +kernel
theorem d_B_moveScales_38 : decode b_B_moveScales 38 = .ok (.iload_n 3, 1) := by decide +kernel
theorem d_B_moveScales_39 : decode b_B_moveScales 39 = .ok (.iload_n 3, 1) := by decide +kernel
theorem d_B_moveScales_40 : decode b_B_moveScales 40 = .ok (.imul, 1) := by decide +kernel
theorem d_B_moveScales_41 : decode b_B_moveScales 41 = .ok (.invokevirtual 116, 3) := by decide +kernel
theorem d_B_moveScales_44 : decode b_B_moveScales 44 = .ok (.aload_n 0, 1) := by decide +kernel
theorem d_B_moveScales_45 : decode b_B_moveScales 45 = .ok (.getfield 34, 3) := by decide +kernel
theorem d_B_moveScales_48 : decode b_B_moveScales 48 = .ok (.iload_n 3, 1) := by decide +kernel
theorem d_B_moveScales_49 : decode b_B_moveScales 49 = .ok (.invokevirtual 63, 3) := by decide +kernel
theorem d_B_moveScales_52 : decode b_B_moveScales 52 = .ok (.aload_n 0, 1) := by decide +kernel
theorem d_B_moveScales_53 : decode b_B_moveScales 53 = .ok (.getfield 37, 3) := by decide +kernel
theorem d_B_moveScales_56 : decode b_B_moveScales 56 = .ok (.iload_n 3, 1) := by decide +kernel
theorem d_B_moveScales_57 : decode b_B_moveScales 57 = .ok (.invokevirtual 63, 3) := by decide +kernel
theorem d_B_moveScales_60 : decode b_B_moveScales 60 = .ok (.return_, 1) := by decide +kernel
theorem d_B_join_0 : decode b_B_join 0 = .ok (.aload_n 0, 1) := by decide +kernel
theorem d_B_join_1 : decode b_B_join 1 = .ok (.getfield 16, 3) := by decide +kernel
theorem d_B_join_4 : decode b_B_join 4 = .ok (.aload_n 1, 1) := by decide +kernel
theorem d_B_join_5 : decode b_B_join 5 = .ok (.getfield 16, 3) := by decide +kernel
theorem d_B_join_8 : decode b_B_join 8 = .ok (.aload_n 2, 1) := by decide +kernel
theorem d_B_join_9 : decode b_B_join 9 = .ok (.getfield 10, 3) := by decide +kernel
theorem d_B_join_12 : decode b_B_join 12 = .ok (.aload_n 2, 1) := by decide +kernel
theorem d_B_join_13 : decode b_B_join 13 = .ok (.getfield 16, 3) := by decide +kernel
theorem d_B_join_16 : decode b_B_join 16 = .ok (.aload_n 1, 1) := by decide +kernel
theorem d_B_join_17 : decode b_B_join 17 = .ok (.getfield 10, 3) := by decide +kernel
theorem d_B_join_20 : decode b_B_join 20 = .ok (.invokevirtual 119, 3) := by decide +kernel
theorem d_B_join_23 : decode b_B_join 23 = .ok (.aload_n 0, 1) := by decide +kernel
theorem d_B_join_24 : decode b_B_join 24 = .ok (.getfield 19, 3) := by decide +kernel
theorem d_B_join_27 : decode b_B_join 27 = .ok (.aload_n 1, 1) := by decide +kernel
theorem d_B_join_28 : decode b_B_join 28 = .ok (.getfield 19, 3) := by decide +kernel
theorem d_B_join_31 : decode b_B_join 31 = .ok (.aload_n 2, 1) := by decide +kernel
theorem d_B_join_32 : decode b_B_join 32 = .ok (.getfield 10, 3) := by decide +kernel
theorem d_B_join_35 : decode b_B_join 35 = .ok (.aload_n 2, 1) := by decide +kernel
theorem d_B_join_36 : decode b_B_join 36 = .ok (.getfield 19, 3) := by decide +kernel
theorem d_B_join_39 : decode b_B_join 39 = .ok (.aload_n 1, 1) := by decide +kernel
theorem d_B_join_40 : decode b_B_join 40 = .ok (.getfield 10, 3) := by decide +kernel
theorem d_B_join_43 : decode b_B_join 43 = .ok (.invokevirtual 119, 3) := by decide +kernel
theorem d_B_join_46 : decode b_B_join 46 = .ok (.aload_n 0, 1) := by decide +kernel
theorem d_B_join_47 : decode b_B_join 47 = .ok (.getfield 22, 3) := by decide +kernel
theorem d_B_join_50 : decode b_B_join 50 = .ok (.aload_n 1, 1) := by decide +kernel
theorem d_B_join_51 : decode b_B_join 51 = .ok (.getfield 22, 3) := by decide +kernel
theorem d_B_join_54 : decode b_B_join 54 = .ok (.aload_n 2, 1) := by decide +kernel
theorem d_B_join_55 : decode b_B_join 55 = .ok (.getfield 10, 3) := by decide +kernel
theorem d_B_join_58 : decode b_B_join 58 = .ok (.aload_n 2, 1) := by decide +kernel
theorem d_B_join_59 : decode b_B_join 59 = .ok (.getfield 22, 3) := by decide +kernel
theorem d_B_join_62 : decode b_B_join 62 = .ok (.aload_n 1, 1) := by decide +kernel
theorem d_B_join_63 : decode b_B_join 63 = .ok (.getfield 10, 3) := by decide +kernel
theorem d_B_join_66 : decode b_B_join 66 = .ok (.invokevirtual 119, 3) := by decide +kernel
theorem d_B_join_69 : decode b_B_join 69 = .ok (.aload_n 0, 1) := by decide +kernel
theorem d_B_join_70 : decode b_B_join 70 = .ok (.getfield 25, 3) := by decide +kernel
theorem d_B_join_73 : decode b_B_join 73 = .ok (.aload_n 1, 1) := by decide +kernel
theorem d_B_join_74 : decode b_B_join 74 = .ok (.getfield 19, 3) := by decide +kernel
theorem d_B_join_77 : decode b_B_join 77 = .ok (.aload_n 2, 1) := by decide +kernel
theorem d_B_join_78 : decode b_B_join 78 = .ok (.getfield 19, 3) := by decide +kernel
theorem d_B_join_81 : decode b_B_join 81 = .ok (.aload_n 1, 1) := by decide +kernel
theorem d_B_join_82 : decode b_B_join 82 = .ok (.getfield 19, 3) := by decide +kernel
theorem d_B_join_85 : decode b_B_join 85 = .ok (.aload_n 2, 1) := by decide +kernel
theorem d_B_join_86 : decode b_B_join 86 = .ok (.getfield 19, 3) := by decide +kernel
theorem d_B_join_89 : decode b_B_join 89 = .ok (.invokevirtual 119, 3) := by decide +kernel
theorem d_B_join_92 : decode b_B_join 92 = .ok (.aload_n 0, 1) := by decide +kernel
theorem d_B_join_93 : decode b_B_join 93 = .ok (.getfield 25, 3) := by decide +kernel
theorem d_B_join_96 : decode b_B_join 96 = .ok (.iconst (-1), 1) := by decide +kernel
theorem d_B_join_97 : decode b_B_join 97 = .ok (.invokevirtual 63, 3) := by decide +kernel
theorem d_B_join_100 : decode b_B_join 100 = .ok (.aload_n 0, 1) := by decide +kernel
theorem d_B_join_101 : decode b_B_join 101 = .ok (.getfield 25, 3) := by decide +kernel
theorem d_B_join_104 : decode b_B_join 104 = .ok (.aload_n 1, 1) := by decide +kernel
theorem d_B_join_105 : decode b_B_join 105 = .ok (.getfield 16, 3) := by decide +kernel
theorem d_B_join_108 : decode b_B_join 108 = .ok (.aload_n 2, 1) := by decide +kernel
theorem d_B_join_109 : decode b_B_join 109 = .ok (.getfield 22, 3) := by decide +kernel
theorem d_B_join_112 : decode b_B_join 112 = .ok (.aload_n 1, 1) := by decide +kernel
theorem d_B_join_113 : decode b_B_join 113 = .ok (.getfield 22, 3) := by decide +kernel
theorem d_B_join_116 : decode b_B_join 116 = .ok (.aload_n 2, 1) := by decide +kernel
theorem d_B_join_117 : decode b_B_join 117 = .ok (.getfield 16, 3) := by decide +kernel
theorem d_B_join_120 : decode b_B_join 120 = .ok (.invokevirtual 123, 3) := by decide +kernel
theorem d_B_join_123 : decode b_B_join 123 = .ok (.aload_n 0, 1) := by decide +kernel
theorem d_B_join_124 : decode b_B_join 124 = .ok (.getfield 25, 3) := by decide +kernel
theorem d_B_join_127 : decode b_B_join 127 = .ok (.aload_n 1, 1) := by decide +kernel
theorem d_B_join_128 : decode b_B_join 128 = .ok (.getfield 25, 3) := by decide +kernel
theorem d_B_join_131 : decode b_B_join 131 = .ok (.aload_n 2, 1) := by decide +kernel
theorem d_B_join_132 : decode b_B_join 132 = .ok (.getfield 10, 3) := by decide +kernel
theorem d_B_join_135 : decode b_B_join 135 = .ok (.aload_n 2, 1) := by decide +kernel
theorem d_B_join_136 : decode b_B_join 136 = .ok (.getfield 25, 3) := by decide +kernel
theorem d_B_join_139 : decode b_B_join 139 = .ok (.aload_n 1, 1) := by decide +kernel
theorem d_B_join_140 : decode b_B_join 140 = .ok (.getfield 10, 3) := by decide +kernel
theorem d_B_join_143 : decode b_B_join 143 = .ok (.invokevirtual 123, 3) := by decide +kernel
theorem d_B_join_146 : decode b_B_join 146 = .ok (.aload_n 0, 1) := by decide +kernel
theorem d_B_join_147 : decode b_B_join 147 = .ok (.getfield 34, 3) := by decide +kernel
theorem d_B_join_150 : decode b_B_join 150 = .ok (.aload_n 1, 1) := by decide +kernel
theorem d_B_join_151 : decode b_B_join 151 = .ok (.getfield 19, 3) := by decide +kernel
theorem d_B_join_154 : decode b_B_join 154 = .ok (.aload_n 2, 1) := by decide +kernel
theorem d_B_join_155 : decode b_B_join 155 = .ok (.getfield 31, 3) := by decide +kernel
theorem d_B_join_158 : decode b_B_join 158 = .ok (.aload_n 2, 1) := by decide +kernel
theorem d_B_join_159 : decode b_B_join 159 = .ok (.getfield 19, 3) := by decide +kernel
theorem d_B_join_162 : decode b_B_join 162 = .ok (.aload_n 1, 1) := by decide +kernel
theorem d_B_join_163 : decode b_B_join 163 = .ok (.getfield 31, 3) := by decide +kernel
theorem d_B_join_166 : decode b_B_join 166 = .ok (.invokevirtual 119, 3) := by decide +kernel
theorem d_B_join_169 : decode b_B_join 169 = .ok (.aload_n 0, 1) := by decide +kernel
theorem d_B_join_170 : decode b_B_join 170 = .ok (.getfield 34, 3) := by decide +kernel
theorem d_B_join_173 : decode b_B_join 173 = .ok (.iconst (-1), 1) := by decide +kernel
theorem d_B_join_174 : decode b_B_join 174 = .ok (.invokevirtual 63, 3) := by decide +kernel
theorem d_B_join_177 : decode b_B_join 177 = .ok (.aload_n 0, 1) := by decide +kernel
theorem d_B_join_178 : decode b_B_join 178 = .ok (.getfield 34, 3) := by decide +kernel
theorem d_B_join_181 : decode b_B_join 181 = .ok (.aload_n 1, 1) := by decide +kernel
theorem d_B_join_182 : decode b_B_join 182 = .ok (.getfield 22, 3) := by decide +kernel
theorem d_B_join_185 : decode b_B_join 185 = .ok (.aload_n 2, 1) := by decide +kernel
theorem d_B_join_186 : decode b_B_join 186 = .ok (.getfield 28, 3) := by decide +kernel
theorem d_B_join_189 : decode b_B_join 189 = .ok (.aload_n 2, 1) := by decide +kernel
theorem d_B_join_190 : decode b_B_join 190 = .ok (.getfield 22, 3) := by decide +kernel
theorem d_B_join_193 : decode b_B_join 193 = .ok (.aload_n 1, 1) := by decide +kernel
theorem d_B_join_194 : decode b_B_join 194 = .ok (.getfield 28, 3) := by decide +kernel
theorem d_B_join_197 : decode b_B_join 197 = .ok (.invokevirtual 123, 3) := by decide +kernel
theorem d_B_join_200 : decode b_B_join 200 = .ok (.aload_n 0, 1) := by decide +kernel
theorem d_B_join_201 : decode b_B_join 201 = .ok (.getfield 34, 3) := by decide +kernel
theorem d_B_join_204 : decode b_B_join 204 = .ok (.aload_n 1, 1) := by decide +kernel
theorem d_B_join_205 : decode b_B_join 205 = .ok (.getfield 34, 3) := by decide +kernel
theorem d_B_join_208 : decode b_B_join 208 = .ok (.aload_n 2, 1) := by decide +kernel
theorem d_B_join_209 : decode b_B_join 209 = .ok (.getfield 10, 3) := by decide +kernel
theorem d_B_join_212 : decode b_B_join 212 = .ok (.aload_n 2, 1) := by decide +kernel
theorem d_B_join_213 : decode b_B_join 213 = .ok (.getfield 34, 3) := by decide +kernel
theorem d_B_join_216 : decode b_B_join 216 = .ok (.aload_n 1, 1) := by decide +kernel
theorem d_B_join_217 : decode b_B_join 217 = .ok (.getfield 10, 3) := by decide +kernel
theorem d_B_join_220 : decode b_B_join 220 = .ok (.invokevirtual 123, 3) := by decide +kernel
theorem d_B_join_223 : decode b_B_join 223 = .ok (.aload_n 0, 1) := by decide +kernel
theorem d_B_join_224 : decode b_B_join 224 = .ok (.getfield 37, 3) := by decide +kernel
theorem d_B_join_227 : decode b_B_join 227 = .ok (.aload_n 1, 1) := by decide +kernel
theorem d_B_join_228 : decode b_B_join 228 = .ok (.getfield 19, 3) := by decide +kernel
theorem d_B_join_231 : decode b_B_join 231 = .ok (.aload_n 2, 1) := by decide +kernel
theorem d_B_join_232 : decode b_B_join 232 = .ok (.getfield 28, 3) := by decide +kernel
theorem d_B_join_235 : decode b_B_join 235 = .ok (.aload_n 2, 1) := by decide +kernel
theorem d_B_join_236 : decode b_B_join 236 = .ok (.getfield 19, 3) := by decide +kernel
theorem d_B_join_239 : decode b_B_join 239 = .ok (.aload_n 1, 1) := by decide +kernel
theorem d_B_join_240 : decode b_B_join 240 = .ok (.getfield 28, 3) := by decide +kernel
theorem d_B_join_243 : decode b_B_join 243 = .ok (.invokevirtual 119, 3) := by decide +kernel
theorem d_B_join_246 : decode b_B_join 246 = .ok (.aload_n 0, 1) := by decide +kernel
theorem d_B_join_247 : decode b_B_join 247 = .ok (.getfield 37, 3) := by decide +kernel
theorem d_B_join_250 : decode b_B_join 250 = .ok (.iconst (-1), 1) := by decide +kernel
theorem d_B_join_251 : decode b_B_join 251 = .ok (.invokevirtual 63, 3) := by decide +kernel
theorem d_B_join_254 : decode b_B_join 254 = .ok (.aload_n 0, 1) := by decide +kernel
theorem d_B_join_255 : decode b_B_join 255 = .ok (.getfield 37, 3) := by decide +kernel
theorem d_B_join_258 : decode b_B_join 258 = .ok (.aload_n 1, 1) := by decide +kernel
theorem d_B_join_259 : decode b_B_join 259 = .ok (.getfield 16, 3) := by decide +kernel
theorem d_B_join_262 : decode b_B_join 262 = .ok (.aload_n 2, 1) := by decide +kernel
theorem d_B_join_263 : decode b_B_join 263 = .ok (.getfield 31, 3) := by decide +kernel
theorem d_B_join_266 : decode b_B_join 266 = .ok (.aload_n 2, 1) := by decide +kernel
theorem d_B_join_267 : decode b_B_join 267 = .ok (.getfield 16, 3) := by decide +kernel
theorem d_B_join_270 : decode b_B_join 270 = .ok (.aload_n 1, 1) := by decide +kernel
theorem d_B_join_271 : decode b_B_join 271 = .ok (.getfield 31, 3) := by decide +kernel
theorem d_B_join_274 : decode b_B_join 274 = .ok (.invokevirtual 123, 3) := by decide +kernel
theorem d_B_join_277 : decode b_B_join 277 = .ok (.aload_n 0, 1) := by decide +kernel
theorem d_B_join_278 : decode b_B_join 278 = .ok (.getfield 37, 3) := by decide +kernel
theorem d_B_join_281 : decode b_B_join 281 = .ok (.aload_n 1, 1) := by decide +kernel
theorem d_B_join_282 : decode b_B_join 282 = .ok (.getfield 37, 3) := by decide +kernel
theorem d_B_join_285 : decode b_B_join 285 = .ok (.aload_n 2, 1) := by decide +kernel
theorem d_B_join_286 : decode b_B_join 286 = .ok (.getfield 10, 3) := by decide +kernel
theorem d_B_join_289 : decode b_B_join 289 = .ok (.aload_n 2, 1) := by decide +kernel
theorem d_B_join_290 : decode b_B_join 290 = .ok (.getfield 37, 3) := by decide +kernel
theorem d_B_join_293 : decode b_B_join 293 = .ok (.aload_n 1, 1) := by decide +kernel
theorem d_B_join_294 : decode b_B_join 294 = .ok (.getfield 10, 3) := by decide +kernel
theorem d_B_join_297 : decode b_B_join 297 = .ok (.invokevirtual 123, 3) := by decide +kernel
theorem d_B_join_300 : decode b_B_join 300 = .ok (.return_, 1) := by decide +kernel
theorem d_B_tell_0 : decode b_B_tell 0 = .ok (.aload_n 3, 1) := by decide +kernel
theorem d_B_tell_1 : decode b_B_tell 1 = .ok (.aload_n 0, 1) := by decide +kernel
theorem d_B_tell_2 : decode b_B_tell 2 = .ok (.getfield 25, 3) := by decide +kernel
theorem d_B_tell_5 : decode b_B_tell 5 = .ok (.invokevirtual 44, 3) := by decide +kernel
theorem d_B_tell_8 : decode b_B_tell 8 = .ok (.iload_n 1, 1) := by decide +kernel
theorem d_B_tell_9 : decode b_B_tell 9 = .ok (.tableswitch 76 0 3 #[31, 42, 53, 64], 31) := by decide +kernel
theorem d_B_tell_40 : decode b_B_tell 40 = .ok (.aload_n 2, 1) := by decide +kernel
theorem d_B_tell_41 : decode b_B_tell 41 = .ok (.aload_n 0, 1) := by decide +kernel
theorem d_B_tell_42 : decode b_B_tell 42 = .ok (.getfield 34, 3) := by decide +kernel
theorem d_B_tell_45 : decode b_B_tell 45 = .ok (.invokevirtual 44, 3) := by decide +kernel
theorem d_B_tell_48 : decode b_B_tell 48 = .ok (.goto 45, 3) := by decide +kernel
theorem d_B_tell_51 : decode b_B_tell 51 = .ok (.aload_n 2, 1) := by decide +kernel
theorem d_B_tell_52 : decode b_B_tell 52 = .ok (.aload_n 0, 1) := by decide +kernel
theorem d_B_tell_53 : decode b_B_tell 53 = .ok (.getfield 37, 3) := by decide +kernel
theorem d_B_tell_56 : decode b_B_tell 56 = .ok (.invokevirtual 44, 3) := by decide +kernel
theorem d_B_tell_59 : decode b_B_tell 59 = .ok (.goto 34, 3) := by decide +kernel
theorem d_B_tell_62 : decode b_B_tell 62 = .ok (.aload_n 2, 1) := by decide +kernel
theorem d_B_tell_63 : decode b_B_tell 63 = .ok (.aload_n 0, 1) := by decide +kernel
theorem d_B_tell_64 : decode b_B_tell 64 = .ok (.getfield 22, 3) := by decide +kernel
theorem d_B_tell_67 : decode b_B_tell 67 = .ok (.invokevirtual 44, 3) := by decide +kernel
theorem d_B_tell_70 : decode b_B_tell 70 = .ok (.goto 23, 3) := by decide +kernel
theorem d_B_tell_73 : decode b_B_tell 73 = .ok (.aload_n 2, 1) := by decide +kernel
theorem d_B_tell_74 : decode b_B_tell 74 = .ok (.aload_n 0, 1) := by decide +kernel
theorem d_B_tell_75 : decode b_B_tell 75 = .ok (.getfield 19, 3) := by decide +kernel
theorem d_B_tell_78 : decode b_B_tell 78 = .ok (.iconst (-1), 1) := by decide +kernel
theorem d_B_tell_79 : decode b_B_tell 79 = .ok (.invokevirtual 116, 3) := by decide +kernel
theorem d_B_tell_82 : decode b_B_tell 82 = .ok (.goto 11, 3) := by decide +kernel
theorem d_B_tell_85 : decode b_B_tell 85 = .ok (.aload_n 2, 1) := by decide +kernel
theorem d_B_tell_86 : decode b_B_tell 86 = .ok (.aload_n 0, 1) := by decide +kernel
theorem d_B_tell_87 : decode b_B_tell 87 = .ok (.getfield 16, 3) := by decide +kernel
theorem d_B_tell_90 : decode b_B_tell 90 = .ok (.invokevirtual 44, 3) := by decide +kernel
theorem d_B_tell_93 : decode b_B_tell 93 = .ok (.return_, 1) := by decide +kernel
theorem d_O_init_0 : decode b_O_init 0 = .ok (.aload_n 0, 1) := by decide +kernel
theorem d_O_init_1 : decode b_O_init 1 = .ok (.invokespecial 1, 3) := by decide +kernel
theorem d_O_init_4 : decode b_O_init 4 = .ok (.return_, 1) := by decide +kernel
theorem d_O_set_0 : decode b_O_set 0 = .ok (.aload_n 0, 1) := by decide +kernel
theorem d_O_set_1 : decode b_O_set 1 = .ok (.iload_n 1, 1) := by decide +kernel
theorem d_O_set_2 : decode b_O_set 2 = .ok (.putfield 7, 3) := by decide +kernel
theorem d_O_set_5 : decode b_O_set 5 = .ok (.aload_n 0, 1) := by decide +kernel
theorem d_O_set_6 : decode b_O_set 6 = .ok (.iload_n 2, 1) := by decide +kernel
theorem d_O_set_7 : decode b_O_set 7 = .ok (.putfield 13, 3) := by decide +kernel
theorem d_O_set_10 : decode b_O_set 10 = .ok (.aload_n 0, 1) := by decide +kernel
theorem d_O_set_11 : decode b_O_set 11 = .ok (.iload_n 3, 1) := by decide +kernel
theorem d_O_set_12 : decode b_O_set 12 = .ok (.putfield 16, 3) := by decide +kernel
theorem d_O_set_15 : decode b_O_set 15 = .ok (.aload_n 0, 1) := by decide +kernel
theorem d_O_set_16 : decode b_O_set 16 = .ok (.iload 4, 2) := by decide +kernel
theorem d_O_set_18 : decode b_O_set 18 = .ok (.putfield 19, 3) := by decide +kernel
theorem d_O_set_21 : decode b_O_set 21 = .ok (.return_, 1) := by decide +kernel
theorem d_O_place_0 : decode b_O_place 0 = .ok (.aload_n 0, 1) := by decide +kernel
theorem d_O_place_1 : decode b_O_place 1 = .ok (.iload_n 1, 1) := by decide +kernel
theorem d_O_place_2 : decode b_O_place 2 = .ok (.putfield 22, 3) := by decide +kernel
theorem d_O_place_5 : decode b_O_place 5 = .ok (.aload_n 0, 1) := by decide +kernel
theorem d_O_place_6 : decode b_O_place 6 = .ok (.iload_n 2, 1) := by decide +kernel
theorem d_O_place_7 : decode b_O_place 7 = .ok (.putfield 25, 3) := by decide +kernel
theorem d_O_place_10 : decode b_O_place 10 = .ok (.return_, 1) := by decide +kernel
theorem d_Q_init_0 : decode b_Q_init 0 = .ok (.aload_n 0, 1) := by decide +kernel
theorem d_Q_init_1 : decode b_Q_init 1 = .ok (.invokespecial 1, 3) := by decide +kernel
theorem d_Q_init_4 : decode b_Q_init 4 = .ok (.return_, 1) := by decide +kernel
theorem d_Q_setStep_0 : decode b_Q_setStep 0 = .ok (.aload_n 0, 1) := by decide +kernel
theorem d_Q_setStep_1 : decode b_Q_setStep 1 = .ok (.iload_n 1, 1) := by decide +kernel
theorem d_Q_setStep_2 : decode b_Q_setStep 2 = .ok (.putfield 7, 3) := by decide +kernel
theorem d_Q_setStep_5 : decode b_Q_setStep 5 = .ok (.aload_n 0, 1) := by decide +kernel
theorem d_Q_setStep_6 : decode b_Q_setStep 6 = .ok (.iload_n 2, 1) := by decide +kernel
theorem d_Q_setStep_7 : decode b_Q_setStep 7 = .ok (.putfield 13, 3) := by decide +kernel
theorem d_Q_setStep_10 : decode b_Q_setStep 10 = .ok (.aload_n 0, 1) := by decide +kernel
theorem d_Q_setStep_11 : decode b_Q_setStep 11 = .ok (.iload_n 3, 1) := by decide +kernel
theorem d_Q_setStep_12 : decode b_Q_setStep 12 = .ok (.putfield 16, 3) := by decide +kernel
theorem d_Q_setStep_15 : decode b_Q_setStep 15 = .ok (.aload_n 0, 1) := by decide +kernel
theorem d_Q_setStep_16 : decode b_Q_setStep 16 = .ok (.iload 4, 2) := by decide +kernel
theorem d_Q_setStep_18 : decode b_Q_setStep 18 = .ok (.putfield 19, 3) := by decide +kernel
theorem d_Q_setStep_21 : decode b_Q_setStep 21 = .ok (.return_, 1) := by decide +kernel
theorem d_Q_setNoise_0 : decode b_Q_setNoise 0 = .ok (.aload_n 0, 1) := by decide +kernel
theorem d_Q_setNoise_1 : decode b_Q_setNoise 1 = .ok (.iload_n 1, 1) := by decide +kernel
theorem d_Q_setNoise_2 : decode b_Q_setNoise 2 = .ok (.putfield 22, 3) := by decide +kernel
theorem d_Q_setNoise_5 : decode b_Q_setNoise 5 = .ok (.aload_n 0, 1) := by decide +kernel
theorem d_Q_setNoise_6 : decode b_Q_setNoise 6 = .ok (.iload_n 2, 1) := by decide +kernel
theorem d_Q_setNoise_7 : decode b_Q_setNoise 7 = .ok (.putfield 25, 3) := by decide +kernel
theorem d_Q_setNoise_10 : decode b_Q_setNoise 10 = .ok (.aload_n 0, 1) := by decide +kernel
theorem d_Q_setNoise_11 : decode b_Q_setNoise 11 = .ok (.iload_n 3, 1) := by decide +kernel
theorem d_Q_setNoise_12 : decode b_Q_setNoise 12 = .ok (.putfield 28, 3) := by decide +kernel
theorem d_Q_setNoise_15 : decode b_Q_setNoise 15 = .ok (.return_, 1) := by decide +kernel
theorem d_Q_copy_0 : decode b_Q_copy 0 = .ok (.aload_n 0, 1) := by decide +kernel
theorem d_Q_copy_1 : decode b_Q_copy 1 = .ok (.aload_n 1, 1) := by decide +kernel
theorem d_Q_copy_2 : decode b_Q_copy 2 = .ok (.getfield 7, 3) := by decide +kernel
theorem d_Q_copy_5 : decode b_Q_copy 5 = .ok (.aload_n 1, 1) := by decide +kernel
theorem d_Q_copy_6 : decode b_Q_copy 6 = .ok (.getfield 13, 3) := by decide +kernel
theorem d_Q_copy_9 : decode b_Q_copy 9 = .ok (.aload_n 1, 1) := by decide +kernel
theorem d_Q_copy_10 : decode b_Q_copy 10 = .ok (.getfield 16, 3) := by decide +kernel
theorem d_Q_copy_13 : decode b_Q_copy 13 = .ok (.aload_n 1, 1) := by decide +kernel
theorem d_Q_copy_14 : decode b_Q_copy 14 = .ok (.getfield 19, 3) := by decide +kernel
theorem d_Q_copy_17 : decode b_Q_copy 17 = .ok (.invokevirtual 31, 3) := by decide +kernel
theorem d_Q_copy_20 : decode b_Q_copy 20 = .ok (.aload_n 0, 1) := by decide +kernel
theorem d_Q_copy_21 : decode b_Q_copy 21 = .ok (.aload_n 1, 1) := by decide +kernel
theorem d_Q_copy_22 : decode b_Q_copy 22 = .ok (.getfield 22, 3) := by decide +kernel
theorem d_Q_copy_25 : decode b_Q_copy 25 = .ok (.aload_n 1, 1) := by decide +kernel
theorem d_Q_copy_26 : decode b_Q_copy 26 = .ok (.getfield 25, 3) := by decide +kernel
theorem d_Q_copy_29 : decode b_Q_copy 29 = .ok (.aload_n 1, 1) := by decide +kernel
theorem d_Q_copy_30 : decode b_Q_copy 30 = .ok (.getfield 28, 3) := by decide +kernel
theorem d_Q_copy_33 : decode b_Q_copy 33 = .ok (.invokevirtual 35, 3) := by decide +kernel
theorem d_Q_copy_36 : decode b_Q_copy 36 = .ok (.return_, 1) := by decide +kernel
theorem d_Q_stepDeterminant_0 : decode b_Q_stepDeterminant 0 = .ok (.aload_n 0, 1) := by decide +kernel
theorem d_Q_stepDeterminant_1 : decode b_Q_stepDeterminant 1 = .ok (.getfield 7, 3) := by decide +kernel
theorem d_Q_stepDeterminant_4 : decode b_Q_stepDeterminant 4 = .ok (.aload_n 0, 1) := by decide +kernel
theorem d_Q_stepDeterminant_5 : decode b_Q_stepDeterminant 5 = .ok (.getfield 19, 3) := by decide +kernel
theorem d_Q_stepDeterminant_8 : decode b_Q_stepDeterminant 8 = .ok (.imul, 1) := by decide +kernel
theorem d_Q_stepDeterminant_9 : decode b_Q_stepDeterminant 9 = .ok (.aload_n 0, 1) := by decide +kernel
theorem d_Q_stepDeterminant_10 : decode b_Q_stepDeterminant 10 = .ok (.getfield 13, 3) := by decide +kernel
theorem d_Q_stepDeterminant_13 : decode b_Q_stepDeterminant 13 = .ok (.aload_n 0, 1) := by decide +kernel
theorem d_Q_stepDeterminant_14 : decode b_Q_stepDeterminant 14 = .ok (.getfield 16, 3) := by decide +kernel
theorem d_Q_stepDeterminant_17 : decode b_Q_stepDeterminant 17 = .ok (.imul, 1) := by decide +kernel
theorem d_Q_stepDeterminant_18 : decode b_Q_stepDeterminant 18 = .ok (.isub, 1) := by decide +kernel
theorem d_Q_stepDeterminant_19 : decode b_Q_stepDeterminant 19 = .ok (.ireturn, 1) := by decide +kernel
theorem d_Q_noiseDeterminant_0 : decode b_Q_noiseDeterminant 0 = .ok (.aload_n 0, 1) := by decide +kernel
theorem d_Q_noiseDeterminant_1 : decode b_Q_noiseDeterminant 1 = .ok (.getfield 22, 3) := by decide +kernel
theorem d_Q_noiseDeterminant_4 : decode b_Q_noiseDeterminant 4 = .ok (.aload_n 0, 1) := by decide +kernel
theorem d_Q_noiseDeterminant_5 : decode b_Q_noiseDeterminant 5 = .ok (.getfield 28, 3) := by decide +kernel
theorem d_Q_noiseDeterminant_8 : decode b_Q_noiseDeterminant 8 = .ok (.imul, 1) := by decide +kernel
theorem d_Q_noiseDeterminant_9 : decode b_Q_noiseDeterminant 9 = .ok (.aload_n 0, 1) := by decide +kernel
theorem d_Q_noiseDeterminant_10 : decode b_Q_noiseDeterminant 10 = .ok (.getfield 25, 3) := by decide +kernel
theorem d_Q_noiseDeterminant_13 : decode b_Q_noiseDeterminant 13 = .ok (.aload_n 0, 1) := by decide +kernel
theorem d_Q_noiseDeterminant_14 : decode b_Q_noiseDeterminant 14 = .ok (.getfield 25, 3) := by decide +kernel
theorem d_Q_noiseDeterminant_17 : decode b_Q_noiseDeterminant 17 = .ok (.imul, 1) := by decide +kernel
theorem d_Q_noiseDeterminant_18 : decode b_Q_noiseDeterminant 18 = .ok (.isub, 1) := by decide +kernel
theorem d_Q_noiseDeterminant_19 : decode b_Q_noiseDeterminant 19 = .ok (.ireturn, 1) := by decide +kernel
theorem d_W_init_0 : decode b_W_init 0 = .ok (.aload_n 0, 1) := by decide +kernel
theorem d_W_init_1 : decode b_W_init 1 = .ok (.invokespecial 3, 3) := by decide +kernel
theorem d_W_init_4 : decode b_W_init 4 = .ok (.aload_n 0, 1) := by decide +kernel
theorem d_W_init_5 : decode b_W_init 5 = .ok (.iconst 5, 1) := by decide +kernel
theorem d_W_init_6 : decode b_W_init 6 = .ok (.newarray .long, 2) := by decide +kernel
theorem d_W_init_8 : decode b_W_init 8 = .ok (.putfield 9, 3) := by decide +kernel
theorem d_W_init_11 : decode b_W_init 11 = .ok (.return_, 1) := by decide +kernel
theorem d_W_set_0 : decode b_W_set 0 = .ok (.iload_n 1, 1) := by decide +kernel
theorem d_W_set_1 : decode b_W_set 1 = .ok (.i2l, 1) := by decide +kernel
theorem d_W_set_2 : decode b_W_set 2 = .ok (.lstore_n 2, 1) := by decide +kernel
theorem d_W_set_3 : decode b_W_set 3 = .ok (.iconst 0, 1) := by decide +kernel
theorem d_W_set_4 : decode b_W_set 4 = .ok (.istore 4, 2) := by decide +kernel
theorem d_W_set_6 : decode b_W_set 6 = .ok (.iload 4, 2) := by decide +kernel
theorem d_W_set_8 : decode b_W_set 8 = .ok (.iconst 5, 1) := by decide +kernel
theorem d_W_set_9 : decode b_W_set 9 = .ok (.if_icmp .ge 26, 3) := by decide +kernel
theorem d_W_set_12 : decode b_W_set 12 = .ok (.aload_n 0, 1) := by decide +kernel
theorem d_W_set_13 : decode b_W_set 13 = .ok (.getfield 9, 3) := by decide +kernel
theorem d_W_set_16 : decode b_W_set 16 = .ok (.iload 4, 2) := by decide +kernel
theorem d_W_set_18 : decode b_W_set 18 = .ok (.lload_n 2, 1) := by decide +kernel
theorem d_W_set_19 : decode b_W_set 19 = .ok (.ldc2_w 13, 3) := by decide +kernel
theorem d_W_set_22 : decode b_W_set 22 = .ok (.land, 1) := by decide +kernel
theorem d_W_set_23 : decode b_W_set 23 = .ok (.lastore, 1) := by decide +kernel
theorem d_W_set_24 : decode b_W_set 24 = .ok (.lload_n 2, 1) := by decide +kernel
theorem d_W_set_25 : decode b_W_set 25 = .ok (.bipush 32, 2) := by decide +kernel
theorem d_W_set_27 : decode b_W_set 27 = .ok (.lshr, 1) := by decide +kernel
theorem d_W_set_28 : decode b_W_set 28 = .ok (.lstore_n 2, 1) := by decide +kernel
theorem d_W_set_29 : decode b_W_set 29 = .ok (.iinc 4 1, 3) := by decide +kernel
theorem d_W_set_32 : decode b_W_set 32 = .ok (.goto (-26), 3) := by decide +kernel
theorem d_W_set_35 : decode b_W_set 35 = .ok (.return_, 1) := by decide +kernel
theorem d_W_copy_0 : decode b_W_copy 0 = .ok (.iconst 0, 1) := by decide +kernel
theorem d_W_copy_1 : decode b_W_copy 1 = .ok (.istore_n 2, 1) := by decide +kernel
theorem d_W_copy_2 : decode b_W_copy 2 = .ok (.iload_n 2, 1) := by decide +kernel
theorem d_W_copy_3 : decode b_W_copy 3 = .ok (.iconst 5, 1) := by decide +kernel
theorem d_W_copy_4 : decode b_W_copy 4 = .ok (.if_icmp .ge 21, 3) := by decide +kernel
theorem d_W_copy_7 : decode b_W_copy 7 = .ok (.aload_n 0, 1) := by decide +kernel
theorem d_W_copy_8 : decode b_W_copy 8 = .ok (.getfield 9, 3) := by decide +kernel
theorem d_W_copy_11 : decode b_W_copy 11 = .ok (.iload_n 2, 1) := by decide +kernel
theorem d_W_copy_12 : decode b_W_copy 12 = .ok (.aload_n 1, 1) := by decide +kernel
theorem d_W_copy_13 : decode b_W_copy 13 = .ok (.getfield 9, 3) := by decide +kernel
theorem d_W_copy_16 : decode b_W_copy 16 = .ok (.iload_n 2, 1) := by decide +kernel
theorem d_W_copy_17 : decode b_W_copy 17 = .ok (.laload, 1) := by decide +kernel
theorem d_W_copy_18 : decode b_W_copy 18 = .ok (.lastore, 1) := by decide +kernel
theorem d_W_copy_19 : decode b_W_copy 19 = .ok (.iinc 2 1, 3) := by decide +kernel
theorem d_W_copy_22 : decode b_W_copy 22 = .ok (.goto (-20), 3) := by decide +kernel
theorem d_W_copy_25 : decode b_W_copy 25 = .ok (.return_, 1) := by decide +kernel
theorem d_W_scale_0 : decode b_W_scale 0 = .ok (.aload_n 0, 1) := by decide +kernel
theorem d_W_scale_1 : decode b_W_scale 1 = .ok (.aload_n 0, 1) := by decide +kernel
theorem d_W_scale_2 : decode b_W_scale 2 = .ok (.iload_n 1, 1) := by decide +kernel
theorem d_W_scale_3 : decode b_W_scale 3 = .ok (.invokevirtual 15, 3) := by decide +kernel
theorem d_W_scale_6 : decode b_W_scale 6 = .ok (.return_, 1) := by decide +kernel
theorem d_W_setTimes_0 : decode b_W_setTimes 0 = .ok (.lconst 0, 1) := by decide +kernel
theorem d_W_setTimes_1 : decode b_W_setTimes 1 = .ok (.lstore_n 3, 1) := by decide +kernel
theorem d_W_setTimes_2 : decode b_W_setTimes 2 = .ok (.iconst 0, 1) := by decide +kernel
theorem d_W_setTimes_3 : decode b_W_setTimes 3 = .ok (.istore 5, 2) := by decide +kernel
theorem d_W_setTimes_5 : decode b_W_setTimes 5 = .ok (.iload 5, 2) := by decide +kernel
theorem d_W_setTimes_7 : decode b_W_setTimes 7 = .ok (.iconst 5, 1) := by decide +kernel
theorem d_W_setTimes_8 : decode b_W_setTimes 8 = .ok (.if_icmp .ge 42, 3) := by decide +kernel
theorem d_W_setTimes_11 : decode b_W_setTimes 11 = .ok (.aload_n 1, 1) := by decide +kernel
theorem d_W_setTimes_12 : decode b_W_setTimes 12 = .ok (.getfield 9, 3) := by decide +kernel
theorem d_W_setTimes_15 : decode b_W_setTimes 15 = .ok (.iload 5, 2) := by decide +kernel
theorem d_W_setTimes_17 : decode b_W_setTimes 17 = .ok (.laload, 1) := by decide +kernel
theorem d_W_setTimes_18 : decode b_W_setTimes 18 = .ok (.iload_n 2, 1) := by decide +kernel
theorem d_W_setTimes_19 : decode b_W_setTimes 19 = .ok (.i2l, 1) := by decide +kernel
theorem d_W_setTimes_20 : decode b_W_setTimes 20 = .ok (.lmul, 1) := by decide +kernel
theorem d_W_setTimes_21 : decode b_W_setTimes 21 = .ok (.lload_n 3, 1) := by decide +kernel
theorem d_W_setTimes_22 : decode b_W_setTimes 22 = .ok (.ladd, 1) := by decide +kernel
theorem d_W_setTimes_23 : decode b_W_setTimes 23 = .ok (.lstore 6, 2) := by decide +kernel
theorem d_W_setTimes_25 : decode b_W_setTimes 25 = .ok (.aload_n 0, 1) := by decide +kernel
theorem d_W_setTimes_26 : decode b_W_setTimes 26 = .ok (.getfield 9, 3) := by decide +kernel
theorem d_W_setTimes_29 : decode b_W_setTimes 29 = .ok (.iload 5, 2) := by decide +kernel
theorem d_W_setTimes_31 : decode b_W_setTimes 31 = .ok (.lload 6, 2) := by decide +kernel
theorem d_W_setTimes_33 : decode b_W_setTimes 33 = .ok (.ldc2_w 13, 3) := by decide +kernel
theorem d_W_setTimes_36 : decode b_W_setTimes 36 = .ok (.land, 1) := by decide +kernel
theorem d_W_setTimes_37 : decode b_W_setTimes 37 = .ok (.lastore, 1) := by decide +kernel
theorem d_W_setTimes_38 : decode b_W_setTimes 38 = .ok (.lload 6, 2) := by decide +kernel
theorem d_W_setTimes_40 : decode b_W_setTimes 40 = .ok (.bipush 32, 2) := by decide +kernel
theorem d_W_setTimes_42 : decode b_W_setTimes 42 = .ok (.lshr, 1) := by decide +kernel
theorem d_W_setTimes_43 : decode b_W_setTimes 43 = .ok (.lstore_n 3, 1) := by decide +kernel
theorem d_W_setTimes_44 : decode b_W_setTimes 44 = .ok (.iinc 5 1, 3) := by decide +kernel
theorem d_W_setTimes_47 : decode b_W_setTimes 47 = .ok (.goto (-42), 3) := by decide +kernel
theorem d_W_setTimes_50 : decode b_W_setTimes 50 = .ok (.return_, 1) := by decide +kernel
theorem d_W_addTimes_0 : decode b_W_addTimes 0 = .ok (.lconst 0, 1) := by decide +kernel
theorem d_W_addTimes_1 : decode b_W_addTimes 1 = .ok (.lstore_n 3, 1) := by decide +kernel
theorem d_W_addTimes_2 : decode b_W_addTimes 2 = .ok (.iconst 0, 1) := by decide +kernel
theorem d_W_addTimes_3 : decode b_W_addTimes 3 = .ok (.istore 5, 2) := by decide +kernel
theorem d_W_addTimes_5 : decode b_W_addTimes 5 = .ok (.iload 5, 2) := by decide +kernel
theorem d_W_addTimes_7 : decode b_W_addTimes 7 = .ok (.iconst 5, 1) := by decide +kernel
theorem d_W_addTimes_8 : decode b_W_addTimes 8 = .ok (.if_icmp .ge 50, 3) := by decide +kernel
theorem d_W_addTimes_11 : decode b_W_addTimes 11 = .ok (.aload_n 0, 1) := by decide +kernel
theorem d_W_addTimes_12 : decode b_W_addTimes 12 = .ok (.getfield 9, 3) := by decide +kernel
theorem d_W_addTimes_15 : decode b_W_addTimes 15 = .ok (.iload 5, 2) := by decide +kernel
theorem d_W_addTimes_17 : decode b_W_addTimes 17 = .ok (.laload, 1) := by decide +kernel
theorem d_W_addTimes_18 : decode b_W_addTimes 18 = .ok (.aload_n 1, 1) := by decide +kernel
theorem d_W_addTimes_19 : decode b_W_addTimes 19 = .ok (.getfield 9, 3) := by decide +kernel
theorem d_W_addTimes_22 : decode b_W_addTimes 22 = .ok (.iload 5, 2) := by decide +kernel
theorem d_W_addTimes_24 : decode b_W_addTimes 24 = .ok (.laload, 1) := by decide +kernel
theorem d_W_addTimes_25 : decode b_W_addTimes 25 = .ok (.iload_n 2, 1) := by decide +kernel
theorem d_W_addTimes_26 : decode b_W_addTimes 26 = .ok (.i2l, 1) := by decide +kernel
theorem d_W_addTimes_27 : decode b_W_addTimes 27 = .ok (.lmul, 1) := by decide +kernel
theorem d_W_addTimes_28 : decode b_W_addTimes 28 = .ok (.ladd, 1) := by decide +kernel
theorem d_W_addTimes_29 : decode b_W_addTimes 29 = .ok (.lload_n 3, 1) := by decide +kernel
theorem d_W_addTimes_30 : decode b_W_addTimes 30 = .ok (.ladd, 1) := by decide +kernel
theorem d_W_addTimes_31 : decode b_W_addTimes 31 = .ok (.lstore 6, 2) := by decide +kernel
theorem d_W_addTimes_33 : decode b_W_addTimes 33 = .ok (.aload_n 0, 1) := by decide +kernel
theorem d_W_addTimes_34 : decode b_W_addTimes 34 = .ok (.getfield 9, 3) := by decide +kernel
theorem d_W_addTimes_37 : decode b_W_addTimes 37 = .ok (.iload 5, 2) := by decide +kernel
theorem d_W_addTimes_39 : decode b_W_addTimes 39 = .ok (.lload 6, 2) := by decide +kernel
theorem d_W_addTimes_41 : decode b_W_addTimes 41 = .ok (.ldc2_w 13, 3) := by decide +kernel
theorem d_W_addTimes_44 : decode b_W_addTimes 44 = .ok (.land, 1) := by decide +kernel
theorem d_W_addTimes_45 : decode b_W_addTimes 45 = .ok (.lastore, 1) := by decide +kernel
theorem d_W_addTimes_46 : decode b_W_addTimes 46 = .ok (.lload 6, 2) := by decide +kernel
theorem d_W_addTimes_48 : decode b_W_addTimes 48 = .ok (.bipush 32, 2) := by decide +kernel
theorem d_W_addTimes_50 : decode b_W_addTimes 50 = .ok (.lshr, 1) := by decide +kernel
theorem d_W_addTimes_51 : decode b_W_addTimes 51 = .ok (.lstore_n 3, 1) := by decide +kernel
theorem d_W_addTimes_52 : decode b_W_addTimes 52 = .ok (.iinc 5 1, 3) := by decide +kernel
theorem d_W_addTimes_55 : decode b_W_addTimes 55 = .ok (.goto (-50), 3) := by decide +kernel
theorem d_W_addTimes_58 : decode b_W_addTimes 58 = .ok (.return_, 1) := by decide +kernel
theorem d_W_addSum_0 : decode b_W_addSum 0 = .ok (.aload_n 0, 1) := by decide +kernel
theorem d_W_addSum_1 : decode b_W_addSum 1 = .ok (.aload_n 1, 1) := by decide +kernel
theorem d_W_addSum_2 : decode b_W_addSum 2 = .ok (.iload_n 2, 1) := by decide +kernel
theorem d_W_addSum_3 : decode b_W_addSum 3 = .ok (.invokevirtual 19, 3) := by decide +kernel
theorem d_W_addSum_6 : decode b_W_addSum 6 = .ok (.aload_n 0, 1) := by decide +kernel
theorem d_W_addSum_7 : decode b_W_addSum 7 = .ok (.aload_n 3, 1) := by decide +kernel
theorem d_W_addSum_8 : decode b_W_addSum 8 = .ok (.iload 4, 2) := by decide +kernel
theorem d_W_addSum_10 : decode b_W_addSum 10 = .ok (.invokevirtual 19, 3) := by decide +kernel
theorem d_W_addSum_13 : decode b_W_addSum 13 = .ok (.return_, 1) := by decide +kernel
theorem d_W_setSum_0 : decode b_W_setSum 0 = .ok (.aload_n 0, 1) := by decide +kernel
theorem d_W_setSum_1 : decode b_W_setSum 1 = .ok (.aload_n 1, 1) := by decide +kernel
theorem d_W_setSum_2 : decode b_W_setSum 2 = .ok (.iload_n 2, 1) := by decide +kernel
theorem d_W_setSum_3 : decode b_W_setSum 3 = .ok (.invokevirtual 15, 3) := by decide +kernel
theorem d_W_setSum_6 : decode b_W_setSum 6 = .ok (.aload_n 0, 1) := by decide +kernel
theorem d_W_setSum_7 : decode b_W_setSum 7 = .ok (.aload_n 3, 1) := by decide +kernel
theorem d_W_setSum_8 : decode b_W_setSum 8 = .ok (.iload 4, 2) := by decide +kernel
theorem d_W_setSum_10 : decode b_W_setSum 10 = .ok (.invokevirtual 19, 3) := by decide +kernel
theorem d_W_setSum_13 : decode b_W_setSum 13 = .ok (.aload_n 0, 1) := by decide +kernel
theorem d_W_setSum_14 : decode b_W_setSum 14 = .ok (.aload 5, 2) := by decide +kernel
theorem d_W_setSum_16 : decode b_W_setSum 16 = .ok (.iload 6, 2) := by decide +kernel
theorem d_W_setSum_18 : decode b_W_setSum 18 = .ok (.invokevirtual 19, 3) := by decide +kernel
theorem d_W_setSum_21 : decode b_W_setSum 21 = .ok (.return_, 1) := by decide +kernel
theorem d_W_setProducts_0 : decode b_W_setProducts 0 = .ok (.aload_n 0, 1) := by decide +kernel
theorem d_W_setProducts_1 : decode b_W_setProducts 1 = .ok (.iconst 0, 1) := by decide +kernel
theorem d_W_setProducts_2 : decode b_W_setProducts 2 = .ok (.invokevirtual 22, 3) := by decide +kernel
theorem d_W_setProducts_5 : decode b_W_setProducts 5 = .ok (.aload_n 0, 1) := by decide +kernel
theorem d_W_setProducts_6 : decode b_W_setProducts 6 = .ok (.aload_n 1, 1) := by decide +kernel
theorem d_W_setProducts_7 : decode b_W_setProducts 7 = .ok (.aload_n 2, 1) := by decide +kernel
theorem d_W_setProducts_8 : decode b_W_setProducts 8 = .ok (.aload_n 3, 1) := by decide +kernel
theorem d_W_setProducts_9 : decode b_W_setProducts 9 = .ok (.aload 4, 2) := by decide +kernel
theorem d_W_setProducts_11 : decode b_W_setProducts 11 = .ok (.invokevirtual 26, 3) := by decide +kernel
theorem d_W_setProducts_14 : decode b_W_setProducts 14 = .ok (.return_, 1) := by decide +kernel
theorem d_W_addProducts_0 : decode b_W_addProducts 0 = .ok (.aload_n 0, 1) := by decide +kernel
theorem d_W_addProducts_1 : decode b_W_addProducts 1 = .ok (.aload_n 1, 1) := by decide +kernel
theorem d_W_addProducts_2 : decode b_W_addProducts 2 = .ok (.aload_n 2, 1) := by decide +kernel
theorem d_W_addProducts_3 : decode b_W_addProducts 3 = .ok (.invokevirtual 30, 3) := by decide +kernel
theorem d_W_addProducts_6 : decode b_W_addProducts 6 = .ok (.aload_n 0, 1) := by decide +kernel
theorem d_W_addProducts_7 : decode b_W_addProducts 7 = .ok (.aload_n 3, 1) := by decide +kernel
theorem d_W_addProducts_8 : decode b_W_addProducts 8 = .ok (.aload 4, 2) := by decide +kernel
theorem d_W_addProducts_10 : decode b_W_addProducts 10 = .ok (.invokevirtual 30, 3) := by decide +kernel
theorem d_W_addProducts_13 : decode b_W_addProducts 13 = .ok (.return_, 1) := by decide +kernel
theorem d_W_addProduct_0 : decode b_W_addProduct 0 = .ok (.iconst 0, 1) := by decide +kernel
theorem d_W_addProduct_1 : decode b_W_addProduct 1 = .ok (.istore_n 3, 1) := by decide +kernel
theorem d_W_addProduct_2 : decode b_W_addProduct 2 = .ok (.iload_n 3, 1) := by decide +kernel
theorem d_W_addProduct_3 : decode b_W_addProduct 3 = .ok (.iconst 5, 1) := by decide +kernel
theorem d_W_addProduct_4 : decode b_W_addProduct 4 = .ok (.if_icmp .ge 80, 3) := by decide +kernel
theorem d_W_addProduct_7 : decode b_W_addProduct 7 = .ok (.lconst 0, 1) := by decide +kernel
theorem d_W_addProduct_8 : decode b_W_addProduct 8 = .ok (.lstore 4, 2) := by decide +kernel
theorem d_W_addProduct_10 : decode b_W_addProduct 10 = .ok (.iconst 0, 1) := by decide +kernel
theorem d_W_addProduct_11 : decode b_W_addProduct 11 = .ok (.istore 6, 2) := by decide +kernel
theorem d_W_addProduct_13 : decode b_W_addProduct 13 = .ok (.iload_n 3, 1) := by decide +kernel
theorem d_W_addProduct_14 : decode b_W_addProduct 14 = .ok (.iload 6, 2) := by decide +kernel
theorem d_W_addProduct_16 : decode b_W_addProduct 16 = .ok (.iadd, 1) := by decide +kernel
theorem d_W_addProduct_17 : decode b_W_addProduct 17 = .ok (.iconst 5, 1) := by decide +kernel
theorem d_W_addProduct_18 : decode b_W_addProduct 18 = .ok (.if_icmp .ge 60, 3) := by decide +kernel
theorem d_W_addProduct_21 : decode b_W_addProduct 21 = .ok (.aload_n 0, 1) := by decide +kernel
theorem d_W_addProduct_22 : decode b_W_addProduct 22 = .ok (.getfield 9, 3) := by decide +kernel
theorem d_W_addProduct_25 : decode b_W_addProduct 25 = .ok (.iload_n 3, 1) := by decide +kernel
theorem d_W_addProduct_26 : decode b_W_addProduct 26 = .ok (.iload 6, 2) := by decide +kernel
theorem d_W_addProduct_28 : decode b_W_addProduct 28 = .ok (.iadd, 1) := by decide +kernel
theorem d_W_addProduct_29 : decode b_W_addProduct 29 = .ok (.laload, 1) := by decide +kernel
theorem d_W_addProduct_30 : decode b_W_addProduct 30 = .ok (.aload_n 1, 1) := by decide +kernel
theorem d_W_addProduct_31 : decode b_W_addProduct 31 = .ok (.getfield 9, 3) := by decide +kernel
theorem d_W_addProduct_34 : decode b_W_addProduct 34 = .ok (.iload_n 3, 1) := by decide +kernel
theorem d_W_addProduct_35 : decode b_W_addProduct 35 = .ok (.laload, 1) := by decide +kernel
theorem d_W_addProduct_36 : decode b_W_addProduct 36 = .ok (.aload_n 2, 1) := by decide +kernel
theorem d_W_addProduct_37 : decode b_W_addProduct 37 = .ok (.getfield 9, 3) := by decide +kernel
theorem d_W_addProduct_40 : decode b_W_addProduct 40 = .ok (.iload 6, 2) := by decide +kernel
theorem d_W_addProduct_42 : decode b_W_addProduct 42 = .ok (.laload, 1) := by decide +kernel
theorem d_W_addProduct_43 : decode b_W_addProduct 43 = .ok (.lmul, 1) := by decide +kernel
theorem d_W_addProduct_44 : decode b_W_addProduct 44 = .ok (.ladd, 1) := by decide +kernel
theorem d_W_addProduct_45 : decode b_W_addProduct 45 = .ok (.lload 4, 2) := by decide +kernel
theorem d_W_addProduct_47 : decode b_W_addProduct 47 = .ok (.ladd, 1) := by decide +kernel
theorem d_W_addProduct_48 : decode b_W_addProduct 48 = .ok (.lstore 7, 2) := by decide +kernel
theorem d_W_addProduct_50 : decode b_W_addProduct 50 = .ok (.aload_n 0, 1) := by decide +kernel
theorem d_W_addProduct_51 : decode b_W_addProduct 51 = .ok (.getfield 9, 3) := by decide +kernel
theorem d_W_addProduct_54 : decode b_W_addProduct 54 = .ok (.iload_n 3, 1) := by decide +kernel
theorem d_W_addProduct_55 : decode b_W_addProduct 55 = .ok (.iload 6, 2) := by decide +kernel
theorem d_W_addProduct_57 : decode b_W_addProduct 57 = .ok (.iadd, 1) := by decide +kernel
theorem d_W_addProduct_58 : decode b_W_addProduct 58 = .ok (.lload 7, 2) := by decide +kernel
theorem d_W_addProduct_60 : decode b_W_addProduct 60 = .ok (.ldc2_w 13, 3) := by decide +kernel
theorem d_W_addProduct_63 : decode b_W_addProduct 63 = .ok (.land, 1) := by decide +kernel
theorem d_W_addProduct_64 : decode b_W_addProduct 64 = .ok (.lastore, 1) := by decide +kernel
theorem d_W_addProduct_65 : decode b_W_addProduct 65 = .ok (.lload 7, 2) := by decide +kernel
theorem d_W_addProduct_67 : decode b_W_addProduct 67 = .ok (.bipush 32, 2) := by decide +kernel
theorem d_W_addProduct_69 : decode b_W_addProduct 69 = .ok (.lushr, 1) := by decide +kernel
theorem d_W_addProduct_70 : decode b_W_addProduct 70 = .ok (.lstore 4, 2) := by decide +kernel
theorem d_W_addProduct_72 : decode b_W_addProduct 72 = .ok (.iinc 6 1, 3) := by decide +kernel
theorem d_W_addProduct_75 : decode b_W_addProduct 75 = .ok (.goto (-62), 3) := by decide +kernel
theorem d_W_addProduct_78 : decode b_W_addProduct 78 = .ok (.iinc 3 1, 3) := by decide +kernel
theorem d_W_addProduct_81 : decode b_W_addProduct 81 = .ok (.goto (-79), 3) := by decide +kernel
theorem d_W_addProduct_84 : decode b_W_addProduct 84 = .ok (.return_, 1) := by decide +kernel
theorem d_W_side_0 : decode b_W_side 0 = .ok (.aload_n 0, 1) := by decide +kernel
theorem d_W_side_1 : decode b_W_side 1 = .ok (.getfield 9, 3) := by decide +kernel
theorem d_W_side_4 : decode b_W_side 4 = .ok (.iconst 4, 1) := by decide +kernel
theorem d_W_side_5 : decode b_W_side 5 = .ok (.laload, 1) := by decide +kernel
theorem d_W_side_6 : decode b_W_side 6 = .ok (.ldc2_w 34, 3) := by decide +kernel
theorem d_W_side_9 : decode b_W_side 9 = .ok (.lcmp, 1) := by decide +kernel
theorem d_W_side_10 : decode b_W_side 10 = .ok (.ifCond .lt 5, 3) := by decide +kernel
theorem d_W_side_13 : decode b_W_side 13 = .ok (.iconst (-1), 1) := by decide +kernel
theorem d_W_side_14 : decode b_W_side 14 = .ok (.ireturn, 1) := by decide +kernel
theorem d_W_side_15 : decode b_W_side 15 = .ok (.iconst 0, 1) := by decide +kernel
theorem d_W_side_16 : decode b_W_side 16 = .ok (.istore_n 1, 1) := by decide +kernel
theorem d_W_side_17 : decode b_W_side 17 = .ok (.iload_n 1, 1) := by decide +kernel
theorem d_W_side_18 : decode b_W_side 18 = .ok (.iconst 5, 1) := by decide +kernel
theorem d_W_side_19 : decode b_W_side 19 = .ok (.if_icmp .ge 22, 3) := by decide +kernel
theorem d_W_side_22 : decode b_W_side 22 = .ok (.aload_n 0, 1) := by decide +kernel
theorem d_W_side_23 : decode b_W_side 23 = .ok (.getfield 9, 3) := by decide +kernel
theorem d_W_side_26 : decode b_W_side 26 = .ok (.iload_n 1, 1) := by decide +kernel
theorem d_W_side_27 : decode b_W_side 27 = .ok (.laload, 1) := by decide +kernel
theorem d_W_side_28 : decode b_W_side 28 = .ok (.lconst 0, 1) := by decide +kernel
theorem d_W_side_29 : decode b_W_side 29 = .ok (.lcmp, 1) := by decide +kernel
theorem d_W_side_30 : decode b_W_side 30 = .ok (.ifCond .eq 5, 3) := by decide +kernel
theorem d_W_side_33 : decode b_W_side 33 = .ok (.iconst 1, 1) := by decide +kernel
theorem d_W_side_34 : decode b_W_side 34 = .ok (.ireturn, 1) := by decide +kernel
theorem d_W_side_35 : decode b_W_side 35 = .ok (.iinc 1 1, 3) := by decide +kernel
theorem d_W_side_38 : decode b_W_side 38 = .ok (.goto (-21), 3) := by decide +kernel
theorem d_W_side_41 : decode b_W_side 41 = .ok (.iconst 0, 1) := by decide +kernel
theorem d_W_side_42 : decode b_W_side 42 = .ok (.ireturn, 1) := by decide +kernel
theorem d_W_order_0 : decode b_W_order 0 = .ok (.iconst 4, 1) := by decide +kernel
theorem d_W_order_1 : decode b_W_order 1 = .ok (.istore_n 2, 1) := by decide +kernel
theorem d_W_order_2 : decode b_W_order 2 = .ok (.iload_n 2, 1) := by decide +kernel
theorem d_W_order_3 : decode b_W_order 3 = .ok (.ifCond .lt 47, 3) := by decide +kernel
theorem d_W_order_6 : decode b_W_order 6 = .ok (.aload_n 0, 1) := by decide +kernel
theorem d_W_order_7 : decode b_W_order 7 = .ok (.getfield 9, 3) := by decide +kernel
theorem d_W_order_10 : decode b_W_order 10 = .ok (.iload_n 2, 1) := by decide +kernel
theorem d_W_order_11 : decode b_W_order 11 = .ok (.laload, 1) := by decide +kernel
theorem d_W_order_12 : decode b_W_order 12 = .ok (.aload_n 1, 1) := by decide +kernel
theorem d_W_order_13 : decode b_W_order 13 = .ok (.getfield 9, 3) := by decide +kernel
theorem d_W_order_16 : decode b_W_order 16 = .ok (.iload_n 2, 1) := by decide +kernel
theorem d_W_order_17 : decode b_W_order 17 = .ok (.laload, 1) := by decide +kernel
theorem d_W_order_18 : decode b_W_order 18 = .ok (.lcmp, 1) := by decide +kernel
theorem d_W_order_19 : decode b_W_order 19 = .ok (.ifCond .eq 25, 3) := by decide +kernel
theorem d_W_order_22 : decode b_W_order 22 = .ok (.aload_n 0, 1) := by decide +kernel
theorem d_W_order_23 : decode b_W_order 23 = .ok (.getfield 9, 3) := by decide +kernel
theorem d_W_order_26 : decode b_W_order 26 = .ok (.iload_n 2, 1) := by decide +kernel
theorem d_W_order_27 : decode b_W_order 27 = .ok (.laload, 1) := by decide +kernel
theorem d_W_order_28 : decode b_W_order 28 = .ok (.aload_n 1, 1) := by decide +kernel
theorem d_W_order_29 : decode b_W_order 29 = .ok (.getfield 9, 3) := by decide +kernel
theorem d_W_order_32 : decode b_W_order 32 = .ok (.iload_n 2, 1) := by decide +kernel
theorem d_W_order_33 : decode b_W_order 33 = .ok (.laload, 1) := by decide +kernel
theorem d_W_order_34 : decode b_W_order 34 = .ok (.lcmp, 1) := by decide +kernel
theorem d_W_order_35 : decode b_W_order 35 = .ok (.ifCond .ge 7, 3) := by decide +kernel
theorem d_W_order_38 : decode b_W_order 38 = .ok (.iconst (-1), 1) := by decide +kernel
theorem d_W_order_39 : decode b_W_order 39 = .ok (.goto 4, 3) := by decide +kernel
theorem d_W_order_42 : decode b_W_order 42 = .ok (.iconst 1, 1) := by decide +kernel
theorem d_W_order_43 : decode b_W_order 43 = .ok (.ireturn, 1) := by decide +kernel
theorem d_W_order_44 : decode b_W_order 44 = .ok (.iinc 2 (-1), 3) := by decide +kernel
theorem d_W_order_47 : decode b_W_order 47 = .ok (.goto (-45), 3) := by decide +kernel
theorem d_W_order_50 : decode b_W_order 50 = .ok (.iconst 0, 1) := by decide +kernel
theorem d_W_order_51 : decode b_W_order 51 = .ok (.ireturn, 1) := by decide +kernel
theorem d_W_length_0 : decode b_W_length 0 = .ok (.sipush 160, 3) := by decide +kernel
theorem d_W_length_3 : decode b_W_length 3 = .ok (.istore_n 1, 1) := by decide +kernel
theorem d_W_length_4 : decode b_W_length 4 = .ok (.iload_n 1, 1) := by decide +kernel
theorem d_W_length_5 : decode b_W_length 5 = .ok (.ifCond .le 19, 3) := by decide +kernel
theorem d_W_length_8 : decode b_W_length 8 = .ok (.aload_n 0, 1) := by decide +kernel
theorem d_W_length_9 : decode b_W_length 9 = .ok (.iload_n 1, 1) := by decide +kernel
theorem d_W_length_10 : decode b_W_length 10 = .ok (.iconst 1, 1) := by decide +kernel
theorem d_W_length_11 : decode b_W_length 11 = .ok (.isub, 1) := by decide +kernel
theorem d_W_length_12 : decode b_W_length 12 = .ok (.invokevirtual 36, 3) := by decide +kernel
theorem d_W_length_15 : decode b_W_length 15 = .ok (.ifCond .ne 9, 3) := by decide +kernel
theorem d_W_length_18 : decode b_W_length 18 = .ok (.iinc 1 (-1), 3) := by decide +kernel
theorem d_W_length_21 : decode b_W_length 21 = .ok (.goto (-17), 3) := by decide +kernel
theorem d_W_length_24 : decode b_W_length 24 = .ok (.iload_n 1, 1) := by decide +kernel
theorem d_W_length_25 : decode b_W_length 25 = .ok (.ireturn, 1) := by decide +kernel
theorem d_W_hasBit_0 : decode b_W_hasBit 0 = .ok (.aload_n 0, 1) := by decide +kernel
theorem d_W_hasBit_1 : decode b_W_hasBit 1 = .ok (.getfield 9, 3) := by decide +kernel
theorem d_W_hasBit_4 : decode b_W_hasBit 4 = .ok (.iload_n 1, 1) := by decide +kernel
theorem d_W_hasBit_5 : decode b_W_hasBit 5 = .ok (.bipush 32, 2) := by decide +kernel
theorem d_W_hasBit_7 : decode b_W_hasBit 7 = .ok (.idiv, 1) := by decide +kernel
theorem d_W_hasBit_8 : decode b_W_hasBit 8 = .ok (.laload, 1) := by decide +kernel
theorem d_W_hasBit_9 : decode b_W_hasBit 9 = .ok (.iload_n 1, 1) := by decide +kernel
theorem d_W_hasBit_10 : decode b_W_hasBit 10 = .ok (.bipush 32, 2) := by decide +kernel
theorem d_W_hasBit_12 : decode b_W_hasBit 12 = .ok (.irem, 1) := by decide +kernel
theorem d_W_hasBit_13 : decode b_W_hasBit 13 = .ok (.lshr, 1) := by decide +kernel
theorem d_W_hasBit_14 : decode b_W_hasBit 14 = .ok (.lconst 1, 1) := by decide +kernel
theorem d_W_hasBit_15 : decode b_W_hasBit 15 = .ok (.land, 1) := by decide +kernel
theorem d_W_hasBit_16 : decode b_W_hasBit 16 = .ok (.lconst 0, 1) := by decide +kernel
theorem d_W_hasBit_17 : decode b_W_hasBit 17 = .ok (.lcmp, 1) := by decide +kernel
theorem d_W_hasBit_18 : decode b_W_hasBit 18 = .ok (.ifCond .eq 7, 3) := by decide +kernel
theorem d_W_hasBit_21 : decode b_W_hasBit 21 = .ok (.iconst 1, 1) := by decide +kernel
theorem d_W_hasBit_22 : decode b_W_hasBit 22 = .ok (.goto 4, 3) := by decide +kernel
theorem d_W_hasBit_25 : decode b_W_hasBit 25 = .ok (.iconst 0, 1) := by decide +kernel
theorem d_W_hasBit_26 : decode b_W_hasBit 26 = .ok (.ireturn, 1) := by decide +kernel
theorem d_W_limb_0 : decode b_W_limb 0 = .ok (.iload_n 1, 1) := by decide +kernel
theorem d_W_limb_1 : decode b_W_limb 1 = .ok (.ifCond .lt 17, 3) := by decide +kernel
theorem d_W_limb_4 : decode b_W_limb 4 = .ok (.iload_n 1, 1) := by decide +kernel
theorem d_W_limb_5 : decode b_W_limb 5 = .ok (.iconst 5, 1) := by decide +kernel
theorem d_W_limb_6 : decode b_W_limb 6 = .ok (.if_icmp .ge 12, 3) := by decide +kernel
theorem d_W_limb_9 : decode b_W_limb 9 = .ok (.aload_n 0, 1) := by decide +kernel
theorem d_W_limb_10 : decode b_W_limb 10 = .ok (.getfield 9, 3) := by decide +kernel
theorem d_W_limb_13 : decode b_W_limb 13 = .ok (.iload_n 1, 1) := by decide +kernel
theorem d_W_limb_14 : decode b_W_limb 14 = .ok (.laload, 1) := by decide +kernel
theorem d_W_limb_15 : decode b_W_limb 15 = .ok (.goto 4, 3) := by decide +kernel
theorem d_W_limb_18 : decode b_W_limb 18 = .ok (.lconst 0, 1) := by decide +kernel
theorem d_W_limb_19 : decode b_W_limb 19 = .ok (.lreturn, 1) := by decide +kernel
theorem d_W_lowZeros_0 : decode b_W_lowZeros 0 = .ok (.iconst 0, 1) := by decide +kernel
theorem d_W_lowZeros_1 : decode b_W_lowZeros 1 = .ok (.istore_n 1, 1) := by decide +kernel
theorem d_W_lowZeros_2 : decode b_W_lowZeros 2 = .ok (.iload_n 1, 1) := by decide +kernel
theorem d_W_lowZeros_3 : decode b_W_lowZeros 3 = .ok (.bipush 32, 2) := by decide +kernel
theorem d_W_lowZeros_5 : decode b_W_lowZeros 5 = .ok (.if_icmp .ge 24, 3) := by decide +kernel
theorem d_W_lowZeros_8 : decode b_W_lowZeros 8 = .ok (.aload_n 0, 1) := by decide +kernel
theorem d_W_lowZeros_9 : decode b_W_lowZeros 9 = .ok (.getfield 9, 3) := by decide +kernel
theorem d_W_lowZeros_12 : decode b_W_lowZeros 12 = .ok (.iconst 0, 1) := by decide +kernel
theorem d_W_lowZeros_13 : decode b_W_lowZeros 13 = .ok (.laload, 1) := by decide +kernel
theorem d_W_lowZeros_14 : decode b_W_lowZeros 14 = .ok (.iload_n 1, 1) := by decide +kernel
theorem d_W_lowZeros_15 : decode b_W_lowZeros 15 = .ok (.lshr, 1) := by decide +kernel
theorem d_W_lowZeros_16 : decode b_W_lowZeros 16 = .ok (.lconst 1, 1) := by decide +kernel
theorem d_W_lowZeros_17 : decode b_W_lowZeros 17 = .ok (.land, 1) := by decide +kernel
theorem d_W_lowZeros_18 : decode b_W_lowZeros 18 = .ok (.lconst 0, 1) := by decide +kernel
theorem d_W_lowZeros_19 : decode b_W_lowZeros 19 = .ok (.lcmp, 1) := by decide +kernel
theorem d_W_lowZeros_20 : decode b_W_lowZeros 20 = .ok (.ifCond .ne 9, 3) := by decide +kernel
theorem d_W_lowZeros_23 : decode b_W_lowZeros 23 = .ok (.iinc 1 1, 3) := by decide +kernel
theorem d_W_lowZeros_26 : decode b_W_lowZeros 26 = .ok (.goto (-24), 3) := by decide +kernel
theorem d_W_lowZeros_29 : decode b_W_lowZeros 29 = .ok (.iload_n 1, 1) := by decide +kernel
theorem d_W_lowZeros_30 : decode b_W_lowZeros 30 = .ok (.ireturn, 1) := by decide +kernel
theorem d_W_shiftRight_0 : decode b_W_shiftRight 0 = .ok (.iconst 0, 1) := by decide +kernel
theorem d_W_shiftRight_1 : decode b_W_shiftRight 1 = .ok (.istore_n 2, 1) := by decide +kernel
theorem d_W_shiftRight_2 : decode b_W_shiftRight 2 = .ok (.iload_n 2, 1) := by decide +kernel
theorem d_W_shiftRight_3 : decode b_W_shiftRight 3 = .ok (.iconst 5, 1) := by decide +kernel
theorem d_W_shiftRight_4 : decode b_W_shiftRight 4 = .ok (.if_icmp .ge 54, 3) := by decide +kernel
theorem d_W_shiftRight_7 : decode b_W_shiftRight 7 = .ok (.iload_n 2, 1) := by decide +kernel
theorem d_W_shiftRight_8 : decode b_W_shiftRight 8 = .ok (.iconst 1, 1) := by decide +kernel
theorem d_W_shiftRight_9 : decode b_W_shiftRight 9 = .ok (.iadd, 1) := by decide +kernel
theorem d_W_shiftRight_10 : decode b_W_shiftRight 10 = .ok (.iconst 5, 1) := by decide +kernel
theorem d_W_shiftRight_11 : decode b_W_shiftRight 11 = .ok (.if_icmp .ge 14, 3) := by decide +kernel
theorem d_W_shiftRight_14 : decode b_W_shiftRight 14 = .ok (.aload_n 0, 1) := by decide +kernel
theorem d_W_shiftRight_15 : decode b_W_shiftRight 15 = .ok (.getfield 9, 3) := by decide +kernel
theorem d_W_shiftRight_18 : decode b_W_shiftRight 18 = .ok (.iload_n 2, 1) := by decide +kernel
theorem d_W_shiftRight_19 : decode b_W_shiftRight 19 = .ok (.iconst 1, 1) := by decide +kernel
theorem d_W_shiftRight_20 : decode b_W_shiftRight 20 = .ok (.iadd, 1) := by decide +kernel
theorem d_W_shiftRight_21 : decode b_W_shiftRight 21 = .ok (.laload, 1) := by decide +kernel
theorem d_W_shiftRight_22 : decode b_W_shiftRight 22 = .ok (.goto 4, 3) := by decide +kernel
theorem d_W_shiftRight_25 : decode b_W_shiftRight 25 = .ok (.lconst 0, 1) := by decide +kernel
theorem d_W_shiftRight_26 : decode b_W_shiftRight 26 = .ok (.lstore_n 3, 1) := by decide +kernel
theorem d_W_shiftRight_27 : decode b_W_shiftRight 27 = .ok (.aload_n 0, 1) := by decide +kernel
theorem d_W_shiftRight_28 : decode b_W_shiftRight 28 = .ok (.getfield 9, 3) := by decide +kernel
theorem d_W_shiftRight_31 : decode b_W_shiftRight 31 = .ok (.iload_n 2, 1) := by decide +kernel
theorem d_W_shiftRight_32 : decode b_W_shiftRight 32 = .ok (.aload_n 0, 1) := by decide +kernel
theorem d_W_shiftRight_33 : decode b_W_shiftRight 33 = .ok (.getfield 9, 3) := by decide +kernel
theorem d_W_shiftRight_36 : decode b_W_shiftRight 36 = .ok (.iload_n 2, 1) := by decide +kernel
theorem d_W_shiftRight_37 : decode b_W_shiftRight 37 = .ok (.laload, 1) := by decide +kernel
theorem d_W_shiftRight_38 : decode b_W_shiftRight 38 = .ok (.iload_n 1, 1) := by decide +kernel
theorem d_W_shiftRight_39 : decode b_W_shiftRight 39 = .ok (.lushr, 1) := by decide +kernel
theorem d_W_shiftRight_40 : decode b_W_shiftRight 40 = .ok (.lload_n 3, 1) := by decide +kernel
theorem d_W_shiftRight_41 : decode b_W_shiftRight 41 = .ok (.bipush 32, 2) := by decide +kernel
theorem d_W_shiftRight_43 : decode b_W_shiftRight 43 = .ok (.iload_n 1, 1) := by decide +kernel
theorem d_W_shiftRight_44 : decode b_W_shiftRight 44 = .ok (.isub, 1) := by decide +kernel
