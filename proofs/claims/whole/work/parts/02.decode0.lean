theorem d_E_init_0 : decode b_E_init 0 = .ok (.aload_n 0, 1) := by decide +kernel
theorem d_E_init_1 : decode b_E_init 1 = .ok (.invokespecial 3, 3) := by decide +kernel
theorem d_E_init_4 : decode b_E_init 4 = .ok (.aload_n 0, 1) := by decide +kernel
theorem d_E_init_5 : decode b_E_init 5 = .ok (.bipush 10, 2) := by decide +kernel
theorem d_E_init_7 : decode b_E_init 7 = .ok (.anewarray 9, 3) := by decide +kernel
theorem d_E_init_10 : decode b_E_init 10 = .ok (.putfield 11, 3) := by decide +kernel
theorem d_E_init_13 : decode b_E_init 13 = .ok (.aload_n 0, 1) := by decide +kernel
theorem d_E_init_14 : decode b_E_init 14 = .ok (.iconst 4, 1) := by decide +kernel
theorem d_E_init_15 : decode b_E_init 15 = .ok (.newarray .int, 2) := by decide +kernel
theorem d_E_init_17 : decode b_E_init 17 = .ok (.putfield 15, 3) := by decide +kernel
theorem d_E_init_20 : decode b_E_init 20 = .ok (.aload_n 0, 1) := by decide +kernel
theorem d_E_init_21 : decode b_E_init 21 = .ok (.bipush 6, 2) := by decide +kernel
theorem d_E_init_23 : decode b_E_init 23 = .ok (.anewarray 19, 3) := by decide +kernel
theorem d_E_init_26 : decode b_E_init 26 = .ok (.putfield 21, 3) := by decide +kernel
theorem d_E_init_29 : decode b_E_init 29 = .ok (.aload_n 0, 1) := by decide +kernel
theorem d_E_init_30 : decode b_E_init 30 = .ok (.iconst 3, 1) := by decide +kernel
theorem d_E_init_31 : decode b_E_init 31 = .ok (.anewarray 25, 3) := by decide +kernel
theorem d_E_init_34 : decode b_E_init 34 = .ok (.putfield 27, 3) := by decide +kernel
theorem d_E_init_37 : decode b_E_init 37 = .ok (.aload_n 0, 1) := by decide +kernel
theorem d_E_init_38 : decode b_E_init 38 = .ok (.new 25, 3) := by decide +kernel
theorem d_E_init_41 : decode b_E_init 41 = .ok (.dup, 1) := by decide +kernel
theorem d_E_init_42 : decode b_E_init 42 = .ok (.invokespecial 31, 3) := by decide +kernel
theorem d_E_init_45 : decode b_E_init 45 = .ok (.putfield 32, 3) := by decide +kernel
theorem d_E_init_48 : decode b_E_init 48 = .ok (.aload_n 0, 1) := by decide +kernel
theorem d_E_init_49 : decode b_E_init 49 = .ok (.new 9, 3) := by decide +kernel
theorem d_E_init_52 : decode b_E_init 52 = .ok (.dup, 1) := by decide +kernel
theorem d_E_init_53 : decode b_E_init 53 = .ok (.invokespecial 36, 3) := by decide +kernel
theorem d_E_init_56 : decode b_E_init 56 = .ok (.putfield 37, 3) := by decide +kernel
theorem d_E_init_59 : decode b_E_init 59 = .ok (.aload_n 0, 1) := by decide +kernel
theorem d_E_init_60 : decode b_E_init 60 = .ok (.new 9, 3) := by decide +kernel
theorem d_E_init_63 : decode b_E_init 63 = .ok (.dup, 1) := by decide +kernel
theorem d_E_init_64 : decode b_E_init 64 = .ok (.invokespecial 36, 3) := by decide +kernel
theorem d_E_init_67 : decode b_E_init 67 = .ok (.putfield 41, 3) := by decide +kernel
theorem d_E_init_70 : decode b_E_init 70 = .ok (.aload_n 0, 1) := by decide +kernel
theorem d_E_init_71 : decode b_E_init 71 = .ok (.new 9, 3) := by decide +kernel
theorem d_E_init_74 : decode b_E_init 74 = .ok (.dup, 1) := by decide +kernel
theorem d_E_init_75 : decode b_E_init 75 = .ok (.invokespecial 36, 3) := by decide +kernel
theorem d_E_init_78 : decode b_E_init 78 = .ok (.putfield 44, 3) := by decide +kernel
theorem d_E_init_81 : decode b_E_init 81 = .ok (.aload_n 0, 1) := by decide +kernel
theorem d_E_init_82 : decode b_E_init 82 = .ok (.new 47, 3) := by decide +kernel
theorem d_E_init_85 : decode b_E_init 85 = .ok (.dup, 1) := by decide +kernel
theorem d_E_init_86 : decode b_E_init 86 = .ok (.invokespecial 49, 3) := by decide +kernel
theorem d_E_init_89 : decode b_E_init 89 = .ok (.putfield 50, 3) := by decide +kernel
theorem d_E_init_92 : decode b_E_init 92 = .ok (.aload_n 0, 1) := by decide +kernel
theorem d_E_init_93 : decode b_E_init 93 = .ok (.new 47, 3) := by decide +kernel
theorem d_E_init_96 : decode b_E_init 96 = .ok (.dup, 1) := by decide +kernel
theorem d_E_init_97 : decode b_E_init 97 = .ok (.invokespecial 49, 3) := by decide +kernel
theorem d_E_init_100 : decode b_E_init 100 = .ok (.putfield 54, 3) := by decide +kernel
theorem d_E_init_103 : decode b_E_init 103 = .ok (.aload_n 0, 1) := by decide +kernel
theorem d_E_init_104 : decode b_E_init 104 = .ok (.new 47, 3) := by decide +kernel
theorem d_E_init_107 : decode b_E_init 107 = .ok (.dup, 1) := by decide +kernel
theorem d_E_init_108 : decode b_E_init 108 = .ok (.invokespecial 49, 3) := by decide +kernel
theorem d_E_init_111 : decode b_E_init 111 = .ok (.putfield 57, 3) := by decide +kernel
theorem d_E_init_114 : decode b_E_init 114 = .ok (.aload_n 0, 1) := by decide +kernel
theorem d_E_init_115 : decode b_E_init 115 = .ok (.new 47, 3) := by decide +kernel
theorem d_E_init_118 : decode b_E_init 118 = .ok (.dup, 1) := by decide +kernel
theorem d_E_init_119 : decode b_E_init 119 = .ok (.invokespecial 49, 3) := by decide +kernel
theorem d_E_init_122 : decode b_E_init 122 = .ok (.putfield 60, 3) := by decide +kernel
theorem d_E_init_125 : decode b_E_init 125 = .ok (.iconst 0, 1) := by decide +kernel
theorem d_E_init_126 : decode b_E_init 126 = .ok (.istore_n 1, 1) := by decide +kernel
theorem d_E_init_127 : decode b_E_init 127 = .ok (.iload_n 1, 1) := by decide +kernel
theorem d_E_init_128 : decode b_E_init 128 = .ok (.bipush 10, 2) := by decide +kernel
theorem d_E_init_130 : decode b_E_init 130 = .ok (.if_icmp .ge 22, 3) := by decide +kernel
theorem d_E_init_133 : decode b_E_init 133 = .ok (.aload_n 0, 1) := by decide +kernel
theorem d_E_init_134 : decode b_E_init 134 = .ok (.getfield 11, 3) := by decide +kernel
theorem d_E_init_137 : decode b_E_init 137 = .ok (.iload_n 1, 1) := by decide +kernel
theorem d_E_init_138 : decode b_E_init 138 = .ok (.new 9, 3) := by decide +kernel
theorem d_E_init_141 : decode b_E_init 141 = .ok (.dup, 1) := by decide +kernel
theorem d_E_init_142 : decode b_E_init 142 = .ok (.invokespecial 36, 3) := by decide +kernel
theorem d_E_init_145 : decode b_E_init 145 = .ok (.aastore, 1) := by decide +kernel
theorem d_E_init_146 : decode b_E_init 146 = .ok (.iinc 1 1, 3) := by decide +kernel
theorem d_E_init_149 : decode b_E_init 149 = .ok (.goto (-22), 3) := by decide +kernel
theorem d_E_init_152 : decode b_E_init 152 = .ok (.iconst 0, 1) := by decide +kernel
theorem d_E_init_153 : decode b_E_init 153 = .ok (.istore_n 1, 1) := by decide +kernel
theorem d_E_init_154 : decode b_E_init 154 = .ok (.iload_n 1, 1) := by decide +kernel
theorem d_E_init_155 : decode b_E_init 155 = .ok (.bipush 6, 2) := by decide +kernel
theorem d_E_init_157 : decode b_E_init 157 = .ok (.if_icmp .ge 22, 3) := by decide +kernel
theorem d_E_init_160 : decode b_E_init 160 = .ok (.aload_n 0, 1) := by decide +kernel
theorem d_E_init_161 : decode b_E_init 161 = .ok (.getfield 21, 3) := by decide +kernel
theorem d_E_init_164 : decode b_E_init 164 = .ok (.iload_n 1, 1) := by decide +kernel
theorem d_E_init_165 : decode b_E_init 165 = .ok (.new 19, 3) := by decide +kernel
theorem d_E_init_168 : decode b_E_init 168 = .ok (.dup, 1) := by decide +kernel
theorem d_E_init_169 : decode b_E_init 169 = .ok (.invokespecial 63, 3) := by decide +kernel
theorem d_E_init_172 : decode b_E_init 172 = .ok (.aastore, 1) := by decide +kernel
theorem d_E_init_173 : decode b_E_init 173 = .ok (.iinc 1 1, 3) := by decide +kernel
theorem d_E_init_176 : decode b_E_init 176 = .ok (.goto (-22), 3) := by decide +kernel
theorem d_E_init_179 : decode b_E_init 179 = .ok (.iconst 0, 1) := by decide +kernel
theorem d_E_init_180 : decode b_E_init 180 = .ok (.istore_n 1, 1) := by decide +kernel
theorem d_E_init_181 : decode b_E_init 181 = .ok (.iload_n 1, 1) := by decide +kernel
theorem d_E_init_182 : decode b_E_init 182 = .ok (.iconst 3, 1) := by decide +kernel
theorem d_E_init_183 : decode b_E_init 183 = .ok (.if_icmp .ge 22, 3) := by decide +kernel
theorem d_E_init_186 : decode b_E_init 186 = .ok (.aload_n 0, 1) := by decide +kernel
theorem d_E_init_187 : decode b_E_init 187 = .ok (.getfield 27, 3) := by decide +kernel
theorem d_E_init_190 : decode b_E_init 190 = .ok (.iload_n 1, 1) := by decide +kernel
theorem d_E_init_191 : decode b_E_init 191 = .ok (.new 25, 3) := by decide +kernel
theorem d_E_init_194 : decode b_E_init 194 = .ok (.dup, 1) := by decide +kernel
theorem d_E_init_195 : decode b_E_init 195 = .ok (.invokespecial 31, 3) := by decide +kernel
theorem d_E_init_198 : decode b_E_init 198 = .ok (.aastore, 1) := by decide +kernel
theorem d_E_init_199 : decode b_E_init 199 = .ok (.iinc 1 1, 3) := by decide +kernel
theorem d_E_init_202 : decode b_E_init 202 = .ok (.goto (-21), 3) := by decide +kernel
theorem d_E_init_205 : decode b_E_init 205 = .ok (.aload_n 0, 1) := by decide +kernel
theorem d_E_init_206 : decode b_E_init 206 = .ok (.getfield 32, 3) := by decide +kernel
theorem d_E_init_209 : decode b_E_init 209 = .ok (.iconst 1, 1) := by decide +kernel
theorem d_E_init_210 : decode b_E_init 210 = .ok (.iconst 0, 1) := by decide +kernel
theorem d_E_init_211 : decode b_E_init 211 = .ok (.iconst 0, 1) := by decide +kernel
theorem d_E_init_212 : decode b_E_init 212 = .ok (.iconst 1, 1) := by decide +kernel
theorem d_E_init_213 : decode b_E_init 213 = .ok (.invokevirtual 64, 3) := by decide +kernel
theorem d_E_init_216 : decode b_E_init 216 = .ok (.aload_n 0, 1) := by decide +kernel
theorem d_E_init_217 : decode b_E_init 217 = .ok (.getfield 32, 3) := by decide +kernel
theorem d_E_init_220 : decode b_E_init 220 = .ok (.iconst 1, 1) := by decide +kernel
theorem d_E_init_221 : decode b_E_init 221 = .ok (.iconst 0, 1) := by decide +kernel
theorem d_E_init_222 : decode b_E_init 222 = .ok (.iconst 1, 1) := by decide +kernel
theorem d_E_init_223 : decode b_E_init 223 = .ok (.invokevirtual 68, 3) := by decide +kernel
theorem d_E_init_226 : decode b_E_init 226 = .ok (.aload_n 0, 1) := by decide +kernel
theorem d_E_init_227 : decode b_E_init 227 = .ok (.getfield 11, 3) := by decide +kernel
theorem d_E_init_230 : decode b_E_init 230 = .ok (.iconst 0, 1) := by decide +kernel
theorem d_E_init_231 : decode b_E_init 231 = .ok (.aaload, 1) := by decide +kernel
theorem d_E_init_232 : decode b_E_init 232 = .ok (.iconst 0, 1) := by decide +kernel
theorem d_E_init_233 : decode b_E_init 233 = .ok (.iconst 0, 1) := by decide +kernel
theorem d_E_init_234 : decode b_E_init 234 = .ok (.iconst 1, 1) := by decide +kernel
theorem d_E_init_235 : decode b_E_init 235 = .ok (.iconst 0, 1) := by decide +kernel
theorem d_E_init_236 : decode b_E_init 236 = .ok (.iconst 1, 1) := by decide +kernel
theorem d_E_init_237 : decode b_E_init 237 = .ok (.invokevirtual 72, 3) := by decide +kernel
theorem d_E_init_240 : decode b_E_init 240 = .ok (.return_, 1) := by decide +kernel
theorem d_E_initial_0 : decode b_E_initial 0 = .ok (.iload_n 1, 1) := by decide +kernel
theorem d_E_initial_1 : decode b_E_initial 1 = .ok (.bipush 99, 2) := by decide +kernel
theorem d_E_initial_3 : decode b_E_initial 3 = .ok (.invokestatic 76, 3) := by decide +kernel
theorem d_E_initial_6 : decode b_E_initial 6 = .ok (.ifCond .eq 23, 3) := by decide +kernel
theorem d_E_initial_9 : decode b_E_initial 9 = .ok (.iload_n 2, 1) := by decide +kernel
theorem d_E_initial_10 : decode b_E_initial 10 = .ok (.bipush 99, 2) := by decide +kernel
theorem d_E_initial_12 : decode b_E_initial 12 = .ok (.invokestatic 76, 3) := by decide +kernel
theorem d_E_initial_15 : decode b_E_initial 15 = .ok (.ifCond .eq 14, 3) := by decide +kernel
theorem d_E_initial_18 : decode b_E_initial 18 = .ok (.iload_n 3, 1) := by decide +kernel
theorem d_E_initial_19 : decode b_E_initial 19 = .ok (.iload 4, 2) := by decide +kernel
theorem d_E_initial_21 : decode b_E_initial 21 = .ok (.iload 5, 2) := by decide +kernel
theorem d_E_initial_23 : decode b_E_initial 23 = .ok (.invokestatic 80, 3) := by decide +kernel
theorem d_E_initial_26 : decode b_E_initial 26 = .ok (.ifCond .ne 6, 3) := by decide +kernel
theorem d_E_initial_29 : decode b_E_initial 29 = .ok (.bipush (-3), 2) := by decide +kernel
theorem d_E_initial_31 : decode b_E_initial 31 = .ok (.ireturn, 1) := by decide +kernel
theorem d_E_initial_32 : decode b_E_initial 32 = .ok (.iload_n 3, 1) := by decide +kernel
theorem d_E_initial_33 : decode b_E_initial 33 = .ok (.iload 4, 2) := by decide +kernel
theorem d_E_initial_35 : decode b_E_initial 35 = .ok (.iload 5, 2) := by decide +kernel
theorem d_E_initial_37 : decode b_E_initial 37 = .ok (.invokestatic 84, 3) := by decide +kernel
theorem d_E_initial_40 : decode b_E_initial 40 = .ok (.ifCond .ne 6, 3) := by decide +kernel
theorem d_E_initial_43 : decode b_E_initial 43 = .ok (.bipush (-4), 2) := by decide +kernel
theorem d_E_initial_45 : decode b_E_initial 45 = .ok (.ireturn, 1) := by decide +kernel
theorem d_E_initial_46 : decode b_E_initial 46 = .ok (.aload_n 0, 1) := by decide +kernel
theorem d_E_initial_47 : decode b_E_initial 47 = .ok (.iconst 0, 1) := by decide +kernel
theorem d_E_initial_48 : decode b_E_initial 48 = .ok (.putfield 87, 3) := by decide +kernel
theorem d_E_initial_51 : decode b_E_initial 51 = .ok (.aload_n 0, 1) := by decide +kernel
theorem d_E_initial_52 : decode b_E_initial 52 = .ok (.iconst 0, 1) := by decide +kernel
theorem d_E_initial_53 : decode b_E_initial 53 = .ok (.putfield 91, 3) := by decide +kernel
theorem d_E_initial_56 : decode b_E_initial 56 = .ok (.aload_n 0, 1) := by decide +kernel
theorem d_E_initial_57 : decode b_E_initial 57 = .ok (.getfield 11, 3) := by decide +kernel
theorem d_E_initial_60 : decode b_E_initial 60 = .ok (.iconst 0, 1) := by decide +kernel
theorem d_E_initial_61 : decode b_E_initial 61 = .ok (.aaload, 1) := by decide +kernel
theorem d_E_initial_62 : decode b_E_initial 62 = .ok (.iload_n 1, 1) := by decide +kernel
theorem d_E_initial_63 : decode b_E_initial 63 = .ok (.iload_n 2, 1) := by decide +kernel
theorem d_E_initial_64 : decode b_E_initial 64 = .ok (.iload_n 3, 1) := by decide +kernel
theorem d_E_initial_65 : decode b_E_initial 65 = .ok (.iload 4, 2) := by decide +kernel
theorem d_E_initial_67 : decode b_E_initial 67 = .ok (.iload 5, 2) := by decide +kernel
theorem d_E_initial_69 : decode b_E_initial 69 = .ok (.invokevirtual 72, 3) := by decide +kernel
theorem d_E_initial_72 : decode b_E_initial 72 = .ok (.iconst 0, 1) := by decide +kernel
theorem d_E_initial_73 : decode b_E_initial 73 = .ok (.ireturn, 1) := by decide +kernel
theorem d_E_step_0 : decode b_E_step 0 = .ok (.iload_n 1, 1) := by decide +kernel
theorem d_E_step_1 : decode b_E_step 1 = .ok (.iconst 3, 1) := by decide +kernel
theorem d_E_step_2 : decode b_E_step 2 = .ok (.invokestatic 76, 3) := by decide +kernel
theorem d_E_step_5 : decode b_E_step 5 = .ok (.ifCond .eq 28, 3) := by decide +kernel
theorem d_E_step_8 : decode b_E_step 8 = .ok (.iload_n 2, 1) := by decide +kernel
theorem d_E_step_9 : decode b_E_step 9 = .ok (.iconst 3, 1) := by decide +kernel
theorem d_E_step_10 : decode b_E_step 10 = .ok (.invokestatic 76, 3) := by decide +kernel
theorem d_E_step_13 : decode b_E_step 13 = .ok (.ifCond .eq 20, 3) := by decide +kernel
theorem d_E_step_16 : decode b_E_step 16 = .ok (.iload_n 3, 1) := by decide +kernel
theorem d_E_step_17 : decode b_E_step 17 = .ok (.iconst 3, 1) := by decide +kernel
theorem d_E_step_18 : decode b_E_step 18 = .ok (.invokestatic 76, 3) := by decide +kernel
theorem d_E_step_21 : decode b_E_step 21 = .ok (.ifCond .eq 12, 3) := by decide +kernel
theorem d_E_step_24 : decode b_E_step 24 = .ok (.iload 4, 2) := by decide +kernel
theorem d_E_step_26 : decode b_E_step 26 = .ok (.iconst 3, 1) := by decide +kernel
theorem d_E_step_27 : decode b_E_step 27 = .ok (.invokestatic 76, 3) := by decide +kernel
theorem d_E_step_30 : decode b_E_step 30 = .ok (.ifCond .ne 5, 3) := by decide +kernel
theorem d_E_step_33 : decode b_E_step 33 = .ok (.iconst 0, 1) := by decide +kernel
theorem d_E_step_34 : decode b_E_step 34 = .ok (.ireturn, 1) := by decide +kernel
theorem d_E_step_35 : decode b_E_step 35 = .ok (.aload_n 0, 1) := by decide +kernel
theorem d_E_step_36 : decode b_E_step 36 = .ok (.getfield 32, 3) := by decide +kernel
theorem d_E_step_39 : decode b_E_step 39 = .ok (.iload_n 1, 1) := by decide +kernel
theorem d_E_step_40 : decode b_E_step 40 = .ok (.iload_n 2, 1) := by decide +kernel
theorem d_E_step_41 : decode b_E_step 41 = .ok (.iload_n 3, 1) := by decide +kernel
theorem d_E_step_42 : decode b_E_step 42 = .ok (.iload 4, 2) := by decide +kernel
theorem d_E_step_44 : decode b_E_step 44 = .ok (.invokevirtual 64, 3) := by decide +kernel
theorem d_E_step_47 : decode b_E_step 47 = .ok (.iconst 1, 1) := by decide +kernel
theorem d_E_step_48 : decode b_E_step 48 = .ok (.ireturn, 1) := by decide +kernel
theorem d_E_noise_0 : decode b_E_noise 0 = .ok (.iload_n 1, 1) := by decide +kernel
theorem d_E_noise_1 : decode b_E_noise 1 = .ok (.iload_n 2, 1) := by decide +kernel
theorem d_E_noise_2 : decode b_E_noise 2 = .ok (.iload_n 3, 1) := by decide +kernel
theorem d_E_noise_3 : decode b_E_noise 3 = .ok (.invokestatic 80, 3) := by decide +kernel
theorem d_E_noise_6 : decode b_E_noise 6 = .ok (.ifCond .ne 6, 3) := by decide +kernel
theorem d_E_noise_9 : decode b_E_noise 9 = .ok (.bipush (-3), 2) := by decide +kernel
theorem d_E_noise_11 : decode b_E_noise 11 = .ok (.ireturn, 1) := by decide +kernel
theorem d_E_noise_12 : decode b_E_noise 12 = .ok (.iload_n 1, 1) := by decide +kernel
theorem d_E_noise_13 : decode b_E_noise 13 = .ok (.iload_n 2, 1) := by decide +kernel
theorem d_E_noise_14 : decode b_E_noise 14 = .ok (.iload_n 3, 1) := by decide +kernel
theorem d_E_noise_15 : decode b_E_noise 15 = .ok (.invokestatic 84, 3) := by decide +kernel
theorem d_E_noise_18 : decode b_E_noise 18 = .ok (.ifCond .ne 6, 3) := by decide +kernel
theorem d_E_noise_21 : decode b_E_noise 21 = .ok (.bipush (-4), 2) := by decide +kernel
theorem d_E_noise_23 : decode b_E_noise 23 = .ok (.ireturn, 1) := by decide +kernel
theorem d_E_noise_24 : decode b_E_noise 24 = .ok (.aload_n 0, 1) := by decide +kernel
theorem d_E_noise_25 : decode b_E_noise 25 = .ok (.getfield 32, 3) := by decide +kernel
theorem d_E_noise_28 : decode b_E_noise 28 = .ok (.iload_n 1, 1) := by decide +kernel
theorem d_E_noise_29 : decode b_E_noise 29 = .ok (.iload_n 2, 1) := by decide +kernel
theorem d_E_noise_30 : decode b_E_noise 30 = .ok (.iload_n 3, 1) := by decide +kernel
theorem d_E_noise_31 : decode b_E_noise 31 = .ok (.invokevirtual 68, 3) := by decide +kernel
theorem d_E_noise_34 : decode b_E_noise 34 = .ok (.iconst 0, 1) := by decide +kernel
theorem d_E_noise_35 : decode b_E_noise 35 = .ok (.ireturn, 1) := by decide +kernel
theorem d_E_observe_0 : decode b_E_observe 0 = .ok (.iload_n 1, 1) := by decide +kernel
theorem d_E_observe_1 : decode b_E_observe 1 = .ok (.bipush 9, 2) := by decide +kernel
theorem d_E_observe_3 : decode b_E_observe 3 = .ok (.invokestatic 76, 3) := by decide +kernel
theorem d_E_observe_6 : decode b_E_observe 6 = .ok (.ifCond .eq 34, 3) := by decide +kernel
theorem d_E_observe_9 : decode b_E_observe 9 = .ok (.iload_n 2, 1) := by decide +kernel
theorem d_E_observe_10 : decode b_E_observe 10 = .ok (.bipush 9, 2) := by decide +kernel
theorem d_E_observe_12 : decode b_E_observe 12 = .ok (.invokestatic 76, 3) := by decide +kernel
theorem d_E_observe_15 : decode b_E_observe 15 = .ok (.ifCond .eq 25, 3) := by decide +kernel
theorem d_E_observe_18 : decode b_E_observe 18 = .ok (.iload_n 3, 1) := by decide +kernel
theorem d_E_observe_19 : decode b_E_observe 19 = .ok (.iconst 1, 1) := by decide +kernel
theorem d_E_observe_20 : decode b_E_observe 20 = .ok (.if_icmp .lt 20, 3) := by decide +kernel
theorem d_E_observe_23 : decode b_E_observe 23 = .ok (.iload_n 3, 1) := by decide +kernel
theorem d_E_observe_24 : decode b_E_observe 24 = .ok (.bipush 99, 2) := by decide +kernel
theorem d_E_observe_26 : decode b_E_observe 26 = .ok (.if_icmp .gt 14, 3) := by decide +kernel
theorem d_E_observe_29 : decode b_E_observe 29 = .ok (.iload 4, 2) := by decide +kernel
theorem d_E_observe_31 : decode b_E_observe 31 = .ok (.sipush 999, 3) := by decide +kernel
theorem d_E_observe_34 : decode b_E_observe 34 = .ok (.invokestatic 76, 3) := by decide +kernel
theorem d_E_observe_37 : decode b_E_observe 37 = .ok (.ifCond .ne 6, 3) := by decide +kernel
theorem d_E_observe_40 : decode b_E_observe 40 = .ok (.bipush (-3), 2) := by decide +kernel
theorem d_E_observe_42 : decode b_E_observe 42 = .ok (.ireturn, 1) := by decide +kernel
theorem d_E_observe_43 : decode b_E_observe 43 = .ok (.aload_n 0, 1) := by decide +kernel
theorem d_E_observe_44 : decode b_E_observe 44 = .ok (.getfield 91, 3) := by decide +kernel
theorem d_E_observe_47 : decode b_E_observe 47 = .ok (.bipush 6, 2) := by decide +kernel
theorem d_E_observe_49 : decode b_E_observe 49 = .ok (.if_icmp .lt 6, 3) := by decide +kernel
theorem d_E_observe_52 : decode b_E_observe 52 = .ok (.bipush (-5), 2) := by decide +kernel
theorem d_E_observe_54 : decode b_E_observe 54 = .ok (.ireturn, 1) := by decide +kernel
theorem d_E_observe_55 : decode b_E_observe 55 = .ok (.aload_n 0, 1) := by decide +kernel
theorem d_E_observe_56 : decode b_E_observe 56 = .ok (.invokevirtual 94, 3) := by decide +kernel
theorem d_E_observe_59 : decode b_E_observe 59 = .ok (.istore 5, 2) := by decide +kernel
theorem d_E_observe_61 : decode b_E_observe 61 = .ok (.aload_n 0, 1) := by decide +kernel
theorem d_E_observe_62 : decode b_E_observe 62 = .ok (.getfield 21, 3) := by decide +kernel
theorem d_E_observe_65 : decode b_E_observe 65 = .ok (.aload_n 0, 1) := by decide +kernel
theorem d_E_observe_66 : decode b_E_observe 66 = .ok (.getfield 91, 3) := by decide +kernel
theorem d_E_observe_69 : decode b_E_observe 69 = .ok (.aaload, 1) := by decide +kernel
theorem d_E_observe_70 : decode b_E_observe 70 = .ok (.astore 6, 2) := by decide +kernel
theorem d_E_observe_72 : decode b_E_observe 72 = .ok (.aload 6, 2) := by decide +kernel
theorem d_E_observe_74 : decode b_E_observe 74 = .ok (.iload_n 1, 1) := by decide +kernel
theorem d_E_observe_75 : decode b_E_observe 75 = .ok (.iload_n 2, 1) := by decide +kernel
theorem d_E_observe_76 : decode b_E_observe 76 = .ok (.iload_n 3, 1) := by decide +kernel
theorem d_E_observe_77 : decode b_E_observe 77 = .ok (.iload 4, 2) := by decide +kernel
theorem d_E_observe_79 : decode b_E_observe 79 = .ok (.invokevirtual 98, 3) := by decide +kernel
theorem d_E_observe_82 : decode b_E_observe 82 = .ok (.aload 6, 2) := by decide +kernel
theorem d_E_observe_84 : decode b_E_observe 84 = .ok (.aload_n 0, 1) := by decide +kernel
theorem d_E_observe_85 : decode b_E_observe 85 = .ok (.getfield 87, 3) := by decide +kernel
theorem d_E_observe_88 : decode b_E_observe 88 = .ok (.iload 5, 2) := by decide +kernel
theorem d_E_observe_90 : decode b_E_observe 90 = .ok (.invokevirtual 101, 3) := by decide +kernel
theorem d_E_observe_93 : decode b_E_observe 93 = .ok (.aload_n 0, 1) := by decide +kernel
theorem d_E_observe_94 : decode b_E_observe 94 = .ok (.getfield 11, 3) := by decide +kernel
theorem d_E_observe_97 : decode b_E_observe 97 = .ok (.iload 5, 2) := by decide +kernel
theorem d_E_observe_99 : decode b_E_observe 99 = .ok (.iconst 1, 1) := by decide +kernel
theorem d_E_observe_100 : decode b_E_observe 100 = .ok (.iadd, 1) := by decide +kernel
theorem d_E_observe_101 : decode b_E_observe 101 = .ok (.aaload, 1) := by decide +kernel
theorem d_E_observe_102 : decode b_E_observe 102 = .ok (.aload_n 0, 1) := by decide +kernel
theorem d_E_observe_103 : decode b_E_observe 103 = .ok (.getfield 11, 3) := by decide +kernel
theorem d_E_observe_106 : decode b_E_observe 106 = .ok (.iload 5, 2) := by decide +kernel
theorem d_E_observe_108 : decode b_E_observe 108 = .ok (.aaload, 1) := by decide +kernel
theorem d_E_observe_109 : decode b_E_observe 109 = .ok (.invokevirtual 105, 3) := by decide +kernel
theorem d_E_observe_112 : decode b_E_observe 112 = .ok (.aload_n 0, 1) := by decide +kernel
theorem d_E_observe_113 : decode b_E_observe 113 = .ok (.getfield 11, 3) := by decide +kernel
theorem d_E_observe_116 : decode b_E_observe 116 = .ok (.iload 5, 2) := by decide +kernel
theorem d_E_observe_118 : decode b_E_observe 118 = .ok (.iconst 1, 1) := by decide +kernel
theorem d_E_observe_119 : decode b_E_observe 119 = .ok (.iadd, 1) := by decide +kernel
theorem d_E_observe_120 : decode b_E_observe 120 = .ok (.aaload, 1) := by decide +kernel
theorem d_E_observe_121 : decode b_E_observe 121 = .ok (.aload 6, 2) := by decide +kernel
theorem d_E_observe_123 : decode b_E_observe 123 = .ok (.invokevirtual 109, 3) := by decide +kernel
theorem d_E_observe_126 : decode b_E_observe 126 = .ok (.aload_n 0, 1) := by decide +kernel
theorem d_E_observe_127 : decode b_E_observe 127 = .ok (.dup, 1) := by decide +kernel
theorem d_E_observe_128 : decode b_E_observe 128 = .ok (.getfield 91, 3) := by decide +kernel
theorem d_E_observe_131 : decode b_E_observe 131 = .ok (.iconst 1, 1) := by decide +kernel
theorem d_E_observe_132 : decode b_E_observe 132 = .ok (.iadd, 1) := by decide +kernel
theorem d_E_observe_133 : decode b_E_observe 133 = .ok (.putfield 91, 3) := by decide +kernel
theorem d_E_observe_136 : decode b_E_observe 136 = .ok (.aload_n 0, 1) := by decide +kernel
theorem d_E_observe_137 : decode b_E_observe 137 = .ok (.getfield 91, 3) := by decide +kernel
theorem d_E_observe_140 : decode b_E_observe 140 = .ok (.iconst 1, 1) := by decide +kernel
theorem d_E_observe_141 : decode b_E_observe 141 = .ok (.isub, 1) := by decide +kernel
theorem d_E_observe_142 : decode b_E_observe 142 = .ok (.ireturn, 1) := by decide +kernel
theorem d_E_advance_0 : decode b_E_advance 0 = .ok (.aload_n 0, 1) := by decide +kernel
theorem d_E_advance_1 : decode b_E_advance 1 = .ok (.getfield 87, 3) := by decide +kernel
theorem d_E_advance_4 : decode b_E_advance 4 = .ok (.iconst 3, 1) := by decide +kernel
theorem d_E_advance_5 : decode b_E_advance 5 = .ok (.if_icmp .lt 6, 3) := by decide +kernel
theorem d_E_advance_8 : decode b_E_advance 8 = .ok (.bipush (-5), 2) := by decide +kernel
theorem d_E_advance_10 : decode b_E_advance 10 = .ok (.ireturn, 1) := by decide +kernel
theorem d_E_advance_11 : decode b_E_advance 11 = .ok (.aload_n 0, 1) := by decide +kernel
theorem d_E_advance_12 : decode b_E_advance 12 = .ok (.invokevirtual 94, 3) := by decide +kernel
theorem d_E_advance_15 : decode b_E_advance 15 = .ok (.istore_n 1, 1) := by decide +kernel
theorem d_E_advance_16 : decode b_E_advance 16 = .ok (.aload_n 0, 1) := by decide +kernel
theorem d_E_advance_17 : decode b_E_advance 17 = .ok (.getfield 27, 3) := by decide +kernel
theorem d_E_advance_20 : decode b_E_advance 20 = .ok (.aload_n 0, 1) := by decide +kernel
theorem d_E_advance_21 : decode b_E_advance 21 = .ok (.getfield 87, 3) := by decide +kernel
theorem d_E_advance_24 : decode b_E_advance 24 = .ok (.aaload, 1) := by decide +kernel
theorem d_E_advance_25 : decode b_E_advance 25 = .ok (.astore_n 2, 1) := by decide +kernel
theorem d_E_advance_26 : decode b_E_advance 26 = .ok (.aload_n 2, 1) := by decide +kernel
theorem d_E_advance_27 : decode b_E_advance 27 = .ok (.aload_n 0, 1) := by decide +kernel
theorem d_E_advance_28 : decode b_E_advance 28 = .ok (.getfield 32, 3) := by decide +kernel
theorem d_E_advance_31 : decode b_E_advance 31 = .ok (.invokevirtual 113, 3) := by decide +kernel
theorem d_E_advance_34 : decode b_E_advance 34 = .ok (.aload_n 0, 1) := by decide +kernel
theorem d_E_advance_35 : decode b_E_advance 35 = .ok (.getfield 11, 3) := by decide +kernel
theorem d_E_advance_38 : decode b_E_advance 38 = .ok (.iload_n 1, 1) := by decide +kernel
theorem d_E_advance_39 : decode b_E_advance 39 = .ok (.iconst 1, 1) := by decide +kernel
theorem d_E_advance_40 : decode b_E_advance 40 = .ok (.iadd, 1) := by decide +kernel
theorem d_E_advance_41 : decode b_E_advance 41 = .ok (.aaload, 1) := by decide +kernel
theorem d_E_advance_42 : decode b_E_advance 42 = .ok (.aload_n 0, 1) := by decide +kernel
theorem d_E_advance_43 : decode b_E_advance 43 = .ok (.getfield 11, 3) := by decide +kernel
theorem d_E_advance_46 : decode b_E_advance 46 = .ok (.iload_n 1, 1) := by decide +kernel
theorem d_E_advance_47 : decode b_E_advance 47 = .ok (.aaload, 1) := by decide +kernel
theorem d_E_advance_48 : decode b_E_advance 48 = .ok (.aload_n 2, 1) := by decide +kernel
theorem d_E_advance_49 : decode b_E_advance 49 = .ok (.invokevirtual 116, 3) := by decide +kernel
theorem d_E_advance_52 : decode b_E_advance 52 = .ok (.aload_n 0, 1) := by decide +kernel
theorem d_E_advance_53 : decode b_E_advance 53 = .ok (.getfield 11, 3) := by decide +kernel
theorem d_E_advance_56 : decode b_E_advance 56 = .ok (.iload_n 1, 1) := by decide +kernel
theorem d_E_advance_57 : decode b_E_advance 57 = .ok (.iconst 1, 1) := by decide +kernel
theorem d_E_advance_58 : decode b_E_advance 58 = .ok (.iadd, 1) := by decide +kernel
theorem d_E_advance_59 : decode b_E_advance 59 = .ok (.aaload, 1) := by decide +kernel
theorem d_E_advance_60 : decode b_E_advance 60 = .ok (.aload_n 2, 1) := by decide +kernel
theorem d_E_advance_61 : decode b_E_advance 61 = .ok (.invokevirtual 120, 3) := by decide +kernel
theorem d_E_advance_64 : decode b_E_advance 64 = .ok (.aload_n 0, 1) := by decide +kernel
theorem d_E_advance_65 : decode b_E_advance 65 = .ok (.dup, 1) := by decide +kernel
theorem d_E_advance_66 : decode b_E_advance 66 = .ok (.getfield 87, 3) := by decide +kernel
theorem d_E_advance_69 : decode b_E_advance 69 = .ok (.iconst 1, 1) := by decide +kernel
theorem d_E_advance_70 : decode b_E_advance 70 = .ok (.iadd, 1) := by decide +kernel
theorem d_E_advance_71 : decode b_E_advance 71 = .ok (.putfield 87, 3) := by decide +kernel
theorem d_E_advance_74 : decode b_E_advance 74 = .ok (.aload_n 0, 1) := by decide +kernel
theorem d_E_advance_75 : decode b_E_advance 75 = .ok (.getfield 15, 3) := by decide +kernel
theorem d_E_advance_78 : decode b_E_advance 78 = .ok (.aload_n 0, 1) := by decide +kernel
theorem d_E_advance_79 : decode b_E_advance 79 = .ok (.getfield 87, 3) := by decide +kernel
theorem d_E_advance_82 : decode b_E_advance 82 = .ok (.iload_n 1, 1) := by decide +kernel
theorem d_E_advance_83 : decode b_E_advance 83 = .ok (.iconst 1, 1) := by decide +kernel
theorem d_E_advance_84 : decode b_E_advance 84 = .ok (.iadd, 1) := by decide +kernel
theorem d_E_advance_85 : decode b_E_advance 85 = .ok (.iastore, 1) := by decide +kernel
theorem d_E_advance_86 : decode b_E_advance 86 = .ok (.aload_n 0, 1) := by decide +kernel
theorem d_E_advance_87 : decode b_E_advance 87 = .ok (.getfield 87, 3) := by decide +kernel
theorem d_E_advance_90 : decode b_E_advance 90 = .ok (.ireturn, 1) := by decide +kernel
theorem d_E_time_0 : decode b_E_time 0 = .ok (.aload_n 0, 1) := by decide +kernel
theorem d_E_time_1 : decode b_E_time 1 = .ok (.getfield 87, 3) := by decide +kernel
theorem d_E_time_4 : decode b_E_time 4 = .ok (.ireturn, 1) := by decide +kernel
theorem d_E_observations_0 : decode b_E_observations 0 = .ok (.aload_n 0, 1) := by decide +kernel
theorem d_E_observations_1 : decode b_E_observations 1 = .ok (.getfield 91, 3) := by decide +kernel
theorem d_E_observations_4 : decode b_E_observations 4 = .ok (.ireturn, 1) := by decide +kernel
theorem d_E_sign_0 : decode b_E_sign 0 = .ok (.aload_n 0, 1) := by decide +kernel
theorem d_E_sign_1 : decode b_E_sign 1 = .ok (.iload_n 1, 1) := by decide +kernel
theorem d_E_sign_2 : decode b_E_sign 2 = .ok (.iload_n 2, 1) := by decide +kernel
theorem d_E_sign_3 : decode b_E_sign 3 = .ok (.iload_n 3, 1) := by decide +kernel
theorem d_E_sign_4 : decode b_E_sign 4 = .ok (.invokevirtual 123, 3) := by decide +kernel
theorem d_E_sign_7 : decode b_E_sign 7 = .ok (.ifCond .eq 13, 3) := by decide +kernel
theorem d_E_sign_10 : decode b_E_sign 10 = .ok (.aload_n 0, 1) := by decide +kernel
theorem d_E_sign_11 : decode b_E_sign 11 = .ok (.getfield 50, 3) := by decide +kernel
theorem d_E_sign_14 : decode b_E_sign 14 = .ok (.invokevirtual 126, 3) := by decide +kernel
theorem d_E_sign_17 : decode b_E_sign 17 = .ok (.goto 5, 3) := by decide +kernel
theorem d_E_sign_20 : decode b_E_sign 20 = .ok (.bipush (-2), 2) := by decide +kernel
theorem d_E_sign_22 : decode b_E_sign 22 = .ok (.ireturn, 1) := by decide +kernel
theorem d_E_bits_0 : decode b_E_bits 0 = .ok (.aload_n 0, 1) := by decide +kernel
theorem d_E_bits_1 : decode b_E_bits 1 = .ok (.iload_n 1, 1) := by decide +kernel
theorem d_E_bits_2 : decode b_E_bits 2 = .ok (.iload_n 2, 1) := by decide +kernel
theorem d_E_bits_3 : decode b_E_bits 3 = .ok (.iload_n 3, 1) := by decide +kernel
theorem d_E_bits_4 : decode b_E_bits 4 = .ok (.invokevirtual 123, 3) := by decide +kernel
theorem d_E_bits_7 : decode b_E_bits 7 = .ok (.ifCond .ne 6, 3) := by decide +kernel
theorem d_E_bits_10 : decode b_E_bits 10 = .ok (.bipush (-2), 2) := by decide +kernel
theorem d_E_bits_12 : decode b_E_bits 12 = .ok (.ireturn, 1) := by decide +kernel
theorem d_E_bits_13 : decode b_E_bits 13 = .ok (.aload_n 0, 1) := by decide +kernel
theorem d_E_bits_14 : decode b_E_bits 14 = .ok (.invokevirtual 129, 3) := by decide +kernel
theorem d_E_bits_17 : decode b_E_bits 17 = .ok (.iload 4, 2) := by decide +kernel
theorem d_E_bits_19 : decode b_E_bits 19 = .ok (.ifCond .eq 13, 3) := by decide +kernel
theorem d_E_bits_22 : decode b_E_bits 22 = .ok (.aload_n 0, 1) := by decide +kernel
theorem d_E_bits_23 : decode b_E_bits 23 = .ok (.getfield 54, 3) := by decide +kernel
theorem d_E_bits_26 : decode b_E_bits 26 = .ok (.invokevirtual 132, 3) := by decide +kernel
theorem d_E_bits_29 : decode b_E_bits 29 = .ok (.goto 10, 3) := by decide +kernel
theorem d_E_bits_32 : decode b_E_bits 32 = .ok (.aload_n 0, 1) := by decide +kernel
theorem d_E_bits_33 : decode b_E_bits 33 = .ok (.getfield 50, 3) := by decide +kernel
theorem d_E_bits_36 : decode b_E_bits 36 = .ok (.invokevirtual 132, 3) := by decide +kernel
theorem d_E_bits_39 : decode b_E_bits 39 = .ok (.ireturn, 1) := by decide +kernel
theorem d_E_word_0 : decode b_E_word 0 = .ok (.aload_n 0, 1) := by decide +kernel
theorem d_E_word_1 : decode b_E_word 1 = .ok (.iload_n 1, 1) := by decide +kernel
theorem d_E_word_2 : decode b_E_word 2 = .ok (.iload_n 2, 1) := by decide +kernel
theorem d_E_word_3 : decode b_E_word 3 = .ok (.iload_n 3, 1) := by decide +kernel
theorem d_E_word_4 : decode b_E_word 4 = .ok (.invokevirtual 123, 3) := by decide +kernel
theorem d_E_word_7 : decode b_E_word 7 = .ok (.ifCond .ne 7, 3) := by decide +kernel
theorem d_E_word_10 : decode b_E_word 10 = .ok (.ldc2_w 135, 3) := by decide +kernel
theorem d_E_word_13 : decode b_E_word 13 = .ok (.lreturn, 1) := by decide +kernel
theorem d_E_word_14 : decode b_E_word 14 = .ok (.iload 5, 2) := by decide +kernel
theorem d_E_word_16 : decode b_E_word 16 = .ok (.ifCond .lt 10, 3) := by decide +kernel
theorem d_E_word_19 : decode b_E_word 19 = .ok (.iload 5, 2) := by decide +kernel
theorem d_E_word_21 : decode b_E_word 21 = .ok (.bipush 31, 2) := by decide +kernel
theorem d_E_word_23 : decode b_E_word 23 = .ok (.if_icmp .le 7, 3) := by decide +kernel
theorem d_E_word_26 : decode b_E_word 26 = .ok (.ldc2_w 137, 3) := by decide +kernel
theorem d_E_word_29 : decode b_E_word 29 = .ok (.lreturn, 1) := by decide +kernel
theorem d_E_word_30 : decode b_E_word 30 = .ok (.aload_n 0, 1) := by decide +kernel
theorem d_E_word_31 : decode b_E_word 31 = .ok (.invokevirtual 129, 3) := by decide +kernel
theorem d_E_word_34 : decode b_E_word 34 = .ok (.iload 4, 2) := by decide +kernel
theorem d_E_word_36 : decode b_E_word 36 = .ok (.ifCond .eq 15, 3) := by decide +kernel
theorem d_E_word_39 : decode b_E_word 39 = .ok (.aload_n 0, 1) := by decide +kernel
theorem d_E_word_40 : decode b_E_word 40 = .ok (.getfield 54, 3) := by decide +kernel
theorem d_E_word_43 : decode b_E_word 43 = .ok (.iload 5, 2) := by decide +kernel
theorem d_E_word_45 : decode b_E_word 45 = .ok (.invokevirtual 139, 3) := by decide +kernel
theorem d_E_word_48 : decode b_E_word 48 = .ok (.goto 12, 3) := by decide +kernel
theorem d_E_word_51 : decode b_E_word 51 = .ok (.aload_n 0, 1) := by decide +kernel
theorem d_E_word_52 : decode b_E_word 52 = .ok (.getfield 50, 3) := by decide +kernel
theorem d_E_word_55 : decode b_E_word 55 = .ok (.iload 5, 2) := by decide +kernel
theorem d_E_word_57 : decode b_E_word 57 = .ok (.invokevirtual 139, 3) := by decide +kernel
theorem d_E_word_60 : decode b_E_word 60 = .ok (.lreturn, 1) := by decide +kernel
theorem d_E_compare_0 : decode b_E_compare 0 = .ok (.aload_n 0, 1) := by decide +kernel
theorem d_E_compare_1 : decode b_E_compare 1 = .ok (.iload_n 1, 1) := by decide +kernel
theorem d_E_compare_2 : decode b_E_compare 2 = .ok (.iload_n 2, 1) := by decide +kernel
theorem d_E_compare_3 : decode b_E_compare 3 = .ok (.iload_n 3, 1) := by decide +kernel
theorem d_E_compare_4 : decode b_E_compare 4 = .ok (.invokevirtual 123, 3) := by decide +kernel
theorem d_E_compare_7 : decode b_E_compare 7 = .ok (.ifCond .ne 6, 3) := by decide +kernel
theorem d_E_compare_10 : decode b_E_compare 10 = .ok (.bipush (-2), 2) := by decide +kernel
theorem d_E_compare_12 : decode b_E_compare 12 = .ok (.ireturn, 1) := by decide +kernel
theorem d_E_compare_13 : decode b_E_compare 13 = .ok (.iload 5, 2) := by decide +kernel
theorem d_E_compare_15 : decode b_E_compare 15 = .ok (.iconst 1, 1) := by decide +kernel
theorem d_E_compare_16 : decode b_E_compare 16 = .ok (.if_icmp .ge 6, 3) := by decide +kernel
theorem d_E_compare_19 : decode b_E_compare 19 = .ok (.bipush (-3), 2) := by decide +kernel
theorem d_E_compare_21 : decode b_E_compare 21 = .ok (.ireturn, 1) := by decide +kernel
theorem d_E_compare_22 : decode b_E_compare 22 = .ok (.aload_n 0, 1) := by decide +kernel
theorem d_E_compare_23 : decode b_E_compare 23 = .ok (.getfield 57, 3) := by decide +kernel
theorem d_E_compare_26 : decode b_E_compare 26 = .ok (.aload_n 0, 1) := by decide +kernel
theorem d_E_compare_27 : decode b_E_compare 27 = .ok (.getfield 50, 3) := by decide +kernel
theorem d_E_compare_30 : decode b_E_compare 30 = .ok (.iload 5, 2) := by decide +kernel
theorem d_E_compare_32 : decode b_E_compare 32 = .ok (.invokevirtual 143, 3) := by decide +kernel
theorem d_E_compare_35 : decode b_E_compare 35 = .ok (.aload_n 0, 1) := by decide +kernel
theorem d_E_compare_36 : decode b_E_compare 36 = .ok (.getfield 60, 3) := by decide +kernel
theorem d_E_compare_39 : decode b_E_compare 39 = .ok (.aload_n 0, 1) := by decide +kernel
theorem d_E_compare_40 : decode b_E_compare 40 = .ok (.getfield 54, 3) := by decide +kernel
theorem d_E_compare_43 : decode b_E_compare 43 = .ok (.iload 4, 2) := by decide +kernel
theorem d_E_compare_45 : decode b_E_compare 45 = .ok (.invokevirtual 143, 3) := by decide +kernel
theorem d_E_compare_48 : decode b_E_compare 48 = .ok (.aload_n 0, 1) := by decide +kernel
theorem d_E_compare_49 : decode b_E_compare 49 = .ok (.getfield 57, 3) := by decide +kernel
theorem d_E_compare_52 : decode b_E_compare 52 = .ok (.aload_n 0, 1) := by decide +kernel
theorem d_E_compare_53 : decode b_E_compare 53 = .ok (.getfield 60, 3) := by decide +kernel
theorem d_E_compare_56 : decode b_E_compare 56 = .ok (.iconst (-1), 1) := by decide +kernel
theorem d_E_compare_57 : decode b_E_compare 57 = .ok (.invokevirtual 147, 3) := by decide +kernel
theorem d_E_compare_60 : decode b_E_compare 60 = .ok (.aload_n 0, 1) := by decide +kernel
theorem d_E_compare_61 : decode b_E_compare 61 = .ok (.getfield 57, 3) := by decide +kernel
theorem d_E_compare_64 : decode b_E_compare 64 = .ok (.invokevirtual 126, 3) := by decide +kernel
theorem d_E_compare_67 : decode b_E_compare 67 = .ok (.ireturn, 1) := by decide +kernel
theorem d_E_within_0 : decode b_E_within 0 = .ok (.iload_n 0, 1) := by decide +kernel
theorem d_E_within_1 : decode b_E_within 1 = .ok (.iload_n 1, 1) := by decide +kernel
theorem d_E_within_2 : decode b_E_within 2 = .ok (.ineg, 1) := by decide +kernel
theorem d_E_within_3 : decode b_E_within 3 = .ok (.if_icmp .lt 12, 3) := by decide +kernel
theorem d_E_within_6 : decode b_E_within 6 = .ok (.iload_n 0, 1) := by decide +kernel
theorem d_E_within_7 : decode b_E_within 7 = .ok (.iload_n 1, 1) := by decide +kernel
theorem d_E_within_8 : decode b_E_within 8 = .ok (.if_icmp .gt 7, 3) := by decide +kernel
theorem d_E_within_11 : decode b_E_within 11 = .ok (.iconst 1, 1) := by decide +kernel
theorem d_E_within_12 : decode b_E_within 12 = .ok (.goto 4, 3) := by decide +kernel
theorem d_E_within_15 : decode b_E_within 15 = .ok (.iconst 0, 1) := by decide +kernel
theorem d_E_within_16 : decode b_E_within 16 = .ok (.ireturn, 1) := by decide +kernel
theorem d_E_fitsCovariance_0 : decode b_E_fitsCovariance 0 = .ok (.iload_n 0, 1) := by decide +kernel
theorem d_E_fitsCovariance_1 : decode b_E_fitsCovariance 1 = .ok (.bipush 99, 2) := by decide +kernel
theorem d_E_fitsCovariance_3 : decode b_E_fitsCovariance 3 = .ok (.invokestatic 76, 3) := by decide +kernel
theorem d_E_fitsCovariance_6 : decode b_E_fitsCovariance 6 = .ok (.ifCond .eq 25, 3) := by decide +kernel
theorem d_E_fitsCovariance_9 : decode b_E_fitsCovariance 9 = .ok (.iload_n 1, 1) := by decide +kernel
theorem d_E_fitsCovariance_10 : decode b_E_fitsCovariance 10 = .ok (.bipush 99, 2) := by decide +kernel
theorem d_E_fitsCovariance_12 : decode b_E_fitsCovariance 12 = .ok (.invokestatic 76, 3) := by decide +kernel
theorem d_E_fitsCovariance_15 : decode b_E_fitsCovariance 15 = .ok (.ifCond .eq 16, 3) := by decide +kernel
theorem d_E_fitsCovariance_18 : decode b_E_fitsCovariance 18 = .ok (.iload_n 2, 1) := by decide +kernel
theorem d_E_fitsCovariance_19 : decode b_E_fitsCovariance 19 = .ok (.bipush 99, 2) := by decide +kernel
theorem d_E_fitsCovariance_21 : decode b_E_fitsCovariance 21 = .ok (.invokestatic 76, 3) := by decide +kernel
theorem d_E_fitsCovariance_24 : decode b_E_fitsCovariance 24 = .ok (.ifCond .eq 7, 3) := by decide +kernel
theorem d_E_fitsCovariance_27 : decode b_E_fitsCovariance 27 = .ok (.iconst 1, 1) := by decide +kernel
theorem d_E_fitsCovariance_28 : decode b_E_fitsCovariance 28 = .ok (.goto 4, 3) := by decide +kernel
theorem d_E_fitsCovariance_31 : decode b_E_fitsCovariance 31 = .ok (.iconst 0, 1) := by decide +kernel
theorem d_E_fitsCovariance_32 : decode b_E_fitsCovariance 32 = .ok (.ireturn, 1) := by decide +kernel
theorem d_E_isPositive_0 : decode b_E_isPositive 0 = .ok (.iload_n 0, 1) := by decide +kernel
theorem d_E_isPositive_1 : decode b_E_isPositive 1 = .ok (.ifCond .le 16, 3) := by decide +kernel
theorem d_E_isPositive_4 : decode b_E_isPositive 4 = .ok (.iload_n 0, 1) := by decide +kernel
theorem d_E_isPositive_5 : decode b_E_isPositive 5 = .ok (.iload_n 2, 1) := by decide +kernel
theorem d_E_isPositive_6 : decode b_E_isPositive 6 = .ok (.imul, 1) := by decide +kernel
theorem d_E_isPositive_7 : decode b_E_isPositive 7 = .ok (.iload_n 1, 1) := by decide +kernel
theorem d_E_isPositive_8 : decode b_E_isPositive 8 = .ok (.iload_n 1, 1) := by decide +kernel
theorem d_E_isPositive_9 : decode b_E_isPositive 9 = .ok (.imul, 1) := by decide +kernel
theorem d_E_isPositive_10 : decode b_E_isPositive 10 = .ok (.if_icmp .le 7, 3) := by decide +kernel
theorem d_E_isPositive_13 : decode b_E_isPositive 13 = .ok (.iconst 1, 1) := by decide +kernel
theorem d_E_isPositive_14 : decode b_E_isPositive 14 = .ok (.goto 4, 3) := by decide +kernel
theorem d_E_isPositive_17 : decode b_E_isPositive 17 = .ok (.iconst 0, 1) := by decide +kernel
theorem d_E_isPositive_18 : decode b_E_isPositive 18 = .ok (.ireturn, 1) := by decide +kernel
theorem d_E_latest_0 : decode b_E_latest 0 = .ok (.aload_n 0, 1) := by decide +kernel
theorem d_E_latest_1 : decode b_E_latest 1 = .ok (.getfield 87, 3) := by decide +kernel
theorem d_E_latest_4 : decode b_E_latest 4 = .ok (.aload_n 0, 1) := by decide +kernel
theorem d_E_latest_5 : decode b_E_latest 5 = .ok (.getfield 91, 3) := by decide +kernel
theorem d_E_latest_8 : decode b_E_latest 8 = .ok (.iadd, 1) := by decide +kernel
theorem d_E_latest_9 : decode b_E_latest 9 = .ok (.ireturn, 1) := by decide +kernel
theorem d_E_find_0 : decode b_E_find 0 = .ok (.iload_n 1, 1) := by decide +kernel
theorem d_E_find_1 : decode b_E_find 1 = .ok (.iconst 3, 1) := by decide +kernel
theorem d_E_find_2 : decode b_E_find 2 = .ok (.if_icmp .ne 10, 3) := by decide +kernel
theorem d_E_find_5 : decode b_E_find 5 = .ok (.aload_n 0, 1) := by decide +kernel
theorem d_E_find_6 : decode b_E_find 6 = .ok (.iload_n 2, 1) := by decide +kernel
theorem d_E_find_7 : decode b_E_find 7 = .ok (.iload_n 3, 1) := by decide +kernel
theorem d_E_find_8 : decode b_E_find 8 = .ok (.invokevirtual 150, 3) := by decide +kernel
theorem d_E_find_11 : decode b_E_find 11 = .ok (.ireturn, 1) := by decide +kernel
theorem d_E_find_12 : decode b_E_find 12 = .ok (.iload_n 1, 1) := by decide +kernel
theorem d_E_find_13 : decode b_E_find 13 = .ok (.ifCond .lt 29, 3) := by decide +kernel
theorem d_E_find_16 : decode b_E_find 16 = .ok (.iload_n 1, 1) := by decide +kernel
theorem d_E_find_17 : decode b_E_find 17 = .ok (.iconst 2, 1) := by decide +kernel
theorem d_E_find_18 : decode b_E_find 18 = .ok (.if_icmp .gt 24, 3) := by decide +kernel
theorem d_E_find_21 : decode b_E_find 21 = .ok (.iload_n 2, 1) := by decide +kernel
theorem d_E_find_22 : decode b_E_find 22 = .ok (.ifCond .lt 20, 3) := by decide +kernel
theorem d_E_find_25 : decode b_E_find 25 = .ok (.iload_n 2, 1) := by decide +kernel
theorem d_E_find_26 : decode b_E_find 26 = .ok (.aload_n 0, 1) := by decide +kernel
theorem d_E_find_27 : decode b_E_find 27 = .ok (.getfield 87, 3) := by decide +kernel
theorem d_E_find_30 : decode b_E_find 30 = .ok (.if_icmp .gt 12, 3) := by decide +kernel
theorem d_E_find_33 : decode b_E_find 33 = .ok (.iload_n 3, 1) := by decide +kernel
theorem d_E_find_34 : decode b_E_find 34 = .ok (.ifCond .lt 8, 3) := by decide +kernel
theorem d_E_find_37 : decode b_E_find 37 = .ok (.iload_n 3, 1) := by decide +kernel
theorem d_E_find_38 : decode b_E_find 38 = .ok (.iconst 4, 1) := by decide +kernel
theorem d_E_find_39 : decode b_E_find 39 = .ok (.if_icmp .le 5, 3) := by decide +kernel
theorem d_E_find_42 : decode b_E_find 42 = .ok (.iconst 0, 1) := by decide +kernel
theorem d_E_find_43 : decode b_E_find 43 = .ok (.ireturn, 1) := by decide +kernel
theorem d_E_find_44 : decode b_E_find 44 = .ok (.aload_n 0, 1) := by decide +kernel
theorem d_E_find_45 : decode b_E_find 45 = .ok (.iload_n 1, 1) := by decide +kernel
theorem d_E_find_46 : decode b_E_find 46 = .ok (.iload_n 2, 1) := by decide +kernel
theorem d_E_find_47 : decode b_E_find 47 = .ok (.invokevirtual 153, 3) := by decide +kernel
theorem d_E_find_50 : decode b_E_find 50 = .ok (.iload_n 3, 1) := by decide +kernel
theorem d_E_find_51 : decode b_E_find 51 = .ok (.aload_n 0, 1) := by decide +kernel
theorem d_E_find_52 : decode b_E_find 52 = .ok (.getfield 50, 3) := by decide +kernel
theorem d_E_find_55 : decode b_E_find 55 = .ok (.aload_n 0, 1) := by decide +kernel
theorem d_E_find_56 : decode b_E_find 56 = .ok (.getfield 54, 3) := by decide +kernel
theorem d_E_find_59 : decode b_E_find 59 = .ok (.invokevirtual 157, 3) := by decide +kernel
theorem d_E_find_62 : decode b_E_find 62 = .ok (.iconst 1, 1) := by decide +kernel
theorem d_E_find_63 : decode b_E_find 63 = .ok (.ireturn, 1) := by decide +kernel
theorem d_E_findOfObservation_0 : decode b_E_findOfObservation 0 = .ok (.iload_n 1, 1) := by decide +kernel
theorem d_E_findOfObservation_1 : decode b_E_findOfObservation 1 = .ok (.ifCond .lt 20, 3) := by decide +kernel
theorem d_E_findOfObservation_4 : decode b_E_findOfObservation 4 = .ok (.iload_n 1, 1) := by decide +kernel
theorem d_E_findOfObservation_5 : decode b_E_findOfObservation 5 = .ok (.aload_n 0, 1) := by decide +kernel
theorem d_E_findOfObservation_6 : decode b_E_findOfObservation 6 = .ok (.getfield 91, 3) := by decide +kernel
theorem d_E_findOfObservation_9 : decode b_E_findOfObservation 9 = .ok (.if_icmp .ge 12, 3) := by decide +kernel
theorem d_E_findOfObservation_12 : decode b_E_findOfObservation 12 = .ok (.iload_n 2, 1) := by decide +kernel
theorem d_E_findOfObservation_13 : decode b_E_findOfObservation 13 = .ok (.ifCond .lt 8, 3) := by decide +kernel
theorem d_E_findOfObservation_16 : decode b_E_findOfObservation 16 = .ok (.iload_n 2, 1) := by decide +kernel
theorem d_E_findOfObservation_17 : decode b_E_findOfObservation 17 = .ok (.iconst 1, 1) := by decide +kernel
theorem d_E_findOfObservation_18 : decode b_E_findOfObservation 18 = .ok (.if_icmp .le 5, 3) := by decide +kernel
theorem d_E_findOfObservation_21 : decode b_E_findOfObservation 21 = .ok (.iconst 0, 1) := by decide +kernel
theorem d_E_findOfObservation_22 : decode b_E_findOfObservation 22 = .ok (.ireturn, 1) := by decide +kernel
theorem d_E_findOfObservation_23 : decode b_E_findOfObservation 23 = .ok (.aload_n 0, 1) := by decide +kernel
theorem d_E_findOfObservation_24 : decode b_E_findOfObservation 24 = .ok (.getfield 21, 3) := by decide +kernel
theorem d_E_findOfObservation_27 : decode b_E_findOfObservation 27 = .ok (.iload_n 1, 1) := by decide +kernel
theorem d_E_findOfObservation_28 : decode b_E_findOfObservation 28 = .ok (.aaload, 1) := by decide +kernel
theorem d_E_findOfObservation_29 : decode b_E_findOfObservation 29 = .ok (.astore_n 3, 1) := by decide +kernel
theorem d_E_findOfObservation_30 : decode b_E_findOfObservation 30 = .ok (.aload_n 0, 1) := by decide +kernel
theorem d_E_findOfObservation_31 : decode b_E_findOfObservation 31 = .ok (.getfield 11, 3) := by decide +kernel
theorem d_E_findOfObservation_34 : decode b_E_findOfObservation 34 = .ok (.aload_n 3, 1) := by decide +kernel
theorem d_E_findOfObservation_35 : decode b_E_findOfObservation 35 = .ok (.getfield 161, 3) := by decide +kernel
theorem d_E_findOfObservation_38 : decode b_E_findOfObservation 38 = .ok (.aaload, 1) := by decide +kernel
theorem d_E_findOfObservation_39 : decode b_E_findOfObservation 39 = .ok (.astore 4, 2) := by decide +kernel
theorem d_E_findOfObservation_41 : decode b_E_findOfObservation 41 = .ok (.aload_n 0, 1) := by decide +kernel
theorem d_E_findOfObservation_42 : decode b_E_findOfObservation 42 = .ok (.getfield 54, 3) := by decide +kernel
theorem d_E_findOfObservation_45 : decode b_E_findOfObservation 45 = .ok (.aload 4, 2) := by decide +kernel
theorem d_E_findOfObservation_47 : decode b_E_findOfObservation 47 = .ok (.getfield 164, 3) := by decide +kernel
theorem d_E_findOfObservation_50 : decode b_E_findOfObservation 50 = .ok (.invokevirtual 167, 3) := by decide +kernel
theorem d_E_findOfObservation_53 : decode b_E_findOfObservation 53 = .ok (.iload_n 2, 1) := by decide +kernel
theorem d_E_findOfObservation_54 : decode b_E_findOfObservation 54 = .ok (.ifCond .ne 42, 3) := by decide +kernel
theorem d_E_findOfObservation_57 : decode b_E_findOfObservation 57 = .ok (.aload_n 0, 1) := by decide +kernel
theorem d_E_findOfObservation_58 : decode b_E_findOfObservation 58 = .ok (.getfield 50, 3) := by decide +kernel
theorem d_E_findOfObservation_61 : decode b_E_findOfObservation 61 = .ok (.aload 4, 2) := by decide +kernel
theorem d_E_findOfObservation_63 : decode b_E_findOfObservation 63 = .ok (.getfield 164, 3) := by decide +kernel
theorem d_E_findOfObservation_66 : decode b_E_findOfObservation 66 = .ok (.aload_n 3, 1) := by decide +kernel
theorem d_E_findOfObservation_67 : decode b_E_findOfObservation 67 = .ok (.getfield 170, 3) := by decide +kernel
theorem d_E_findOfObservation_70 : decode b_E_findOfObservation 70 = .ok (.aload 4, 2) := by decide +kernel
theorem d_E_findOfObservation_72 : decode b_E_findOfObservation 72 = .ok (.getfield 173, 3) := by decide +kernel
theorem d_E_findOfObservation_75 : decode b_E_findOfObservation 75 = .ok (.aload_n 3, 1) := by decide +kernel
theorem d_E_findOfObservation_76 : decode b_E_findOfObservation 76 = .ok (.getfield 176, 3) := by decide +kernel
theorem d_E_findOfObservation_79 : decode b_E_findOfObservation 79 = .ok (.ineg, 1) := by decide +kernel
theorem d_E_findOfObservation_80 : decode b_E_findOfObservation 80 = .ok (.aload 4, 2) := by decide +kernel
theorem d_E_findOfObservation_82 : decode b_E_findOfObservation 82 = .ok (.getfield 179, 3) := by decide +kernel
theorem d_E_findOfObservation_85 : decode b_E_findOfObservation 85 = .ok (.aload_n 3, 1) := by decide +kernel
theorem d_E_findOfObservation_86 : decode b_E_findOfObservation 86 = .ok (.getfield 182, 3) := by decide +kernel
theorem d_E_findOfObservation_89 : decode b_E_findOfObservation 89 = .ok (.ineg, 1) := by decide +kernel
theorem d_E_findOfObservation_90 : decode b_E_findOfObservation 90 = .ok (.invokevirtual 185, 3) := by decide +kernel
theorem d_E_findOfObservation_93 : decode b_E_findOfObservation 93 = .ok (.goto 24, 3) := by decide +kernel
theorem d_E_findOfObservation_96 : decode b_E_findOfObservation 96 = .ok (.aload_n 0, 1) := by decide +kernel
theorem d_E_findOfObservation_97 : decode b_E_findOfObservation 97 = .ok (.getfield 50, 3) := by decide +kernel
theorem d_E_findOfObservation_100 : decode b_E_findOfObservation 100 = .ok (.aload_n 0, 1) := by decide +kernel
theorem d_E_findOfObservation_101 : decode b_E_findOfObservation 101 = .ok (.getfield 11, 3) := by decide +kernel
theorem d_E_findOfObservation_104 : decode b_E_findOfObservation 104 = .ok (.aload_n 3, 1) := by decide +kernel
theorem d_E_findOfObservation_105 : decode b_E_findOfObservation 105 = .ok (.getfield 161, 3) := by decide +kernel
theorem d_E_findOfObservation_108 : decode b_E_findOfObservation 108 = .ok (.iconst 1, 1) := by decide +kernel
theorem d_E_findOfObservation_109 : decode b_E_findOfObservation 109 = .ok (.iadd, 1) := by decide +kernel
theorem d_E_findOfObservation_110 : decode b_E_findOfObservation 110 = .ok (.aaload, 1) := by decide +kernel
theorem d_E_findOfObservation_111 : decode b_E_findOfObservation 111 = .ok (.getfield 164, 3) := by decide +kernel
theorem d_E_findOfObservation_114 : decode b_E_findOfObservation 114 = .ok (.invokevirtual 167, 3) := by decide +kernel
theorem d_E_findOfObservation_117 : decode b_E_findOfObservation 117 = .ok (.iconst 1, 1) := by decide +kernel
theorem d_E_findOfObservation_118 : decode b_E_findOfObservation 118 = .ok (.ireturn, 1) := by decide +kernel
theorem d_E_beliefOf_0 : decode b_E_beliefOf 0 = .ok (.iload_n 1, 1) := by decide +kernel
theorem d_E_beliefOf_1 : decode b_E_beliefOf 1 = .ok (.ifCond .ne 15, 3) := by decide +kernel
theorem d_E_beliefOf_4 : decode b_E_beliefOf 4 = .ok (.aload_n 0, 1) := by decide +kernel
theorem d_E_beliefOf_5 : decode b_E_beliefOf 5 = .ok (.getfield 11, 3) := by decide +kernel
theorem d_E_beliefOf_8 : decode b_E_beliefOf 8 = .ok (.aload_n 0, 1) := by decide +kernel
theorem d_E_beliefOf_9 : decode b_E_beliefOf 9 = .ok (.getfield 15, 3) := by decide +kernel
theorem d_E_beliefOf_12 : decode b_E_beliefOf 12 = .ok (.iload_n 2, 1) := by decide +kernel
theorem d_E_beliefOf_13 : decode b_E_beliefOf 13 = .ok (.iaload, 1) := by decide +kernel
theorem d_E_beliefOf_14 : decode b_E_beliefOf 14 = .ok (.aaload, 1) := by decide +kernel
theorem d_E_beliefOf_15 : decode b_E_beliefOf 15 = .ok (.areturn, 1) := by decide +kernel
theorem d_E_beliefOf_16 : decode b_E_beliefOf 16 = .ok (.aload_n 0, 1) := by decide +kernel
theorem d_E_beliefOf_17 : decode b_E_beliefOf 17 = .ok (.getfield 11, 3) := by decide +kernel
theorem d_E_beliefOf_20 : decode b_E_beliefOf 20 = .ok (.iload_n 2, 1) := by decide +kernel
theorem d_E_beliefOf_21 : decode b_E_beliefOf 21 = .ok (.aload_n 0, 1) := by decide +kernel
theorem d_E_beliefOf_22 : decode b_E_beliefOf 22 = .ok (.getfield 87, 3) := by decide +kernel
theorem d_E_beliefOf_25 : decode b_E_beliefOf 25 = .ok (.if_icmp .ge 16, 3) := by decide +kernel
theorem d_E_beliefOf_28 : decode b_E_beliefOf 28 = .ok (.aload_n 0, 1) := by decide +kernel
theorem d_E_beliefOf_29 : decode b_E_beliefOf 29 = .ok (.getfield 15, 3) := by decide +kernel
theorem d_E_beliefOf_32 : decode b_E_beliefOf 32 = .ok (.iload_n 2, 1) := by decide +kernel
theorem d_E_beliefOf_33 : decode b_E_beliefOf 33 = .ok (.iconst 1, 1) := by decide +kernel
theorem d_E_beliefOf_34 : decode b_E_beliefOf 34 = .ok (.iadd, 1) := by decide +kernel
theorem d_E_beliefOf_35 : decode b_E_beliefOf 35 = .ok (.iaload, 1) := by decide +kernel
theorem d_E_beliefOf_36 : decode b_E_beliefOf 36 = .ok (.iconst 1, 1) := by decide +kernel
theorem d_E_beliefOf_37 : decode b_E_beliefOf 37 = .ok (.isub, 1) := by decide +kernel
theorem d_E_beliefOf_38 : decode b_E_beliefOf 38 = .ok (.goto 7, 3) := by decide +kernel
theorem d_E_beliefOf_41 : decode b_E_beliefOf 41 = .ok (.aload_n 0, 1) := by decide +kernel
theorem d_E_beliefOf_42 : decode b_E_beliefOf 42 = .ok (.invokevirtual 94, 3) := by decide +kernel
theorem d_E_beliefOf_45 : decode b_E_beliefOf 45 = .ok (.aaload, 1) := by decide +kernel
theorem d_E_beliefOf_46 : decode b_E_beliefOf 46 = .ok (.astore_n 3, 1) := by decide +kernel
theorem d_E_beliefOf_47 : decode b_E_beliefOf 47 = .ok (.iload_n 1, 1) := by decide +kernel
theorem d_E_beliefOf_48 : decode b_E_beliefOf 48 = .ok (.iconst 1, 1) := by decide +kernel
theorem d_E_beliefOf_49 : decode b_E_beliefOf 49 = .ok (.if_icmp .ne 5, 3) := by decide +kernel
theorem d_E_beliefOf_52 : decode b_E_beliefOf 52 = .ok (.aload_n 3, 1) := by decide +kernel
theorem d_E_beliefOf_53 : decode b_E_beliefOf 53 = .ok (.areturn, 1) := by decide +kernel
theorem d_E_beliefOf_54 : decode b_E_beliefOf 54 = .ok (.aload_n 0, 1) := by decide +kernel
theorem d_E_beliefOf_55 : decode b_E_beliefOf 55 = .ok (.iload_n 2, 1) := by decide +kernel
theorem d_E_beliefOf_56 : decode b_E_beliefOf 56 = .ok (.invokevirtual 189, 3) := by decide +kernel
theorem d_E_beliefOf_59 : decode b_E_beliefOf 59 = .ok (.aload_n 0, 1) := by decide +kernel
theorem d_E_beliefOf_60 : decode b_E_beliefOf 60 = .ok (.getfield 44, 3) := by decide +kernel
theorem d_E_beliefOf_63 : decode b_E_beliefOf 63 = .ok (.aload_n 3, 1) := by decide +kernel
theorem d_E_beliefOf_64 : decode b_E_beliefOf 64 = .ok (.aload_n 0, 1) := by decide +kernel
theorem d_E_beliefOf_65 : decode b_E_beliefOf 65 = .ok (.getfield 37, 3) := by decide +kernel
theorem d_E_beliefOf_68 : decode b_E_beliefOf 68 = .ok (.invokevirtual 193, 3) := by decide +kernel
theorem d_E_beliefOf_71 : decode b_E_beliefOf 71 = .ok (.aload_n 0, 1) := by decide +kernel
theorem d_E_beliefOf_72 : decode b_E_beliefOf 72 = .ok (.getfield 44, 3) := by decide +kernel
theorem d_E_beliefOf_75 : decode b_E_beliefOf 75 = .ok (.areturn, 1) := by decide +kernel
theorem d_E_lookBackTo_0 : decode b_E_lookBackTo 0 = .ok (.aload_n 0, 1) := by decide +kernel
theorem d_E_lookBackTo_1 : decode b_E_lookBackTo 1 = .ok (.getfield 37, 3) := by decide +kernel
theorem d_E_lookBackTo_4 : decode b_E_lookBackTo 4 = .ok (.invokevirtual 197, 3) := by decide +kernel
theorem d_E_lookBackTo_7 : decode b_E_lookBackTo 7 = .ok (.aload_n 0, 1) := by decide +kernel
theorem d_E_lookBackTo_8 : decode b_E_lookBackTo 8 = .ok (.getfield 87, 3) := by decide +kernel
theorem d_E_lookBackTo_11 : decode b_E_lookBackTo 11 = .ok (.istore_n 2, 1) := by decide +kernel
theorem d_E_lookBackTo_12 : decode b_E_lookBackTo 12 = .ok (.iload_n 2, 1) := by decide +kernel
theorem d_E_lookBackTo_13 : decode b_E_lookBackTo 13 = .ok (.iload_n 1, 1) := by decide +kernel
theorem d_E_lookBackTo_14 : decode b_E_lookBackTo 14 = .ok (.if_icmp .le 91, 3) := by decide +kernel
theorem d_E_lookBackTo_17 : decode b_E_lookBackTo 17 = .ok (.iconst 0, 1) := by decide +kernel
theorem d_E_lookBackTo_18 : decode b_E_lookBackTo 18 = .ok (.istore_n 3, 1) := by decide +kernel
theorem d_E_lookBackTo_19 : decode b_E_lookBackTo 19 = .ok (.iload_n 3, 1) := by decide +kernel
theorem d_E_lookBackTo_20 : decode b_E_lookBackTo 20 = .ok (.aload_n 0, 1) := by decide +kernel
theorem d_E_lookBackTo_21 : decode b_E_lookBackTo 21 = .ok (.getfield 91, 3) := by decide +kernel
theorem d_E_lookBackTo_24 : decode b_E_lookBackTo 24 = .ok (.if_icmp .ge 35, 3) := by decide +kernel
theorem d_E_lookBackTo_27 : decode b_E_lookBackTo 27 = .ok (.aload_n 0, 1) := by decide +kernel
theorem d_E_lookBackTo_28 : decode b_E_lookBackTo 28 = .ok (.getfield 21, 3) := by decide +kernel
theorem d_E_lookBackTo_31 : decode b_E_lookBackTo 31 = .ok (.iload_n 3, 1) := by decide +kernel
theorem d_E_lookBackTo_32 : decode b_E_lookBackTo 32 = .ok (.aaload, 1) := by decide +kernel
theorem d_E_lookBackTo_33 : decode b_E_lookBackTo 33 = .ok (.getfield 200, 3) := by decide +kernel
theorem d_E_lookBackTo_36 : decode b_E_lookBackTo 36 = .ok (.iload_n 2, 1) := by decide +kernel
theorem d_E_lookBackTo_37 : decode b_E_lookBackTo 37 = .ok (.if_icmp .ne 16, 3) := by decide +kernel
theorem d_E_lookBackTo_40 : decode b_E_lookBackTo 40 = .ok (.aload_n 0, 1) := by decide +kernel
theorem d_E_lookBackTo_41 : decode b_E_lookBackTo 41 = .ok (.getfield 37, 3) := by decide +kernel
theorem d_E_lookBackTo_44 : decode b_E_lookBackTo 44 = .ok (.aload_n 0, 1) := by decide +kernel
theorem d_E_lookBackTo_45 : decode b_E_lookBackTo 45 = .ok (.getfield 21, 3) := by decide +kernel
theorem d_E_lookBackTo_48 : decode b_E_lookBackTo 48 = .ok (.iload_n 3, 1) := by decide +kernel
theorem d_E_lookBackTo_49 : decode b_E_lookBackTo 49 = .ok (.aaload, 1) := by decide +kernel
theorem d_E_lookBackTo_50 : decode b_E_lookBackTo 50 = .ok (.invokevirtual 109, 3) := by decide +kernel
theorem d_E_lookBackTo_53 : decode b_E_lookBackTo 53 = .ok (.iinc 3 1, 3) := by decide +kernel
theorem d_E_lookBackTo_56 : decode b_E_lookBackTo 56 = .ok (.goto (-37), 3) := by decide +kernel
theorem d_E_lookBackTo_59 : decode b_E_lookBackTo 59 = .ok (.aload_n 0, 1) := by decide +kernel
theorem d_E_lookBackTo_60 : decode b_E_lookBackTo 60 = .ok (.getfield 27, 3) := by decide +kernel
theorem d_E_lookBackTo_63 : decode b_E_lookBackTo 63 = .ok (.iload_n 2, 1) := by decide +kernel
theorem d_E_lookBackTo_64 : decode b_E_lookBackTo 64 = .ok (.iconst 1, 1) := by decide +kernel
theorem d_E_lookBackTo_65 : decode b_E_lookBackTo 65 = .ok (.isub, 1) := by decide +kernel
theorem d_E_lookBackTo_66 : decode b_E_lookBackTo 66 = .ok (.aaload, 1) := by decide +kernel
theorem d_E_lookBackTo_67 : decode b_E_lookBackTo 67 = .ok (.astore_n 3, 1) := by decide +kernel
theorem d_E_lookBackTo_68 : decode b_E_lookBackTo 68 = .ok (.aload_n 0, 1) := by decide +kernel
theorem d_E_lookBackTo_69 : decode b_E_lookBackTo 69 = .ok (.getfield 37, 3) := by decide +kernel
theorem d_E_lookBackTo_72 : decode b_E_lookBackTo 72 = .ok (.aload_n 3, 1) := by decide +kernel
theorem d_E_lookBackTo_73 : decode b_E_lookBackTo 73 = .ok (.invokevirtual 120, 3) := by decide +kernel
theorem d_E_lookBackTo_76 : decode b_E_lookBackTo 76 = .ok (.aload_n 0, 1) := by decide +kernel
theorem d_E_lookBackTo_77 : decode b_E_lookBackTo 77 = .ok (.getfield 41, 3) := by decide +kernel
theorem d_E_lookBackTo_80 : decode b_E_lookBackTo 80 = .ok (.aload_n 0, 1) := by decide +kernel
theorem d_E_lookBackTo_81 : decode b_E_lookBackTo 81 = .ok (.getfield 37, 3) := by decide +kernel
theorem d_E_lookBackTo_84 : decode b_E_lookBackTo 84 = .ok (.aload_n 3, 1) := by decide +kernel
theorem d_E_lookBackTo_85 : decode b_E_lookBackTo 85 = .ok (.invokevirtual 203, 3) := by decide +kernel
theorem d_E_lookBackTo_88 : decode b_E_lookBackTo 88 = .ok (.aload_n 0, 1) := by decide +kernel
theorem d_E_lookBackTo_89 : decode b_E_lookBackTo 89 = .ok (.getfield 37, 3) := by decide +kernel
theorem d_E_lookBackTo_92 : decode b_E_lookBackTo 92 = .ok (.aload_n 0, 1) := by decide +kernel
theorem d_E_lookBackTo_93 : decode b_E_lookBackTo 93 = .ok (.getfield 41, 3) := by decide +kernel
theorem d_E_lookBackTo_96 : decode b_E_lookBackTo 96 = .ok (.invokevirtual 105, 3) := by decide +kernel
theorem d_E_lookBackTo_99 : decode b_E_lookBackTo 99 = .ok (.iinc 2 (-1), 3) := by decide +kernel
theorem d_E_lookBackTo_102 : decode b_E_lookBackTo 102 = .ok (.goto (-90), 3) := by decide +kernel
theorem d_E_lookBackTo_105 : decode b_E_lookBackTo 105 = .ok (.return_, 1) := by decide +kernel
theorem d_E_reduce_0 : decode b_E_reduce 0 = .ok (.aload_n 0, 1) := by decide +kernel
theorem d_E_reduce_1 : decode b_E_reduce 1 = .ok (.getfield 50, 3) := by decide +kernel
theorem d_E_reduce_4 : decode b_E_reduce 4 = .ok (.invokevirtual 126, 3) := by decide +kernel
theorem d_E_reduce_7 : decode b_E_reduce 7 = .ok (.istore_n 1, 1) := by decide +kernel
theorem d_E_reduce_8 : decode b_E_reduce 8 = .ok (.iload_n 1, 1) := by decide +kernel
theorem d_E_reduce_9 : decode b_E_reduce 9 = .ok (.ifCond .ne 12, 3) := by decide +kernel
theorem d_E_reduce_12 : decode b_E_reduce 12 = .ok (.aload_n 0, 1) := by decide +kernel
theorem d_E_reduce_13 : decode b_E_reduce 13 = .ok (.getfield 54, 3) := by decide +kernel
theorem d_E_reduce_16 : decode b_E_reduce 16 = .ok (.iconst 1, 1) := by decide +kernel
theorem d_E_reduce_17 : decode b_E_reduce 17 = .ok (.invokevirtual 206, 3) := by decide +kernel
theorem d_E_reduce_20 : decode b_E_reduce 20 = .ok (.return_, 1) := by decide +kernel
theorem d_E_reduce_21 : decode b_E_reduce 21 = .ok (.iload_n 1, 1) := by decide +kernel
theorem d_E_reduce_22 : decode b_E_reduce 22 = .ok (.ifCond .ge 11, 3) := by decide +kernel
theorem d_E_reduce_25 : decode b_E_reduce 25 = .ok (.aload_n 0, 1) := by decide +kernel
theorem d_E_reduce_26 : decode b_E_reduce 26 = .ok (.getfield 50, 3) := by decide +kernel
theorem d_E_reduce_29 : decode b_E_reduce 29 = .ok (.iconst (-1), 1) := by decide +kernel
theorem d_E_reduce_30 : decode b_E_reduce 30 = .ok (.invokevirtual 208, 3) := by decide +kernel
theorem d_E_reduce_33 : decode b_E_reduce 33 = .ok (.aload_n 0, 1) := by decide +kernel
theorem d_E_reduce_34 : decode b_E_reduce 34 = .ok (.invokevirtual 211, 3) := by decide +kernel
theorem d_E_reduce_37 : decode b_E_reduce 37 = .ok (.aload_n 0, 1) := by decide +kernel
theorem d_E_reduce_38 : decode b_E_reduce 38 = .ok (.invokevirtual 214, 3) := by decide +kernel
theorem d_E_reduce_41 : decode b_E_reduce 41 = .ok (.astore_n 2, 1) := by decide +kernel
theorem d_E_reduce_42 : decode b_E_reduce 42 = .ok (.aload_n 0, 1) := by decide +kernel
theorem d_E_reduce_43 : decode b_E_reduce 43 = .ok (.getfield 50, 3) := by decide +kernel
theorem d_E_reduce_46 : decode b_E_reduce 46 = .ok (.aload_n 2, 1) := by decide +kernel
theorem d_E_reduce_47 : decode b_E_reduce 47 = .ok (.invokevirtual 218, 3) := by decide +kernel
theorem d_E_reduce_50 : decode b_E_reduce 50 = .ok (.aload_n 0, 1) := by decide +kernel
theorem d_E_reduce_51 : decode b_E_reduce 51 = .ok (.getfield 54, 3) := by decide +kernel
theorem d_E_reduce_54 : decode b_E_reduce 54 = .ok (.aload_n 2, 1) := by decide +kernel
theorem d_E_reduce_55 : decode b_E_reduce 55 = .ok (.invokevirtual 218, 3) := by decide +kernel
theorem d_E_reduce_58 : decode b_E_reduce 58 = .ok (.return_, 1) := by decide +kernel
theorem d_E_dropCommonTwos_0 : decode b_E_dropCommonTwos 0 = .ok (.iconst 0, 1) := by decide +kernel
theorem d_E_dropCommonTwos_1 : decode b_E_dropCommonTwos 1 = .ok (.istore_n 1, 1) := by decide +kernel
theorem d_E_dropCommonTwos_2 : decode b_E_dropCommonTwos 2 = .ok (.iload_n 1, 1) := by decide +kernel
theorem d_E_dropCommonTwos_3 : decode b_E_dropCommonTwos 3 = .ok (.iconst 5, 1) := by decide +kernel
theorem d_E_dropCommonTwos_4 : decode b_E_dropCommonTwos 4 = .ok (.if_icmp .gt 43, 3) := by decide +kernel
theorem d_E_dropCommonTwos_7 : decode b_E_dropCommonTwos 7 = .ok (.aload_n 0, 1) := by decide +kernel
theorem d_E_dropCommonTwos_8 : decode b_E_dropCommonTwos 8 = .ok (.getfield 50, 3) := by decide +kernel
theorem d_E_dropCommonTwos_11 : decode b_E_dropCommonTwos 11 = .ok (.invokevirtual 221, 3) := by decide +kernel
theorem d_E_dropCommonTwos_14 : decode b_E_dropCommonTwos 14 = .ok (.aload_n 0, 1) := by decide +kernel
theorem d_E_dropCommonTwos_15 : decode b_E_dropCommonTwos 15 = .ok (.getfield 54, 3) := by decide +kernel
theorem d_E_dropCommonTwos_18 : decode b_E_dropCommonTwos 18 = .ok (.invokevirtual 221, 3) := by decide +kernel
theorem d_E_dropCommonTwos_21 : decode b_E_dropCommonTwos 21 = .ok (.invokestatic 224, 3) := by decide +kernel
theorem d_E_dropCommonTwos_24 : decode b_E_dropCommonTwos 24 = .ok (.istore_n 2, 1) := by decide +kernel
theorem d_E_dropCommonTwos_25 : decode b_E_dropCommonTwos 25 = .ok (.aload_n 0, 1) := by decide +kernel
theorem d_E_dropCommonTwos_26 : decode b_E_dropCommonTwos 26 = .ok (.getfield 50, 3) := by decide +kernel
theorem d_E_dropCommonTwos_29 : decode b_E_dropCommonTwos 29 = .ok (.iload_n 2, 1) := by decide +kernel
theorem d_E_dropCommonTwos_30 : decode b_E_dropCommonTwos 30 = .ok (.invokevirtual 230, 3) := by decide +kernel
theorem d_E_dropCommonTwos_33 : decode b_E_dropCommonTwos 33 = .ok (.aload_n 0, 1) := by decide +kernel
theorem d_E_dropCommonTwos_34 : decode b_E_dropCommonTwos 34 = .ok (.getfield 54, 3) := by decide +kernel
theorem d_E_dropCommonTwos_37 : decode b_E_dropCommonTwos 37 = .ok (.iload_n 2, 1) := by decide +kernel
theorem d_E_dropCommonTwos_38 : decode b_E_dropCommonTwos 38 = .ok (.invokevirtual 230, 3) := by decide +kernel
theorem d_E_dropCommonTwos_41 : decode b_E_dropCommonTwos 41 = .ok (.iinc 1 1, 3) := by decide +kernel
theorem d_E_dropCommonTwos_44 : decode b_E_dropCommonTwos 44 = .ok (.goto (-42), 3) := by decide +kernel
theorem d_E_dropCommonTwos_47 : decode b_E_dropCommonTwos 47 = .ok (.return_, 1) := by decide +kernel
theorem d_E_oddCommonDivisor_0 : decode b_E_oddCommonDivisor 0 = .ok (.aload_n 0, 1) := by decide +kernel
theorem d_E_oddCommonDivisor_1 : decode b_E_oddCommonDivisor 1 = .ok (.getfield 57, 3) := by decide +kernel
theorem d_E_oddCommonDivisor_4 : decode b_E_oddCommonDivisor 4 = .ok (.astore_n 1, 1) := by decide +kernel
theorem d_E_oddCommonDivisor_5 : decode b_E_oddCommonDivisor 5 = .ok (.aload_n 0, 1) := by decide +kernel
theorem d_E_oddCommonDivisor_6 : decode b_E_oddCommonDivisor 6 = .ok (.getfield 60, 3) := by decide +kernel
theorem d_E_oddCommonDivisor_9 : decode b_E_oddCommonDivisor 9 = .ok (.astore_n 2, 1) := by decide +kernel
theorem d_E_oddCommonDivisor_10 : decode b_E_oddCommonDivisor 10 = .ok (.aload_n 1, 1) := by decide +kernel
theorem d_E_oddCommonDivisor_11 : decode b_E_oddCommonDivisor 11 = .ok (.aload_n 0, 1) := by decide +kernel
theorem d_E_oddCommonDivisor_12 : decode b_E_oddCommonDivisor 12 = .ok (.getfield 50, 3) := by decide +kernel
theorem d_E_oddCommonDivisor_15 : decode b_E_oddCommonDivisor 15 = .ok (.invokevirtual 167, 3) := by decide +kernel
theorem d_E_oddCommonDivisor_18 : decode b_E_oddCommonDivisor 18 = .ok (.aload_n 1, 1) := by decide +kernel
theorem d_E_oddCommonDivisor_19 : decode b_E_oddCommonDivisor 19 = .ok (.invokevirtual 233, 3) := by decide +kernel
theorem d_E_oddCommonDivisor_22 : decode b_E_oddCommonDivisor 22 = .ok (.aload_n 2, 1) := by decide +kernel
theorem d_E_oddCommonDivisor_23 : decode b_E_oddCommonDivisor 23 = .ok (.aload_n 0, 1) := by decide +kernel
theorem d_E_oddCommonDivisor_24 : decode b_E_oddCommonDivisor 24 = .ok (.getfield 54, 3) := by decide +kernel
theorem d_E_oddCommonDivisor_27 : decode b_E_oddCommonDivisor 27 = .ok (.invokevirtual 167, 3) := by decide +kernel
theorem d_E_oddCommonDivisor_30 : decode b_E_oddCommonDivisor 30 = .ok (.aload_n 2, 1) := by decide +kernel
theorem d_E_oddCommonDivisor_31 : decode b_E_oddCommonDivisor 31 = .ok (.invokevirtual 233, 3) := by decide +kernel
theorem d_E_oddCommonDivisor_34 : decode b_E_oddCommonDivisor 34 = .ok (.iconst 0, 1) := by decide +kernel
theorem d_E_oddCommonDivisor_35 : decode b_E_oddCommonDivisor 35 = .ok (.istore_n 3, 1) := by decide +kernel
theorem d_E_oddCommonDivisor_36 : decode b_E_oddCommonDivisor 36 = .ok (.iload_n 3, 1) := by decide +kernel
theorem d_E_oddCommonDivisor_37 : decode b_E_oddCommonDivisor 37 = .ok (.sipush 320, 3) := by decide +kernel
theorem d_E_oddCommonDivisor_40 : decode b_E_oddCommonDivisor 40 = .ok (.if_icmp .ge 47, 3) := by decide +kernel
theorem d_E_oddCommonDivisor_43 : decode b_E_oddCommonDivisor 43 = .ok (.aload_n 1, 1) := by decide +kernel
theorem d_E_oddCommonDivisor_44 : decode b_E_oddCommonDivisor 44 = .ok (.aload_n 2, 1) := by decide +kernel
theorem d_E_oddCommonDivisor_45 : decode b_E_oddCommonDivisor 45 = .ok (.invokevirtual 236, 3) := by decide +kernel
theorem d_E_oddCommonDivisor_48 : decode b_E_oddCommonDivisor 48 = .ok (.istore 4, 2) := by decide +kernel
theorem d_E_oddCommonDivisor_50 : decode b_E_oddCommonDivisor 50 = .ok (.iload 4, 2) := by decide +kernel
theorem d_E_oddCommonDivisor_52 : decode b_E_oddCommonDivisor 52 = .ok (.ifCond .ne 6, 3) := by decide +kernel
theorem d_E_oddCommonDivisor_55 : decode b_E_oddCommonDivisor 55 = .ok (.goto 32, 3) := by decide +kernel
theorem d_E_oddCommonDivisor_58 : decode b_E_oddCommonDivisor 58 = .ok (.iload 4, 2) := by decide +kernel
theorem d_E_oddCommonDivisor_60 : decode b_E_oddCommonDivisor 60 = .ok (.ifCond .ge 11, 3) := by decide +kernel
theorem d_E_oddCommonDivisor_63 : decode b_E_oddCommonDivisor 63 = .ok (.aload_n 1, 1) := by decide +kernel
theorem d_E_oddCommonDivisor_64 : decode b_E_oddCommonDivisor 64 = .ok (.astore 5, 2) := by decide +kernel
theorem d_E_oddCommonDivisor_66 : decode b_E_oddCommonDivisor 66 = .ok (.aload_n 2, 1) := by decide +kernel
theorem d_E_oddCommonDivisor_67 : decode b_E_oddCommonDivisor 67 = .ok (.astore_n 1, 1) := by decide +kernel
theorem d_E_oddCommonDivisor_68 : decode b_E_oddCommonDivisor 68 = .ok (.aload 5, 2) := by decide +kernel
theorem d_E_oddCommonDivisor_70 : decode b_E_oddCommonDivisor 70 = .ok (.astore_n 2, 1) := by decide +kernel
theorem d_E_oddCommonDivisor_71 : decode b_E_oddCommonDivisor 71 = .ok (.aload_n 1, 1) := by decide +kernel
theorem d_E_oddCommonDivisor_72 : decode b_E_oddCommonDivisor 72 = .ok (.aload_n 2, 1) := by decide +kernel
theorem d_E_oddCommonDivisor_73 : decode b_E_oddCommonDivisor 73 = .ok (.iconst (-1), 1) := by decide +kernel
theorem d_E_oddCommonDivisor_74 : decode b_E_oddCommonDivisor 74 = .ok (.invokevirtual 147, 3) := by decide +kernel
theorem d_E_oddCommonDivisor_77 : decode b_E_oddCommonDivisor 77 = .ok (.aload_n 1, 1) := by decide +kernel
theorem d_E_oddCommonDivisor_78 : decode b_E_oddCommonDivisor 78 = .ok (.invokevirtual 233, 3) := by decide +kernel
theorem d_E_oddCommonDivisor_81 : decode b_E_oddCommonDivisor 81 = .ok (.iinc 3 1, 3) := by decide +kernel
theorem d_E_oddCommonDivisor_84 : decode b_E_oddCommonDivisor 84 = .ok (.goto (-48), 3) := by decide +kernel
theorem d_E_oddCommonDivisor_87 : decode b_E_oddCommonDivisor 87 = .ok (.aload_n 2, 1) := by decide +kernel
theorem d_E_oddCommonDivisor_88 : decode b_E_oddCommonDivisor 88 = .ok (.areturn, 1) := by decide +kernel
theorem d_M_init_0 : decode b_M_init 0 = .ok (.aload_n 0, 1) := by decide +kernel
theorem d_M_init_1 : decode b_M_init 1 = .ok (.invokespecial 1, 3) := by decide +kernel
theorem d_M_init_4 : decode b_M_init 4 = .ok (.aload_n 0, 1) := by decide +kernel
theorem d_M_init_5 : decode b_M_init 5 = .ok (.sipush 13200, 3) := by decide +kernel
theorem d_M_init_8 : decode b_M_init 8 = .ok (.newarray .int, 2) := by decide +kernel
theorem d_M_init_10 : decode b_M_init 10 = .ok (.putfield 7, 3) := by decide +kernel
theorem d_M_init_13 : decode b_M_init 13 = .ok (.aload_n 0, 1) := by decide +kernel
theorem d_M_init_14 : decode b_M_init 14 = .ok (.bipush 120, 2) := by decide +kernel
theorem d_M_init_16 : decode b_M_init 16 = .ok (.newarray .int, 2) := by decide +kernel
theorem d_M_init_18 : decode b_M_init 18 = .ok (.putfield 13, 3) := by decide +kernel
theorem d_M_init_21 : decode b_M_init 21 = .ok (.aload_n 0, 1) := by decide +kernel
theorem d_M_init_22 : decode b_M_init 22 = .ok (.bipush 120, 2) := by decide +kernel
theorem d_M_init_24 : decode b_M_init 24 = .ok (.newarray .int, 2) := by decide +kernel
theorem d_M_init_26 : decode b_M_init 26 = .ok (.putfield 16, 3) := by decide +kernel
theorem d_M_init_29 : decode b_M_init 29 = .ok (.aload_n 0, 1) := by decide +kernel
theorem d_M_init_30 : decode b_M_init 30 = .ok (.sipush 224, 3) := by decide +kernel
theorem d_M_init_33 : decode b_M_init 33 = .ok (.newarray .int, 2) := by decide +kernel
theorem d_M_init_35 : decode b_M_init 35 = .ok (.putfield 19, 3) := by decide +kernel
theorem d_M_init_38 : decode b_M_init 38 = .ok (.aload_n 0, 1) := by decide +kernel
theorem d_M_init_39 : decode b_M_init 39 = .ok (.sipush 224, 3) := by decide +kernel
theorem d_M_init_42 : decode b_M_init 42 = .ok (.newarray .int, 2) := by decide +kernel
theorem d_M_init_44 : decode b_M_init 44 = .ok (.putfield 22, 3) := by decide +kernel
theorem d_M_init_47 : decode b_M_init 47 = .ok (.aload_n 0, 1) := by decide +kernel
theorem d_M_init_48 : decode b_M_init 48 = .ok (.iconst 4, 1) := by decide +kernel
theorem d_M_init_49 : decode b_M_init 49 = .ok (.newarray .int, 2) := by decide +kernel
theorem d_M_init_51 : decode b_M_init 51 = .ok (.putfield 25, 3) := by decide +kernel
theorem d_M_init_54 : decode b_M_init 54 = .ok (.aload_n 0, 1) := by decide +kernel
theorem d_M_init_55 : decode b_M_init 55 = .ok (.iconst 3, 1) := by decide +kernel
theorem d_M_init_56 : decode b_M_init 56 = .ok (.newarray .int, 2) := by decide +kernel
theorem d_M_init_58 : decode b_M_init 58 = .ok (.putfield 28, 3) := by decide +kernel
theorem d_M_init_61 : decode b_M_init 61 = .ok (.aload_n 0, 1) := by decide +kernel
theorem d_M_init_62 : decode b_M_init 62 = .ok (.bipush 12, 2) := by decide +kernel
theorem d_M_init_64 : decode b_M_init 64 = .ok (.newarray .int, 2) := by decide +kernel
theorem d_M_init_66 : decode b_M_init 66 = .ok (.putfield 31, 3) := by decide +kernel
theorem d_M_init_69 : decode b_M_init 69 = .ok (.aload_n 0, 1) := by decide +kernel
theorem d_M_init_70 : decode b_M_init 70 = .ok (.getfield 25, 3) := by decide +kernel
theorem d_M_init_73 : decode b_M_init 73 = .ok (.iconst 0, 1) := by decide +kernel
theorem d_M_init_74 : decode b_M_init 74 = .ok (.iconst 1, 1) := by decide +kernel
theorem d_M_init_75 : decode b_M_init 75 = .ok (.iastore, 1) := by decide +kernel
theorem d_M_init_76 : decode b_M_init 76 = .ok (.aload_n 0, 1) := by decide +kernel
theorem d_M_init_77 : decode b_M_init 77 = .ok (.getfield 25, 3) := by decide +kernel
theorem d_M_init_80 : decode b_M_init 80 = .ok (.iconst 3, 1) := by decide +kernel
theorem d_M_init_81 : decode b_M_init 81 = .ok (.iconst 1, 1) := by decide +kernel
theorem d_M_init_82 : decode b_M_init 82 = .ok (.iastore, 1) := by decide +kernel
theorem d_M_init_83 : decode b_M_init 83 = .ok (.aload_n 0, 1) := by decide +kernel
theorem d_M_init_84 : decode b_M_init 84 = .ok (.getfield 28, 3) := by decide +kernel
theorem d_M_init_87 : decode b_M_init 87 = .ok (.iconst 0, 1) := by decide +kernel
theorem d_M_init_88 : decode b_M_init 88 = .ok (.iconst 1, 1) := by decide +kernel
theorem d_M_init_89 : decode b_M_init 89 = .ok (.iastore, 1) := by decide +kernel
theorem d_M_init_90 : decode b_M_init 90 = .ok (.aload_n 0, 1) := by decide +kernel
theorem d_M_init_91 : decode b_M_init 91 = .ok (.getfield 28, 3) := by decide +kernel
theorem d_M_init_94 : decode b_M_init 94 = .ok (.iconst 2, 1) := by decide +kernel
theorem d_M_init_95 : decode b_M_init 95 = .ok (.iconst 1, 1) := by decide +kernel
theorem d_M_init_96 : decode b_M_init 96 = .ok (.iastore, 1) := by decide +kernel
theorem d_M_init_97 : decode b_M_init 97 = .ok (.aload_n 0, 1) := by decide +kernel
theorem d_M_init_98 : decode b_M_init 98 = .ok (.iconst 0, 1) := by decide +kernel
theorem d_M_init_99 : decode b_M_init 99 = .ok (.iconst 0, 1) := by decide +kernel
theorem d_M_init_100 : decode b_M_init 100 = .ok (.iconst 1, 1) := by decide +kernel
theorem d_M_init_101 : decode b_M_init 101 = .ok (.iconst 0, 1) := by decide +kernel
theorem d_M_init_102 : decode b_M_init 102 = .ok (.iconst 1, 1) := by decide +kernel
theorem d_M_init_103 : decode b_M_init 103 = .ok (.invokevirtual 34, 3) := by decide +kernel
theorem d_M_init_106 : decode b_M_init 106 = .ok (.return_, 1) := by decide +kernel
theorem d_M_put_0 : decode b_M_put 0 = .ok (.iload_n 2, 1) := by decide +kernel
theorem d_M_put_1 : decode b_M_put 1 = .ok (.ifCond .ge 9, 3) := by decide +kernel
theorem d_M_put_4 : decode b_M_put 4 = .ok (.iload_n 2, 1) := by decide +kernel
theorem d_M_put_5 : decode b_M_put 5 = .ok (.i2l, 1) := by decide +kernel
theorem d_M_put_6 : decode b_M_put 6 = .ok (.lneg, 1) := by decide +kernel
theorem d_M_put_7 : decode b_M_put 7 = .ok (.goto 5, 3) := by decide +kernel
theorem d_M_put_10 : decode b_M_put 10 = .ok (.iload_n 2, 1) := by decide +kernel
theorem d_M_put_11 : decode b_M_put 11 = .ok (.i2l, 1) := by decide +kernel
theorem d_M_put_12 : decode b_M_put 12 = .ok (.lstore_n 3, 1) := by decide +kernel
theorem d_M_put_13 : decode b_M_put 13 = .ok (.aload_n 0, 1) := by decide +kernel
theorem d_M_put_14 : decode b_M_put 14 = .ok (.getfield 16, 3) := by decide +kernel
theorem d_M_put_17 : decode b_M_put 17 = .ok (.iload_n 1, 1) := by decide +kernel
theorem d_M_put_18 : decode b_M_put 18 = .ok (.iload_n 2, 1) := by decide +kernel
theorem d_M_put_19 : decode b_M_put 19 = .ok (.ifCond .ge 7, 3) := by decide +kernel
theorem d_M_put_22 : decode b_M_put 22 = .ok (.iconst (-1), 1) := by decide +kernel
theorem d_M_put_23 : decode b_M_put 23 = .ok (.goto 12, 3) := by decide +kernel
theorem d_M_put_26 : decode b_M_put 26 = .ok (.iload_n 2, 1) := by decide +kernel
theorem d_M_put_27 : decode b_M_put 27 = .ok (.ifCond .le 7, 3) := by decide +kernel
theorem d_M_put_30 : decode b_M_put 30 = .ok (.iconst 1, 1) := by decide +kernel
theorem d_M_put_31 : decode b_M_put 31 = .ok (.goto 4, 3) := by decide +kernel
theorem d_M_put_34 : decode b_M_put 34 = .ok (.iconst 0, 1) := by decide +kernel
theorem d_M_put_35 : decode b_M_put 35 = .ok (.iastore, 1) := by decide +kernel
theorem d_M_put_36 : decode b_M_put 36 = .ok (.aload_n 0, 1) := by decide +kernel
theorem d_M_put_37 : decode b_M_put 37 = .ok (.getfield 13, 3) := by decide +kernel
theorem d_M_put_40 : decode b_M_put 40 = .ok (.iload_n 1, 1) := by decide +kernel
theorem d_M_put_41 : decode b_M_put 41 = .ok (.iconst 0, 1) := by decide +kernel
theorem d_M_put_42 : decode b_M_put 42 = .ok (.iastore, 1) := by decide +kernel
theorem d_M_put_43 : decode b_M_put 43 = .ok (.lload_n 3, 1) := by decide +kernel
theorem d_M_put_44 : decode b_M_put 44 = .ok (.lconst 0, 1) := by decide +kernel
theorem d_M_put_45 : decode b_M_put 45 = .ok (.lcmp, 1) := by decide +kernel
theorem d_M_put_46 : decode b_M_put 46 = .ok (.ifCond .le 43, 3) := by decide +kernel
theorem d_M_put_49 : decode b_M_put 49 = .ok (.aload_n 0, 1) := by decide +kernel
theorem d_M_put_50 : decode b_M_put 50 = .ok (.getfield 7, 3) := by decide +kernel
theorem d_M_put_53 : decode b_M_put 53 = .ok (.bipush 110, 2) := by decide +kernel
theorem d_M_put_55 : decode b_M_put 55 = .ok (.iload_n 1, 1) := by decide +kernel
theorem d_M_put_56 : decode b_M_put 56 = .ok (.imul, 1) := by decide +kernel
theorem d_M_put_57 : decode b_M_put 57 = .ok (.aload_n 0, 1) := by decide +kernel
theorem d_M_put_58 : decode b_M_put 58 = .ok (.getfield 13, 3) := by decide +kernel
theorem d_M_put_61 : decode b_M_put 61 = .ok (.iload_n 1, 1) := by decide +kernel
theorem d_M_put_62 : decode b_M_put 62 = .ok (.iaload, 1) := by decide +kernel
