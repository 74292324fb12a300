theorem d_M_common_118 : decode b_M_common 118 = .ok (.invokevirtual 78, 3) := by decide +kernel
theorem d_M_common_121 : decode b_M_common 121 = .ok (.return_, 1) := by decide +kernel
theorem d_M_shrink_0 : decode b_M_shrink 0 = .ok (.bipush 119, 2) := by decide +kernel
theorem d_M_shrink_2 : decode b_M_shrink 2 = .ok (.istore_n 3, 1) := by decide +kernel
theorem d_M_shrink_3 : decode b_M_shrink 3 = .ok (.aload_n 0, 1) := by decide +kernel
theorem d_M_shrink_4 : decode b_M_shrink 4 = .ok (.iload_n 3, 1) := by decide +kernel
theorem d_M_shrink_5 : decode b_M_shrink 5 = .ok (.iload_n 1, 1) := by decide +kernel
theorem d_M_shrink_6 : decode b_M_shrink 6 = .ok (.iload_n 2, 1) := by decide +kernel
theorem d_M_shrink_7 : decode b_M_shrink 7 = .ok (.iadd, 1) := by decide +kernel
theorem d_M_shrink_8 : decode b_M_shrink 8 = .ok (.iconst 1, 1) := by decide +kernel
theorem d_M_shrink_9 : decode b_M_shrink 9 = .ok (.isub, 1) := by decide +kernel
theorem d_M_shrink_10 : decode b_M_shrink 10 = .ok (.invokevirtual 78, 3) := by decide +kernel
theorem d_M_shrink_13 : decode b_M_shrink 13 = .ok (.iconst 0, 1) := by decide +kernel
theorem d_M_shrink_14 : decode b_M_shrink 14 = .ok (.istore 4, 2) := by decide +kernel
theorem d_M_shrink_16 : decode b_M_shrink 16 = .ok (.iload 4, 2) := by decide +kernel
theorem d_M_shrink_18 : decode b_M_shrink 18 = .ok (.iload_n 2, 1) := by decide +kernel
theorem d_M_shrink_19 : decode b_M_shrink 19 = .ok (.iconst 1, 1) := by decide +kernel
theorem d_M_shrink_20 : decode b_M_shrink 20 = .ok (.isub, 1) := by decide +kernel
theorem d_M_shrink_21 : decode b_M_shrink 21 = .ok (.if_icmp .ge 22, 3) := by decide +kernel
theorem d_M_shrink_24 : decode b_M_shrink 24 = .ok (.aload_n 0, 1) := by decide +kernel
theorem d_M_shrink_25 : decode b_M_shrink 25 = .ok (.iload_n 3, 1) := by decide +kernel
theorem d_M_shrink_26 : decode b_M_shrink 26 = .ok (.iload_n 1, 1) := by decide +kernel
theorem d_M_shrink_27 : decode b_M_shrink 27 = .ok (.iload 4, 2) := by decide +kernel
theorem d_M_shrink_29 : decode b_M_shrink 29 = .ok (.iadd, 1) := by decide +kernel
theorem d_M_shrink_30 : decode b_M_shrink 30 = .ok (.bipush 118, 2) := by decide +kernel
theorem d_M_shrink_32 : decode b_M_shrink 32 = .ok (.bipush 117, 2) := by decide +kernel
theorem d_M_shrink_34 : decode b_M_shrink 34 = .ok (.invokevirtual 84, 3) := by decide +kernel
theorem d_M_shrink_37 : decode b_M_shrink 37 = .ok (.iinc 4 1, 3) := by decide +kernel
theorem d_M_shrink_40 : decode b_M_shrink 40 = .ok (.goto (-24), 3) := by decide +kernel
theorem d_M_shrink_43 : decode b_M_shrink 43 = .ok (.iconst 0, 1) := by decide +kernel
theorem d_M_shrink_44 : decode b_M_shrink 44 = .ok (.istore 4, 2) := by decide +kernel
theorem d_M_shrink_46 : decode b_M_shrink 46 = .ok (.iload 4, 2) := by decide +kernel
theorem d_M_shrink_48 : decode b_M_shrink 48 = .ok (.iload_n 2, 1) := by decide +kernel
theorem d_M_shrink_49 : decode b_M_shrink 49 = .ok (.if_icmp .ge 22, 3) := by decide +kernel
theorem d_M_shrink_52 : decode b_M_shrink 52 = .ok (.aload_n 0, 1) := by decide +kernel
theorem d_M_shrink_53 : decode b_M_shrink 53 = .ok (.iload_n 1, 1) := by decide +kernel
theorem d_M_shrink_54 : decode b_M_shrink 54 = .ok (.iload 4, 2) := by decide +kernel
theorem d_M_shrink_56 : decode b_M_shrink 56 = .ok (.iadd, 1) := by decide +kernel
theorem d_M_shrink_57 : decode b_M_shrink 57 = .ok (.iload_n 1, 1) := by decide +kernel
theorem d_M_shrink_58 : decode b_M_shrink 58 = .ok (.iload 4, 2) := by decide +kernel
theorem d_M_shrink_60 : decode b_M_shrink 60 = .ok (.iadd, 1) := by decide +kernel
theorem d_M_shrink_61 : decode b_M_shrink 61 = .ok (.iload_n 3, 1) := by decide +kernel
theorem d_M_shrink_62 : decode b_M_shrink 62 = .ok (.invokevirtual 87, 3) := by decide +kernel
theorem d_M_shrink_65 : decode b_M_shrink 65 = .ok (.iinc 4 1, 3) := by decide +kernel
theorem d_M_shrink_68 : decode b_M_shrink 68 = .ok (.goto (-22), 3) := by decide +kernel
theorem d_M_shrink_71 : decode b_M_shrink 71 = .ok (.return_, 1) := by decide +kernel
theorem d_M_begin_0 : decode b_M_begin 0 = .ok (.aload_n 0, 1) := by decide +kernel
theorem d_M_begin_1 : decode b_M_begin 1 = .ok (.iconst 0, 1) := by decide +kernel
theorem d_M_begin_2 : decode b_M_begin 2 = .ok (.putfield 90, 3) := by decide +kernel
theorem d_M_begin_5 : decode b_M_begin 5 = .ok (.aload_n 0, 1) := by decide +kernel
theorem d_M_begin_6 : decode b_M_begin 6 = .ok (.iconst 0, 1) := by decide +kernel
theorem d_M_begin_7 : decode b_M_begin 7 = .ok (.putfield 94, 3) := by decide +kernel
theorem d_M_begin_10 : decode b_M_begin 10 = .ok (.aload_n 0, 1) := by decide +kernel
theorem d_M_begin_11 : decode b_M_begin 11 = .ok (.iconst 0, 1) := by decide +kernel
theorem d_M_begin_12 : decode b_M_begin 12 = .ok (.putfield 97, 3) := by decide +kernel
theorem d_M_begin_15 : decode b_M_begin 15 = .ok (.aload_n 0, 1) := by decide +kernel
theorem d_M_begin_16 : decode b_M_begin 16 = .ok (.iconst 0, 1) := by decide +kernel
theorem d_M_begin_17 : decode b_M_begin 17 = .ok (.iload_n 1, 1) := by decide +kernel
theorem d_M_begin_18 : decode b_M_begin 18 = .ok (.invokevirtual 101, 3) := by decide +kernel
theorem d_M_begin_21 : decode b_M_begin 21 = .ok (.aload_n 0, 1) := by decide +kernel
theorem d_M_begin_22 : decode b_M_begin 22 = .ok (.iconst 1, 1) := by decide +kernel
theorem d_M_begin_23 : decode b_M_begin 23 = .ok (.iload_n 2, 1) := by decide +kernel
theorem d_M_begin_24 : decode b_M_begin 24 = .ok (.invokevirtual 101, 3) := by decide +kernel
theorem d_M_begin_27 : decode b_M_begin 27 = .ok (.aload_n 0, 1) := by decide +kernel
theorem d_M_begin_28 : decode b_M_begin 28 = .ok (.iconst 2, 1) := by decide +kernel
theorem d_M_begin_29 : decode b_M_begin 29 = .ok (.iload_n 3, 1) := by decide +kernel
theorem d_M_begin_30 : decode b_M_begin 30 = .ok (.invokevirtual 101, 3) := by decide +kernel
theorem d_M_begin_33 : decode b_M_begin 33 = .ok (.aload_n 0, 1) := by decide +kernel
theorem d_M_begin_34 : decode b_M_begin 34 = .ok (.iconst 3, 1) := by decide +kernel
theorem d_M_begin_35 : decode b_M_begin 35 = .ok (.iload 4, 2) := by decide +kernel
theorem d_M_begin_37 : decode b_M_begin 37 = .ok (.invokevirtual 101, 3) := by decide +kernel
theorem d_M_begin_40 : decode b_M_begin 40 = .ok (.aload_n 0, 1) := by decide +kernel
theorem d_M_begin_41 : decode b_M_begin 41 = .ok (.iconst 4, 1) := by decide +kernel
theorem d_M_begin_42 : decode b_M_begin 42 = .ok (.iload 5, 2) := by decide +kernel
theorem d_M_begin_44 : decode b_M_begin 44 = .ok (.invokevirtual 101, 3) := by decide +kernel
theorem d_M_begin_47 : decode b_M_begin 47 = .ok (.aload_n 0, 1) := by decide +kernel
theorem d_M_begin_48 : decode b_M_begin 48 = .ok (.iconst 5, 1) := by decide +kernel
theorem d_M_begin_49 : decode b_M_begin 49 = .ok (.iconst 1, 1) := by decide +kernel
theorem d_M_begin_50 : decode b_M_begin 50 = .ok (.invokevirtual 101, 3) := by decide +kernel
theorem d_M_begin_53 : decode b_M_begin 53 = .ok (.aload_n 0, 1) := by decide +kernel
theorem d_M_begin_54 : decode b_M_begin 54 = .ok (.bipush 24, 2) := by decide +kernel
theorem d_M_begin_56 : decode b_M_begin 56 = .ok (.iconst 0, 1) := by decide +kernel
theorem d_M_begin_57 : decode b_M_begin 57 = .ok (.invokevirtual 104, 3) := by decide +kernel
theorem d_M_begin_60 : decode b_M_begin 60 = .ok (.return_, 1) := by decide +kernel
theorem d_M_keep_0 : decode b_M_keep 0 = .ok (.iconst 0, 1) := by decide +kernel
theorem d_M_keep_1 : decode b_M_keep 1 = .ok (.istore_n 3, 1) := by decide +kernel
theorem d_M_keep_2 : decode b_M_keep 2 = .ok (.iload_n 3, 1) := by decide +kernel
theorem d_M_keep_3 : decode b_M_keep 3 = .ok (.bipush 6, 2) := by decide +kernel
theorem d_M_keep_5 : decode b_M_keep 5 = .ok (.if_icmp .ge 19, 3) := by decide +kernel
theorem d_M_keep_8 : decode b_M_keep 8 = .ok (.aload_n 0, 1) := by decide +kernel
theorem d_M_keep_9 : decode b_M_keep 9 = .ok (.iload_n 1, 1) := by decide +kernel
theorem d_M_keep_10 : decode b_M_keep 10 = .ok (.iload_n 3, 1) := by decide +kernel
theorem d_M_keep_11 : decode b_M_keep 11 = .ok (.iadd, 1) := by decide +kernel
theorem d_M_keep_12 : decode b_M_keep 12 = .ok (.iload_n 2, 1) := by decide +kernel
theorem d_M_keep_13 : decode b_M_keep 13 = .ok (.iload_n 3, 1) := by decide +kernel
theorem d_M_keep_14 : decode b_M_keep 14 = .ok (.iadd, 1) := by decide +kernel
theorem d_M_keep_15 : decode b_M_keep 15 = .ok (.invokevirtual 78, 3) := by decide +kernel
theorem d_M_keep_18 : decode b_M_keep 18 = .ok (.iinc 3 1, 3) := by decide +kernel
theorem d_M_keep_21 : decode b_M_keep 21 = .ok (.goto (-19), 3) := by decide +kernel
theorem d_M_keep_24 : decode b_M_keep 24 = .ok (.return_, 1) := by decide +kernel
theorem d_M_bound_0 : decode b_M_bound 0 = .ok (.iload_n 0, 1) := by decide +kernel
theorem d_M_bound_1 : decode b_M_bound 1 = .ok (.iload_n 1, 1) := by decide +kernel
theorem d_M_bound_2 : decode b_M_bound 2 = .ok (.ineg, 1) := by decide +kernel
theorem d_M_bound_3 : decode b_M_bound 3 = .ok (.if_icmp .lt 12, 3) := by decide +kernel
theorem d_M_bound_6 : decode b_M_bound 6 = .ok (.iload_n 0, 1) := by decide +kernel
theorem d_M_bound_7 : decode b_M_bound 7 = .ok (.iload_n 1, 1) := by decide +kernel
theorem d_M_bound_8 : decode b_M_bound 8 = .ok (.if_icmp .gt 7, 3) := by decide +kernel
theorem d_M_bound_11 : decode b_M_bound 11 = .ok (.iconst 1, 1) := by decide +kernel
theorem d_M_bound_12 : decode b_M_bound 12 = .ok (.goto 4, 3) := by decide +kernel
theorem d_M_bound_15 : decode b_M_bound 15 = .ok (.iconst 0, 1) := by decide +kernel
theorem d_M_bound_16 : decode b_M_bound 16 = .ok (.ireturn, 1) := by decide +kernel
theorem d_M_positive_0 : decode b_M_positive 0 = .ok (.iload_n 0, 1) := by decide +kernel
theorem d_M_positive_1 : decode b_M_positive 1 = .ok (.ifCond .le 16, 3) := by decide +kernel
theorem d_M_positive_4 : decode b_M_positive 4 = .ok (.iload_n 0, 1) := by decide +kernel
theorem d_M_positive_5 : decode b_M_positive 5 = .ok (.iload_n 2, 1) := by decide +kernel
theorem d_M_positive_6 : decode b_M_positive 6 = .ok (.imul, 1) := by decide +kernel
theorem d_M_positive_7 : decode b_M_positive 7 = .ok (.iload_n 1, 1) := by decide +kernel
theorem d_M_positive_8 : decode b_M_positive 8 = .ok (.iload_n 1, 1) := by decide +kernel
theorem d_M_positive_9 : decode b_M_positive 9 = .ok (.imul, 1) := by decide +kernel
theorem d_M_positive_10 : decode b_M_positive 10 = .ok (.if_icmp .le 7, 3) := by decide +kernel
theorem d_M_positive_13 : decode b_M_positive 13 = .ok (.iconst 1, 1) := by decide +kernel
theorem d_M_positive_14 : decode b_M_positive 14 = .ok (.goto 4, 3) := by decide +kernel
theorem d_M_positive_17 : decode b_M_positive 17 = .ok (.iconst 0, 1) := by decide +kernel
theorem d_M_positive_18 : decode b_M_positive 18 = .ok (.ireturn, 1) := by decide +kernel
theorem d_M_initial_0 : decode b_M_initial 0 = .ok (.iload_n 1, 1) := by decide +kernel
theorem d_M_initial_1 : decode b_M_initial 1 = .ok (.bipush 99, 2) := by decide +kernel
theorem d_M_initial_3 : decode b_M_initial 3 = .ok (.invokestatic 107, 3) := by decide +kernel
theorem d_M_initial_6 : decode b_M_initial 6 = .ok (.ifCond .eq 41, 3) := by decide +kernel
theorem d_M_initial_9 : decode b_M_initial 9 = .ok (.iload_n 2, 1) := by decide +kernel
theorem d_M_initial_10 : decode b_M_initial 10 = .ok (.bipush 99, 2) := by decide +kernel
theorem d_M_initial_12 : decode b_M_initial 12 = .ok (.invokestatic 107, 3) := by decide +kernel
theorem d_M_initial_15 : decode b_M_initial 15 = .ok (.ifCond .eq 32, 3) := by decide +kernel
theorem d_M_initial_18 : decode b_M_initial 18 = .ok (.iload_n 3, 1) := by decide +kernel
theorem d_M_initial_19 : decode b_M_initial 19 = .ok (.bipush 99, 2) := by decide +kernel
theorem d_M_initial_21 : decode b_M_initial 21 = .ok (.invokestatic 107, 3) := by decide +kernel
theorem d_M_initial_24 : decode b_M_initial 24 = .ok (.ifCond .eq 23, 3) := by decide +kernel
theorem d_M_initial_27 : decode b_M_initial 27 = .ok (.iload 4, 2) := by decide +kernel
theorem d_M_initial_29 : decode b_M_initial 29 = .ok (.bipush 99, 2) := by decide +kernel
theorem d_M_initial_31 : decode b_M_initial 31 = .ok (.invokestatic 107, 3) := by decide +kernel
theorem d_M_initial_34 : decode b_M_initial 34 = .ok (.ifCond .eq 13, 3) := by decide +kernel
theorem d_M_initial_37 : decode b_M_initial 37 = .ok (.iload 5, 2) := by decide +kernel
theorem d_M_initial_39 : decode b_M_initial 39 = .ok (.bipush 99, 2) := by decide +kernel
theorem d_M_initial_41 : decode b_M_initial 41 = .ok (.invokestatic 107, 3) := by decide +kernel
theorem d_M_initial_44 : decode b_M_initial 44 = .ok (.ifCond .ne 6, 3) := by decide +kernel
theorem d_M_initial_47 : decode b_M_initial 47 = .ok (.bipush (-3), 2) := by decide +kernel
theorem d_M_initial_49 : decode b_M_initial 49 = .ok (.ireturn, 1) := by decide +kernel
theorem d_M_initial_50 : decode b_M_initial 50 = .ok (.iload_n 3, 1) := by decide +kernel
theorem d_M_initial_51 : decode b_M_initial 51 = .ok (.iload 4, 2) := by decide +kernel
theorem d_M_initial_53 : decode b_M_initial 53 = .ok (.iload 5, 2) := by decide +kernel
theorem d_M_initial_55 : decode b_M_initial 55 = .ok (.invokestatic 110, 3) := by decide +kernel
theorem d_M_initial_58 : decode b_M_initial 58 = .ok (.ifCond .ne 6, 3) := by decide +kernel
theorem d_M_initial_61 : decode b_M_initial 61 = .ok (.bipush (-4), 2) := by decide +kernel
theorem d_M_initial_63 : decode b_M_initial 63 = .ok (.ireturn, 1) := by decide +kernel
theorem d_M_initial_64 : decode b_M_initial 64 = .ok (.aload_n 0, 1) := by decide +kernel
theorem d_M_initial_65 : decode b_M_initial 65 = .ok (.iload_n 1, 1) := by decide +kernel
theorem d_M_initial_66 : decode b_M_initial 66 = .ok (.iload_n 2, 1) := by decide +kernel
theorem d_M_initial_67 : decode b_M_initial 67 = .ok (.iload_n 3, 1) := by decide +kernel
theorem d_M_initial_68 : decode b_M_initial 68 = .ok (.iload 4, 2) := by decide +kernel
theorem d_M_initial_70 : decode b_M_initial 70 = .ok (.iload 5, 2) := by decide +kernel
theorem d_M_initial_72 : decode b_M_initial 72 = .ok (.invokevirtual 34, 3) := by decide +kernel
theorem d_M_initial_75 : decode b_M_initial 75 = .ok (.iconst 0, 1) := by decide +kernel
theorem d_M_initial_76 : decode b_M_initial 76 = .ok (.ireturn, 1) := by decide +kernel
theorem d_M_step_0 : decode b_M_step 0 = .ok (.iload_n 1, 1) := by decide +kernel
theorem d_M_step_1 : decode b_M_step 1 = .ok (.iconst 3, 1) := by decide +kernel
theorem d_M_step_2 : decode b_M_step 2 = .ok (.invokestatic 107, 3) := by decide +kernel
theorem d_M_step_5 : decode b_M_step 5 = .ok (.ifCond .eq 28, 3) := by decide +kernel
theorem d_M_step_8 : decode b_M_step 8 = .ok (.iload_n 2, 1) := by decide +kernel
theorem d_M_step_9 : decode b_M_step 9 = .ok (.iconst 3, 1) := by decide +kernel
theorem d_M_step_10 : decode b_M_step 10 = .ok (.invokestatic 107, 3) := by decide +kernel
theorem d_M_step_13 : decode b_M_step 13 = .ok (.ifCond .eq 20, 3) := by decide +kernel
theorem d_M_step_16 : decode b_M_step 16 = .ok (.iload_n 3, 1) := by decide +kernel
theorem d_M_step_17 : decode b_M_step 17 = .ok (.iconst 3, 1) := by decide +kernel
theorem d_M_step_18 : decode b_M_step 18 = .ok (.invokestatic 107, 3) := by decide +kernel
theorem d_M_step_21 : decode b_M_step 21 = .ok (.ifCond .eq 12, 3) := by decide +kernel
theorem d_M_step_24 : decode b_M_step 24 = .ok (.iload 4, 2) := by decide +kernel
theorem d_M_step_26 : decode b_M_step 26 = .ok (.iconst 3, 1) := by decide +kernel
theorem d_M_step_27 : decode b_M_step 27 = .ok (.invokestatic 107, 3) := by decide +kernel
theorem d_M_step_30 : decode b_M_step 30 = .ok (.ifCond .ne 5, 3) := by decide +kernel
theorem d_M_step_33 : decode b_M_step 33 = .ok (.iconst 0, 1) := by decide +kernel
theorem d_M_step_34 : decode b_M_step 34 = .ok (.ireturn, 1) := by decide +kernel
theorem d_M_step_35 : decode b_M_step 35 = .ok (.aload_n 0, 1) := by decide +kernel
theorem d_M_step_36 : decode b_M_step 36 = .ok (.getfield 25, 3) := by decide +kernel
theorem d_M_step_39 : decode b_M_step 39 = .ok (.iconst 0, 1) := by decide +kernel
theorem d_M_step_40 : decode b_M_step 40 = .ok (.iload_n 1, 1) := by decide +kernel
theorem d_M_step_41 : decode b_M_step 41 = .ok (.iastore, 1) := by decide +kernel
theorem d_M_step_42 : decode b_M_step 42 = .ok (.aload_n 0, 1) := by decide +kernel
theorem d_M_step_43 : decode b_M_step 43 = .ok (.getfield 25, 3) := by decide +kernel
theorem d_M_step_46 : decode b_M_step 46 = .ok (.iconst 1, 1) := by decide +kernel
theorem d_M_step_47 : decode b_M_step 47 = .ok (.iload_n 2, 1) := by decide +kernel
theorem d_M_step_48 : decode b_M_step 48 = .ok (.iastore, 1) := by decide +kernel
theorem d_M_step_49 : decode b_M_step 49 = .ok (.aload_n 0, 1) := by decide +kernel
theorem d_M_step_50 : decode b_M_step 50 = .ok (.getfield 25, 3) := by decide +kernel
theorem d_M_step_53 : decode b_M_step 53 = .ok (.iconst 2, 1) := by decide +kernel
theorem d_M_step_54 : decode b_M_step 54 = .ok (.iload_n 3, 1) := by decide +kernel
theorem d_M_step_55 : decode b_M_step 55 = .ok (.iastore, 1) := by decide +kernel
theorem d_M_step_56 : decode b_M_step 56 = .ok (.aload_n 0, 1) := by decide +kernel
theorem d_M_step_57 : decode b_M_step 57 = .ok (.getfield 25, 3) := by decide +kernel
theorem d_M_step_60 : decode b_M_step 60 = .ok (.iconst 3, 1) := by decide +kernel
theorem d_M_step_61 : decode b_M_step 61 = .ok (.iload 4, 2) := by decide +kernel
theorem d_M_step_63 : decode b_M_step 63 = .ok (.iastore, 1) := by decide +kernel
theorem d_M_step_64 : decode b_M_step 64 = .ok (.iconst 1, 1) := by decide +kernel
theorem d_M_step_65 : decode b_M_step 65 = .ok (.ireturn, 1) := by decide +kernel
theorem d_M_noise_0 : decode b_M_noise 0 = .ok (.iload_n 1, 1) := by decide +kernel
theorem d_M_noise_1 : decode b_M_noise 1 = .ok (.bipush 99, 2) := by decide +kernel
theorem d_M_noise_3 : decode b_M_noise 3 = .ok (.invokestatic 107, 3) := by decide +kernel
theorem d_M_noise_6 : decode b_M_noise 6 = .ok (.ifCond .eq 21, 3) := by decide +kernel
theorem d_M_noise_9 : decode b_M_noise 9 = .ok (.iload_n 2, 1) := by decide +kernel
theorem d_M_noise_10 : decode b_M_noise 10 = .ok (.bipush 99, 2) := by decide +kernel
theorem d_M_noise_12 : decode b_M_noise 12 = .ok (.invokestatic 107, 3) := by decide +kernel
theorem d_M_noise_15 : decode b_M_noise 15 = .ok (.ifCond .eq 12, 3) := by decide +kernel
theorem d_M_noise_18 : decode b_M_noise 18 = .ok (.iload_n 3, 1) := by decide +kernel
theorem d_M_noise_19 : decode b_M_noise 19 = .ok (.bipush 99, 2) := by decide +kernel
theorem d_M_noise_21 : decode b_M_noise 21 = .ok (.invokestatic 107, 3) := by decide +kernel
theorem d_M_noise_24 : decode b_M_noise 24 = .ok (.ifCond .ne 6, 3) := by decide +kernel
theorem d_M_noise_27 : decode b_M_noise 27 = .ok (.bipush (-3), 2) := by decide +kernel
theorem d_M_noise_29 : decode b_M_noise 29 = .ok (.ireturn, 1) := by decide +kernel
theorem d_M_noise_30 : decode b_M_noise 30 = .ok (.iload_n 1, 1) := by decide +kernel
theorem d_M_noise_31 : decode b_M_noise 31 = .ok (.iload_n 2, 1) := by decide +kernel
theorem d_M_noise_32 : decode b_M_noise 32 = .ok (.iload_n 3, 1) := by decide +kernel
theorem d_M_noise_33 : decode b_M_noise 33 = .ok (.invokestatic 110, 3) := by decide +kernel
theorem d_M_noise_36 : decode b_M_noise 36 = .ok (.ifCond .ne 6, 3) := by decide +kernel
theorem d_M_noise_39 : decode b_M_noise 39 = .ok (.bipush (-4), 2) := by decide +kernel
theorem d_M_noise_41 : decode b_M_noise 41 = .ok (.ireturn, 1) := by decide +kernel
theorem d_M_noise_42 : decode b_M_noise 42 = .ok (.aload_n 0, 1) := by decide +kernel
theorem d_M_noise_43 : decode b_M_noise 43 = .ok (.getfield 28, 3) := by decide +kernel
theorem d_M_noise_46 : decode b_M_noise 46 = .ok (.iconst 0, 1) := by decide +kernel
theorem d_M_noise_47 : decode b_M_noise 47 = .ok (.iload_n 1, 1) := by decide +kernel
theorem d_M_noise_48 : decode b_M_noise 48 = .ok (.iastore, 1) := by decide +kernel
theorem d_M_noise_49 : decode b_M_noise 49 = .ok (.aload_n 0, 1) := by decide +kernel
theorem d_M_noise_50 : decode b_M_noise 50 = .ok (.getfield 28, 3) := by decide +kernel
theorem d_M_noise_53 : decode b_M_noise 53 = .ok (.iconst 1, 1) := by decide +kernel
theorem d_M_noise_54 : decode b_M_noise 54 = .ok (.iload_n 2, 1) := by decide +kernel
theorem d_M_noise_55 : decode b_M_noise 55 = .ok (.iastore, 1) := by decide +kernel
theorem d_M_noise_56 : decode b_M_noise 56 = .ok (.aload_n 0, 1) := by decide +kernel
theorem d_M_noise_57 : decode b_M_noise 57 = .ok (.getfield 28, 3) := by decide +kernel
theorem d_M_noise_60 : decode b_M_noise 60 = .ok (.iconst 2, 1) := by decide +kernel
theorem d_M_noise_61 : decode b_M_noise 61 = .ok (.iload_n 3, 1) := by decide +kernel
theorem d_M_noise_62 : decode b_M_noise 62 = .ok (.iastore, 1) := by decide +kernel
theorem d_M_noise_63 : decode b_M_noise 63 = .ok (.iconst 0, 1) := by decide +kernel
theorem d_M_noise_64 : decode b_M_noise 64 = .ok (.ireturn, 1) := by decide +kernel
theorem d_M_gains_0 : decode b_M_gains 0 = .ok (.bipush 100, 2) := by decide +kernel
theorem d_M_gains_2 : decode b_M_gains 2 = .ok (.istore 5, 2) := by decide +kernel
theorem d_M_gains_4 : decode b_M_gains 4 = .ok (.aload_n 0, 1) := by decide +kernel
theorem d_M_gains_5 : decode b_M_gains 5 = .ok (.bipush 96, 2) := by decide +kernel
theorem d_M_gains_7 : decode b_M_gains 7 = .ok (.iload_n 1, 1) := by decide +kernel
theorem d_M_gains_8 : decode b_M_gains 8 = .ok (.iconst 2, 1) := by decide +kernel
theorem d_M_gains_9 : decode b_M_gains 9 = .ok (.iadd, 1) := by decide +kernel
theorem d_M_gains_10 : decode b_M_gains 10 = .ok (.iload_n 2, 1) := by decide +kernel
theorem d_M_gains_11 : decode b_M_gains 11 = .ok (.invokevirtual 52, 3) := by decide +kernel
theorem d_M_gains_14 : decode b_M_gains 14 = .ok (.aload_n 0, 1) := by decide +kernel
theorem d_M_gains_15 : decode b_M_gains 15 = .ok (.bipush 96, 2) := by decide +kernel
theorem d_M_gains_17 : decode b_M_gains 17 = .ok (.iload_n 1, 1) := by decide +kernel
theorem d_M_gains_18 : decode b_M_gains 18 = .ok (.iconst 3, 1) := by decide +kernel
theorem d_M_gains_19 : decode b_M_gains 19 = .ok (.iadd, 1) := by decide +kernel
theorem d_M_gains_20 : decode b_M_gains 20 = .ok (.iload_n 3, 1) := by decide +kernel
theorem d_M_gains_21 : decode b_M_gains 21 = .ok (.iload 5, 2) := by decide +kernel
theorem d_M_gains_23 : decode b_M_gains 23 = .ok (.invokevirtual 114, 3) := by decide +kernel
theorem d_M_gains_26 : decode b_M_gains 26 = .ok (.aload_n 0, 1) := by decide +kernel
theorem d_M_gains_27 : decode b_M_gains 27 = .ok (.bipush 97, 2) := by decide +kernel
theorem d_M_gains_29 : decode b_M_gains 29 = .ok (.iload_n 1, 1) := by decide +kernel
theorem d_M_gains_30 : decode b_M_gains 30 = .ok (.iconst 3, 1) := by decide +kernel
theorem d_M_gains_31 : decode b_M_gains 31 = .ok (.iadd, 1) := by decide +kernel
theorem d_M_gains_32 : decode b_M_gains 32 = .ok (.iload_n 2, 1) := by decide +kernel
theorem d_M_gains_33 : decode b_M_gains 33 = .ok (.invokevirtual 52, 3) := by decide +kernel
theorem d_M_gains_36 : decode b_M_gains 36 = .ok (.aload_n 0, 1) := by decide +kernel
theorem d_M_gains_37 : decode b_M_gains 37 = .ok (.bipush 97, 2) := by decide +kernel
theorem d_M_gains_39 : decode b_M_gains 39 = .ok (.iload_n 1, 1) := by decide +kernel
theorem d_M_gains_40 : decode b_M_gains 40 = .ok (.iconst 4, 1) := by decide +kernel
theorem d_M_gains_41 : decode b_M_gains 41 = .ok (.iadd, 1) := by decide +kernel
theorem d_M_gains_42 : decode b_M_gains 42 = .ok (.iload_n 3, 1) := by decide +kernel
theorem d_M_gains_43 : decode b_M_gains 43 = .ok (.iload 5, 2) := by decide +kernel
theorem d_M_gains_45 : decode b_M_gains 45 = .ok (.invokevirtual 114, 3) := by decide +kernel
theorem d_M_gains_48 : decode b_M_gains 48 = .ok (.aload_n 0, 1) := by decide +kernel
theorem d_M_gains_49 : decode b_M_gains 49 = .ok (.bipush 98, 2) := by decide +kernel
theorem d_M_gains_51 : decode b_M_gains 51 = .ok (.bipush 96, 2) := by decide +kernel
theorem d_M_gains_53 : decode b_M_gains 53 = .ok (.iload_n 2, 1) := by decide +kernel
theorem d_M_gains_54 : decode b_M_gains 54 = .ok (.invokevirtual 52, 3) := by decide +kernel
theorem d_M_gains_57 : decode b_M_gains 57 = .ok (.aload_n 0, 1) := by decide +kernel
theorem d_M_gains_58 : decode b_M_gains 58 = .ok (.bipush 98, 2) := by decide +kernel
theorem d_M_gains_60 : decode b_M_gains 60 = .ok (.bipush 97, 2) := by decide +kernel
theorem d_M_gains_62 : decode b_M_gains 62 = .ok (.iload_n 3, 1) := by decide +kernel
theorem d_M_gains_63 : decode b_M_gains 63 = .ok (.iload 5, 2) := by decide +kernel
theorem d_M_gains_65 : decode b_M_gains 65 = .ok (.invokevirtual 114, 3) := by decide +kernel
theorem d_M_gains_68 : decode b_M_gains 68 = .ok (.aload_n 0, 1) := by decide +kernel
theorem d_M_gains_69 : decode b_M_gains 69 = .ok (.bipush 98, 2) := by decide +kernel
theorem d_M_gains_71 : decode b_M_gains 71 = .ok (.iload_n 1, 1) := by decide +kernel
theorem d_M_gains_72 : decode b_M_gains 72 = .ok (.iconst 5, 1) := by decide +kernel
theorem d_M_gains_73 : decode b_M_gains 73 = .ok (.iadd, 1) := by decide +kernel
theorem d_M_gains_74 : decode b_M_gains 74 = .ok (.iload 4, 2) := by decide +kernel
theorem d_M_gains_76 : decode b_M_gains 76 = .ok (.iload 5, 2) := by decide +kernel
theorem d_M_gains_78 : decode b_M_gains 78 = .ok (.invokevirtual 114, 3) := by decide +kernel
theorem d_M_gains_81 : decode b_M_gains 81 = .ok (.return_, 1) := by decide +kernel
theorem d_M_observe_0 : decode b_M_observe 0 = .ok (.iload_n 1, 1) := by decide +kernel
theorem d_M_observe_1 : decode b_M_observe 1 = .ok (.bipush 9, 2) := by decide +kernel
theorem d_M_observe_3 : decode b_M_observe 3 = .ok (.invokestatic 107, 3) := by decide +kernel
theorem d_M_observe_6 : decode b_M_observe 6 = .ok (.ifCond .eq 34, 3) := by decide +kernel
theorem d_M_observe_9 : decode b_M_observe 9 = .ok (.iload_n 2, 1) := by decide +kernel
theorem d_M_observe_10 : decode b_M_observe 10 = .ok (.bipush 9, 2) := by decide +kernel
theorem d_M_observe_12 : decode b_M_observe 12 = .ok (.invokestatic 107, 3) := by decide +kernel
theorem d_M_observe_15 : decode b_M_observe 15 = .ok (.ifCond .eq 25, 3) := by decide +kernel
theorem d_M_observe_18 : decode b_M_observe 18 = .ok (.iload_n 3, 1) := by decide +kernel
theorem d_M_observe_19 : decode b_M_observe 19 = .ok (.iconst 1, 1) := by decide +kernel
theorem d_M_observe_20 : decode b_M_observe 20 = .ok (.if_icmp .lt 20, 3) := by decide +kernel
theorem d_M_observe_23 : decode b_M_observe 23 = .ok (.iload_n 3, 1) := by decide +kernel
theorem d_M_observe_24 : decode b_M_observe 24 = .ok (.bipush 99, 2) := by decide +kernel
theorem d_M_observe_26 : decode b_M_observe 26 = .ok (.if_icmp .gt 14, 3) := by decide +kernel
theorem d_M_observe_29 : decode b_M_observe 29 = .ok (.iload 4, 2) := by decide +kernel
theorem d_M_observe_31 : decode b_M_observe 31 = .ok (.sipush 999, 3) := by decide +kernel
theorem d_M_observe_34 : decode b_M_observe 34 = .ok (.invokestatic 107, 3) := by decide +kernel
theorem d_M_observe_37 : decode b_M_observe 37 = .ok (.ifCond .ne 6, 3) := by decide +kernel
theorem d_M_observe_40 : decode b_M_observe 40 = .ok (.bipush (-3), 2) := by decide +kernel
theorem d_M_observe_42 : decode b_M_observe 42 = .ok (.ireturn, 1) := by decide +kernel
theorem d_M_observe_43 : decode b_M_observe 43 = .ok (.aload_n 0, 1) := by decide +kernel
theorem d_M_observe_44 : decode b_M_observe 44 = .ok (.getfield 94, 3) := by decide +kernel
theorem d_M_observe_47 : decode b_M_observe 47 = .ok (.bipush 6, 2) := by decide +kernel
theorem d_M_observe_49 : decode b_M_observe 49 = .ok (.if_icmp .ne 6, 3) := by decide +kernel
theorem d_M_observe_52 : decode b_M_observe 52 = .ok (.bipush (-5), 2) := by decide +kernel
theorem d_M_observe_54 : decode b_M_observe 54 = .ok (.ireturn, 1) := by decide +kernel
theorem d_M_observe_55 : decode b_M_observe 55 = .ok (.bipush 24, 2) := by decide +kernel
theorem d_M_observe_57 : decode b_M_observe 57 = .ok (.bipush 6, 2) := by decide +kernel
theorem d_M_observe_59 : decode b_M_observe 59 = .ok (.aload_n 0, 1) := by decide +kernel
theorem d_M_observe_60 : decode b_M_observe 60 = .ok (.getfield 90, 3) := by decide +kernel
theorem d_M_observe_63 : decode b_M_observe 63 = .ok (.imul, 1) := by decide +kernel
theorem d_M_observe_64 : decode b_M_observe 64 = .ok (.iadd, 1) := by decide +kernel
theorem d_M_observe_65 : decode b_M_observe 65 = .ok (.istore 5, 2) := by decide +kernel
theorem d_M_observe_67 : decode b_M_observe 67 = .ok (.bipush 100, 2) := by decide +kernel
theorem d_M_observe_69 : decode b_M_observe 69 = .ok (.istore 6, 2) := by decide +kernel
theorem d_M_observe_71 : decode b_M_observe 71 = .ok (.bipush 72, 2) := by decide +kernel
theorem d_M_observe_73 : decode b_M_observe 73 = .ok (.iconst 4, 1) := by decide +kernel
theorem d_M_observe_74 : decode b_M_observe 74 = .ok (.aload_n 0, 1) := by decide +kernel
theorem d_M_observe_75 : decode b_M_observe 75 = .ok (.getfield 94, 3) := by decide +kernel
theorem d_M_observe_78 : decode b_M_observe 78 = .ok (.imul, 1) := by decide +kernel
theorem d_M_observe_79 : decode b_M_observe 79 = .ok (.iadd, 1) := by decide +kernel
theorem d_M_observe_80 : decode b_M_observe 80 = .ok (.istore 7, 2) := by decide +kernel
theorem d_M_observe_82 : decode b_M_observe 82 = .ok (.aload_n 0, 1) := by decide +kernel
theorem d_M_observe_83 : decode b_M_observe 83 = .ok (.iload 5, 2) := by decide +kernel
theorem d_M_observe_85 : decode b_M_observe 85 = .ok (.iload_n 1, 1) := by decide +kernel
theorem d_M_observe_86 : decode b_M_observe 86 = .ok (.iload_n 2, 1) := by decide +kernel
theorem d_M_observe_87 : decode b_M_observe 87 = .ok (.iload_n 3, 1) := by decide +kernel
theorem d_M_observe_88 : decode b_M_observe 88 = .ok (.invokevirtual 117, 3) := by decide +kernel
theorem d_M_observe_91 : decode b_M_observe 91 = .ok (.bipush 98, 2) := by decide +kernel
theorem d_M_observe_93 : decode b_M_observe 93 = .ok (.istore 8, 2) := by decide +kernel
theorem d_M_observe_95 : decode b_M_observe 95 = .ok (.bipush 99, 2) := by decide +kernel
theorem d_M_observe_97 : decode b_M_observe 97 = .ok (.istore 9, 2) := by decide +kernel
theorem d_M_observe_99 : decode b_M_observe 99 = .ok (.aload_n 0, 1) := by decide +kernel
theorem d_M_observe_100 : decode b_M_observe 100 = .ok (.iload 9, 2) := by decide +kernel
theorem d_M_observe_102 : decode b_M_observe 102 = .ok (.iload 5, 2) := by decide +kernel
theorem d_M_observe_104 : decode b_M_observe 104 = .ok (.iconst 5, 1) := by decide +kernel
theorem d_M_observe_105 : decode b_M_observe 105 = .ok (.iadd, 1) := by decide +kernel
theorem d_M_observe_106 : decode b_M_observe 106 = .ok (.iload 4, 2) := by decide +kernel
theorem d_M_observe_108 : decode b_M_observe 108 = .ok (.invokevirtual 52, 3) := by decide +kernel
theorem d_M_observe_111 : decode b_M_observe 111 = .ok (.aload_n 0, 1) := by decide +kernel
theorem d_M_observe_112 : decode b_M_observe 112 = .ok (.iload 9, 2) := by decide +kernel
theorem d_M_observe_114 : decode b_M_observe 114 = .ok (.iload 5, 2) := by decide +kernel
theorem d_M_observe_116 : decode b_M_observe 116 = .ok (.iload_n 1, 1) := by decide +kernel
theorem d_M_observe_117 : decode b_M_observe 117 = .ok (.ineg, 1) := by decide +kernel
theorem d_M_observe_118 : decode b_M_observe 118 = .ok (.iload 6, 2) := by decide +kernel
theorem d_M_observe_120 : decode b_M_observe 120 = .ok (.invokevirtual 114, 3) := by decide +kernel
theorem d_M_observe_123 : decode b_M_observe 123 = .ok (.aload_n 0, 1) := by decide +kernel
theorem d_M_observe_124 : decode b_M_observe 124 = .ok (.iload 9, 2) := by decide +kernel
theorem d_M_observe_126 : decode b_M_observe 126 = .ok (.iload 5, 2) := by decide +kernel
theorem d_M_observe_128 : decode b_M_observe 128 = .ok (.iconst 1, 1) := by decide +kernel
theorem d_M_observe_129 : decode b_M_observe 129 = .ok (.iadd, 1) := by decide +kernel
theorem d_M_observe_130 : decode b_M_observe 130 = .ok (.iload_n 2, 1) := by decide +kernel
theorem d_M_observe_131 : decode b_M_observe 131 = .ok (.ineg, 1) := by decide +kernel
theorem d_M_observe_132 : decode b_M_observe 132 = .ok (.iload 6, 2) := by decide +kernel
theorem d_M_observe_134 : decode b_M_observe 134 = .ok (.invokevirtual 114, 3) := by decide +kernel
theorem d_M_observe_137 : decode b_M_observe 137 = .ok (.aload_n 0, 1) := by decide +kernel
theorem d_M_observe_138 : decode b_M_observe 138 = .ok (.iload 7, 2) := by decide +kernel
theorem d_M_observe_140 : decode b_M_observe 140 = .ok (.iload 9, 2) := by decide +kernel
theorem d_M_observe_142 : decode b_M_observe 142 = .ok (.invokevirtual 78, 3) := by decide +kernel
theorem d_M_observe_145 : decode b_M_observe 145 = .ok (.aload_n 0, 1) := by decide +kernel
theorem d_M_observe_146 : decode b_M_observe 146 = .ok (.iload 7, 2) := by decide +kernel
theorem d_M_observe_148 : decode b_M_observe 148 = .ok (.iconst 1, 1) := by decide +kernel
theorem d_M_observe_149 : decode b_M_observe 149 = .ok (.iadd, 1) := by decide +kernel
theorem d_M_observe_150 : decode b_M_observe 150 = .ok (.iload 5, 2) := by decide +kernel
theorem d_M_observe_152 : decode b_M_observe 152 = .ok (.iconst 5, 1) := by decide +kernel
theorem d_M_observe_153 : decode b_M_observe 153 = .ok (.iadd, 1) := by decide +kernel
theorem d_M_observe_154 : decode b_M_observe 154 = .ok (.invokevirtual 78, 3) := by decide +kernel
theorem d_M_observe_157 : decode b_M_observe 157 = .ok (.aload_n 0, 1) := by decide +kernel
theorem d_M_observe_158 : decode b_M_observe 158 = .ok (.iload 7, 2) := by decide +kernel
theorem d_M_observe_160 : decode b_M_observe 160 = .ok (.iconst 2, 1) := by decide +kernel
theorem d_M_observe_161 : decode b_M_observe 161 = .ok (.iadd, 1) := by decide +kernel
theorem d_M_observe_162 : decode b_M_observe 162 = .ok (.iload 8, 2) := by decide +kernel
theorem d_M_observe_164 : decode b_M_observe 164 = .ok (.invokevirtual 78, 3) := by decide +kernel
theorem d_M_observe_167 : decode b_M_observe 167 = .ok (.aload_n 0, 1) := by decide +kernel
theorem d_M_observe_168 : decode b_M_observe 168 = .ok (.iload 7, 2) := by decide +kernel
theorem d_M_observe_170 : decode b_M_observe 170 = .ok (.iconst 3, 1) := by decide +kernel
theorem d_M_observe_171 : decode b_M_observe 171 = .ok (.iadd, 1) := by decide +kernel
theorem d_M_observe_172 : decode b_M_observe 172 = .ok (.iload 5, 2) := by decide +kernel
theorem d_M_observe_174 : decode b_M_observe 174 = .ok (.iconst 5, 1) := by decide +kernel
theorem d_M_observe_175 : decode b_M_observe 175 = .ok (.iadd, 1) := by decide +kernel
theorem d_M_observe_176 : decode b_M_observe 176 = .ok (.invokevirtual 78, 3) := by decide +kernel
theorem d_M_observe_179 : decode b_M_observe 179 = .ok (.iconst 0, 1) := by decide +kernel
theorem d_M_observe_180 : decode b_M_observe 180 = .ok (.istore 10, 2) := by decide +kernel
theorem d_M_observe_182 : decode b_M_observe 182 = .ok (.iload 10, 2) := by decide +kernel
theorem d_M_observe_184 : decode b_M_observe 184 = .ok (.iconst 2, 1) := by decide +kernel
theorem d_M_observe_185 : decode b_M_observe 185 = .ok (.if_icmp .ge 44, 3) := by decide +kernel
theorem d_M_observe_188 : decode b_M_observe 188 = .ok (.aload_n 0, 1) := by decide +kernel
theorem d_M_observe_189 : decode b_M_observe 189 = .ok (.iload 5, 2) := by decide +kernel
theorem d_M_observe_191 : decode b_M_observe 191 = .ok (.iload 10, 2) := by decide +kernel
theorem d_M_observe_193 : decode b_M_observe 193 = .ok (.iadd, 1) := by decide +kernel
theorem d_M_observe_194 : decode b_M_observe 194 = .ok (.iload 5, 2) := by decide +kernel
theorem d_M_observe_196 : decode b_M_observe 196 = .ok (.iload 10, 2) := by decide +kernel
theorem d_M_observe_198 : decode b_M_observe 198 = .ok (.iadd, 1) := by decide +kernel
theorem d_M_observe_199 : decode b_M_observe 199 = .ok (.iload 8, 2) := by decide +kernel
theorem d_M_observe_201 : decode b_M_observe 201 = .ok (.invokevirtual 59, 3) := by decide +kernel
theorem d_M_observe_204 : decode b_M_observe 204 = .ok (.aload_n 0, 1) := by decide +kernel
theorem d_M_observe_205 : decode b_M_observe 205 = .ok (.iload 5, 2) := by decide +kernel
theorem d_M_observe_207 : decode b_M_observe 207 = .ok (.iload 10, 2) := by decide +kernel
theorem d_M_observe_209 : decode b_M_observe 209 = .ok (.iadd, 1) := by decide +kernel
theorem d_M_observe_210 : decode b_M_observe 210 = .ok (.bipush 96, 2) := by decide +kernel
theorem d_M_observe_212 : decode b_M_observe 212 = .ok (.iload 10, 2) := by decide +kernel
theorem d_M_observe_214 : decode b_M_observe 214 = .ok (.iadd, 1) := by decide +kernel
theorem d_M_observe_215 : decode b_M_observe 215 = .ok (.iload 9, 2) := by decide +kernel
theorem d_M_observe_217 : decode b_M_observe 217 = .ok (.iconst 1, 1) := by decide +kernel
theorem d_M_observe_218 : decode b_M_observe 218 = .ok (.iload 6, 2) := by decide +kernel
theorem d_M_observe_220 : decode b_M_observe 220 = .ok (.invokevirtual 120, 3) := by decide +kernel
theorem d_M_observe_223 : decode b_M_observe 223 = .ok (.iinc 10 1, 3) := by decide +kernel
theorem d_M_observe_226 : decode b_M_observe 226 = .ok (.goto (-44), 3) := by decide +kernel
theorem d_M_observe_229 : decode b_M_observe 229 = .ok (.iconst 0, 1) := by decide +kernel
theorem d_M_observe_230 : decode b_M_observe 230 = .ok (.istore 10, 2) := by decide +kernel
theorem d_M_observe_232 : decode b_M_observe 232 = .ok (.iload 10, 2) := by decide +kernel
theorem d_M_observe_234 : decode b_M_observe 234 = .ok (.iconst 3, 1) := by decide +kernel
theorem d_M_observe_235 : decode b_M_observe 235 = .ok (.if_icmp .ge 59, 3) := by decide +kernel
theorem d_M_observe_238 : decode b_M_observe 238 = .ok (.aload_n 0, 1) := by decide +kernel
theorem d_M_observe_239 : decode b_M_observe 239 = .ok (.iload 5, 2) := by decide +kernel
theorem d_M_observe_241 : decode b_M_observe 241 = .ok (.iconst 2, 1) := by decide +kernel
theorem d_M_observe_242 : decode b_M_observe 242 = .ok (.iadd, 1) := by decide +kernel
theorem d_M_observe_243 : decode b_M_observe 243 = .ok (.iload 10, 2) := by decide +kernel
theorem d_M_observe_245 : decode b_M_observe 245 = .ok (.iadd, 1) := by decide +kernel
theorem d_M_observe_246 : decode b_M_observe 246 = .ok (.iload 5, 2) := by decide +kernel
theorem d_M_observe_248 : decode b_M_observe 248 = .ok (.iconst 2, 1) := by decide +kernel
theorem d_M_observe_249 : decode b_M_observe 249 = .ok (.iadd, 1) := by decide +kernel
theorem d_M_observe_250 : decode b_M_observe 250 = .ok (.iload 10, 2) := by decide +kernel
theorem d_M_observe_252 : decode b_M_observe 252 = .ok (.iadd, 1) := by decide +kernel
theorem d_M_observe_253 : decode b_M_observe 253 = .ok (.iload 8, 2) := by decide +kernel
theorem d_M_observe_255 : decode b_M_observe 255 = .ok (.invokevirtual 59, 3) := by decide +kernel
theorem d_M_observe_258 : decode b_M_observe 258 = .ok (.aload_n 0, 1) := by decide +kernel
theorem d_M_observe_259 : decode b_M_observe 259 = .ok (.iload 5, 2) := by decide +kernel
theorem d_M_observe_261 : decode b_M_observe 261 = .ok (.iconst 2, 1) := by decide +kernel
theorem d_M_observe_262 : decode b_M_observe 262 = .ok (.iadd, 1) := by decide +kernel
theorem d_M_observe_263 : decode b_M_observe 263 = .ok (.iload 10, 2) := by decide +kernel
theorem d_M_observe_265 : decode b_M_observe 265 = .ok (.iadd, 1) := by decide +kernel
theorem d_M_observe_266 : decode b_M_observe 266 = .ok (.bipush 96, 2) := by decide +kernel
theorem d_M_observe_268 : decode b_M_observe 268 = .ok (.iload 10, 2) := by decide +kernel
theorem d_M_observe_270 : decode b_M_observe 270 = .ok (.iconst 2, 1) := by decide +kernel
theorem d_M_observe_271 : decode b_M_observe 271 = .ok (.idiv, 1) := by decide +kernel
theorem d_M_observe_272 : decode b_M_observe 272 = .ok (.iadd, 1) := by decide +kernel
theorem d_M_observe_273 : decode b_M_observe 273 = .ok (.bipush 96, 2) := by decide +kernel
theorem d_M_observe_275 : decode b_M_observe 275 = .ok (.iload 10, 2) := by decide +kernel
theorem d_M_observe_277 : decode b_M_observe 277 = .ok (.iconst 1, 1) := by decide +kernel
theorem d_M_observe_278 : decode b_M_observe 278 = .ok (.iadd, 1) := by decide +kernel
theorem d_M_observe_279 : decode b_M_observe 279 = .ok (.iconst 2, 1) := by decide +kernel
theorem d_M_observe_280 : decode b_M_observe 280 = .ok (.idiv, 1) := by decide +kernel
theorem d_M_observe_281 : decode b_M_observe 281 = .ok (.iadd, 1) := by decide +kernel
theorem d_M_observe_282 : decode b_M_observe 282 = .ok (.iconst (-1), 1) := by decide +kernel
theorem d_M_observe_283 : decode b_M_observe 283 = .ok (.iload 6, 2) := by decide +kernel
theorem d_M_observe_285 : decode b_M_observe 285 = .ok (.invokevirtual 120, 3) := by decide +kernel
theorem d_M_observe_288 : decode b_M_observe 288 = .ok (.iinc 10 1, 3) := by decide +kernel
theorem d_M_observe_291 : decode b_M_observe 291 = .ok (.goto (-59), 3) := by decide +kernel
theorem d_M_observe_294 : decode b_M_observe 294 = .ok (.aload_n 0, 1) := by decide +kernel
theorem d_M_observe_295 : decode b_M_observe 295 = .ok (.iload 5, 2) := by decide +kernel
theorem d_M_observe_297 : decode b_M_observe 297 = .ok (.iconst 5, 1) := by decide +kernel
theorem d_M_observe_298 : decode b_M_observe 298 = .ok (.iadd, 1) := by decide +kernel
theorem d_M_observe_299 : decode b_M_observe 299 = .ok (.iload 5, 2) := by decide +kernel
theorem d_M_observe_301 : decode b_M_observe 301 = .ok (.iconst 5, 1) := by decide +kernel
theorem d_M_observe_302 : decode b_M_observe 302 = .ok (.iadd, 1) := by decide +kernel
theorem d_M_observe_303 : decode b_M_observe 303 = .ok (.iload 8, 2) := by decide +kernel
theorem d_M_observe_305 : decode b_M_observe 305 = .ok (.invokevirtual 59, 3) := by decide +kernel
theorem d_M_observe_308 : decode b_M_observe 308 = .ok (.aload_n 0, 1) := by decide +kernel
theorem d_M_observe_309 : decode b_M_observe 309 = .ok (.iload 5, 2) := by decide +kernel
theorem d_M_observe_311 : decode b_M_observe 311 = .ok (.bipush 6, 2) := by decide +kernel
theorem d_M_observe_313 : decode b_M_observe 313 = .ok (.invokevirtual 123, 3) := by decide +kernel
theorem d_M_observe_316 : decode b_M_observe 316 = .ok (.aload_n 0, 1) := by decide +kernel
theorem d_M_observe_317 : decode b_M_observe 317 = .ok (.iconst 0, 1) := by decide +kernel
theorem d_M_observe_318 : decode b_M_observe 318 = .ok (.putfield 97, 3) := by decide +kernel
theorem d_M_observe_321 : decode b_M_observe 321 = .ok (.aload_n 0, 1) := by decide +kernel
theorem d_M_observe_322 : decode b_M_observe 322 = .ok (.dup, 1) := by decide +kernel
theorem d_M_observe_323 : decode b_M_observe 323 = .ok (.getfield 94, 3) := by decide +kernel
theorem d_M_observe_326 : decode b_M_observe 326 = .ok (.iconst 1, 1) := by decide +kernel
theorem d_M_observe_327 : decode b_M_observe 327 = .ok (.iadd, 1) := by decide +kernel
theorem d_M_observe_328 : decode b_M_observe 328 = .ok (.putfield 94, 3) := by decide +kernel
theorem d_M_observe_331 : decode b_M_observe 331 = .ok (.aload_n 0, 1) := by decide +kernel
theorem d_M_observe_332 : decode b_M_observe 332 = .ok (.getfield 94, 3) := by decide +kernel
theorem d_M_observe_335 : decode b_M_observe 335 = .ok (.iconst 1, 1) := by decide +kernel
theorem d_M_observe_336 : decode b_M_observe 336 = .ok (.isub, 1) := by decide +kernel
theorem d_M_observe_337 : decode b_M_observe 337 = .ok (.ireturn, 1) := by decide +kernel
theorem d_M_pair_0 : decode b_M_pair 0 = .ok (.aload_n 0, 1) := by decide +kernel
theorem d_M_pair_1 : decode b_M_pair 1 = .ok (.iload_n 1, 1) := by decide +kernel
theorem d_M_pair_2 : decode b_M_pair 2 = .ok (.iload_n 2, 1) := by decide +kernel
theorem d_M_pair_3 : decode b_M_pair 3 = .ok (.iload_n 3, 1) := by decide +kernel
theorem d_M_pair_4 : decode b_M_pair 4 = .ok (.invokevirtual 52, 3) := by decide +kernel
theorem d_M_pair_7 : decode b_M_pair 7 = .ok (.aload_n 0, 1) := by decide +kernel
theorem d_M_pair_8 : decode b_M_pair 8 = .ok (.iload_n 1, 1) := by decide +kernel
theorem d_M_pair_9 : decode b_M_pair 9 = .ok (.iload 4, 2) := by decide +kernel
theorem d_M_pair_11 : decode b_M_pair 11 = .ok (.iload 5, 2) := by decide +kernel
theorem d_M_pair_13 : decode b_M_pair 13 = .ok (.iload 6, 2) := by decide +kernel
theorem d_M_pair_15 : decode b_M_pair 15 = .ok (.invokevirtual 114, 3) := by decide +kernel
theorem d_M_pair_18 : decode b_M_pair 18 = .ok (.return_, 1) := by decide +kernel
theorem d_M_advance_0 : decode b_M_advance 0 = .ok (.aload_n 0, 1) := by decide +kernel
theorem d_M_advance_1 : decode b_M_advance 1 = .ok (.getfield 90, 3) := by decide +kernel
theorem d_M_advance_4 : decode b_M_advance 4 = .ok (.iconst 3, 1) := by decide +kernel
theorem d_M_advance_5 : decode b_M_advance 5 = .ok (.if_icmp .ne 6, 3) := by decide +kernel
theorem d_M_advance_8 : decode b_M_advance 8 = .ok (.bipush (-5), 2) := by decide +kernel
theorem d_M_advance_10 : decode b_M_advance 10 = .ok (.ireturn, 1) := by decide +kernel
theorem d_M_advance_11 : decode b_M_advance 11 = .ok (.bipush 24, 2) := by decide +kernel
theorem d_M_advance_13 : decode b_M_advance 13 = .ok (.bipush 6, 2) := by decide +kernel
theorem d_M_advance_15 : decode b_M_advance 15 = .ok (.aload_n 0, 1) := by decide +kernel
theorem d_M_advance_16 : decode b_M_advance 16 = .ok (.getfield 90, 3) := by decide +kernel
theorem d_M_advance_19 : decode b_M_advance 19 = .ok (.imul, 1) := by decide +kernel
theorem d_M_advance_20 : decode b_M_advance 20 = .ok (.iadd, 1) := by decide +kernel
theorem d_M_advance_21 : decode b_M_advance 21 = .ok (.istore_n 1, 1) := by decide +kernel
theorem d_M_advance_22 : decode b_M_advance 22 = .ok (.iconst 0, 1) := by decide +kernel
theorem d_M_advance_23 : decode b_M_advance 23 = .ok (.bipush 6, 2) := by decide +kernel
theorem d_M_advance_25 : decode b_M_advance 25 = .ok (.aload_n 0, 1) := by decide +kernel
theorem d_M_advance_26 : decode b_M_advance 26 = .ok (.getfield 90, 3) := by decide +kernel
theorem d_M_advance_29 : decode b_M_advance 29 = .ok (.imul, 1) := by decide +kernel
theorem d_M_advance_30 : decode b_M_advance 30 = .ok (.iadd, 1) := by decide +kernel
theorem d_M_advance_31 : decode b_M_advance 31 = .ok (.bipush 6, 2) := by decide +kernel
theorem d_M_advance_33 : decode b_M_advance 33 = .ok (.iadd, 1) := by decide +kernel
theorem d_M_advance_34 : decode b_M_advance 34 = .ok (.istore_n 2, 1) := by decide +kernel
theorem d_M_advance_35 : decode b_M_advance 35 = .ok (.bipush 100, 2) := by decide +kernel
theorem d_M_advance_37 : decode b_M_advance 37 = .ok (.istore_n 3, 1) := by decide +kernel
theorem d_M_advance_38 : decode b_M_advance 38 = .ok (.iconst 0, 1) := by decide +kernel
theorem d_M_advance_39 : decode b_M_advance 39 = .ok (.istore 4, 2) := by decide +kernel
theorem d_M_advance_41 : decode b_M_advance 41 = .ok (.iload 4, 2) := by decide +kernel
theorem d_M_advance_43 : decode b_M_advance 43 = .ok (.iconst 4, 1) := by decide +kernel
theorem d_M_advance_44 : decode b_M_advance 44 = .ok (.if_icmp .ge 30, 3) := by decide +kernel
theorem d_M_advance_47 : decode b_M_advance 47 = .ok (.aload_n 0, 1) := by decide +kernel
theorem d_M_advance_48 : decode b_M_advance 48 = .ok (.getfield 31, 3) := by decide +kernel
theorem d_M_advance_51 : decode b_M_advance 51 = .ok (.iconst 4, 1) := by decide +kernel
theorem d_M_advance_52 : decode b_M_advance 52 = .ok (.aload_n 0, 1) := by decide +kernel
theorem d_M_advance_53 : decode b_M_advance 53 = .ok (.getfield 90, 3) := by decide +kernel
theorem d_M_advance_56 : decode b_M_advance 56 = .ok (.imul, 1) := by decide +kernel
theorem d_M_advance_57 : decode b_M_advance 57 = .ok (.iload 4, 2) := by decide +kernel
theorem d_M_advance_59 : decode b_M_advance 59 = .ok (.iadd, 1) := by decide +kernel
theorem d_M_advance_60 : decode b_M_advance 60 = .ok (.aload_n 0, 1) := by decide +kernel
theorem d_M_advance_61 : decode b_M_advance 61 = .ok (.getfield 25, 3) := by decide +kernel
theorem d_M_advance_64 : decode b_M_advance 64 = .ok (.iload 4, 2) := by decide +kernel
theorem d_M_advance_66 : decode b_M_advance 66 = .ok (.iaload, 1) := by decide +kernel
theorem d_M_advance_67 : decode b_M_advance 67 = .ok (.iastore, 1) := by decide +kernel
theorem d_M_advance_68 : decode b_M_advance 68 = .ok (.iinc 4 1, 3) := by decide +kernel
theorem d_M_advance_71 : decode b_M_advance 71 = .ok (.goto (-30), 3) := by decide +kernel
theorem d_M_advance_74 : decode b_M_advance 74 = .ok (.aload_n 0, 1) := by decide +kernel
theorem d_M_advance_75 : decode b_M_advance 75 = .ok (.iload_n 2, 1) := by decide +kernel
theorem d_M_advance_76 : decode b_M_advance 76 = .ok (.iload_n 1, 1) := by decide +kernel
theorem d_M_advance_77 : decode b_M_advance 77 = .ok (.aload_n 0, 1) := by decide +kernel
theorem d_M_advance_78 : decode b_M_advance 78 = .ok (.getfield 25, 3) := by decide +kernel
theorem d_M_advance_81 : decode b_M_advance 81 = .ok (.iconst 0, 1) := by decide +kernel
theorem d_M_advance_82 : decode b_M_advance 82 = .ok (.iaload, 1) := by decide +kernel
theorem d_M_advance_83 : decode b_M_advance 83 = .ok (.iload_n 1, 1) := by decide +kernel
theorem d_M_advance_84 : decode b_M_advance 84 = .ok (.iconst 1, 1) := by decide +kernel
theorem d_M_advance_85 : decode b_M_advance 85 = .ok (.iadd, 1) := by decide +kernel
theorem d_M_advance_86 : decode b_M_advance 86 = .ok (.aload_n 0, 1) := by decide +kernel
theorem d_M_advance_87 : decode b_M_advance 87 = .ok (.getfield 25, 3) := by decide +kernel
theorem d_M_advance_90 : decode b_M_advance 90 = .ok (.iconst 1, 1) := by decide +kernel
theorem d_M_advance_91 : decode b_M_advance 91 = .ok (.iaload, 1) := by decide +kernel
theorem d_M_advance_92 : decode b_M_advance 92 = .ok (.iload_n 3, 1) := by decide +kernel
theorem d_M_advance_93 : decode b_M_advance 93 = .ok (.invokevirtual 126, 3) := by decide +kernel
theorem d_M_advance_96 : decode b_M_advance 96 = .ok (.aload_n 0, 1) := by decide +kernel
theorem d_M_advance_97 : decode b_M_advance 97 = .ok (.iload_n 2, 1) := by decide +kernel
theorem d_M_advance_98 : decode b_M_advance 98 = .ok (.iconst 1, 1) := by decide +kernel
theorem d_M_advance_99 : decode b_M_advance 99 = .ok (.iadd, 1) := by decide +kernel
theorem d_M_advance_100 : decode b_M_advance 100 = .ok (.iload_n 1, 1) := by decide +kernel
theorem d_M_advance_101 : decode b_M_advance 101 = .ok (.aload_n 0, 1) := by decide +kernel
theorem d_M_advance_102 : decode b_M_advance 102 = .ok (.getfield 25, 3) := by decide +kernel
theorem d_M_advance_105 : decode b_M_advance 105 = .ok (.iconst 2, 1) := by decide +kernel
theorem d_M_advance_106 : decode b_M_advance 106 = .ok (.iaload, 1) := by decide +kernel
theorem d_M_advance_107 : decode b_M_advance 107 = .ok (.iload_n 1, 1) := by decide +kernel
theorem d_M_advance_108 : decode b_M_advance 108 = .ok (.iconst 1, 1) := by decide +kernel
theorem d_M_advance_109 : decode b_M_advance 109 = .ok (.iadd, 1) := by decide +kernel
theorem d_M_advance_110 : decode b_M_advance 110 = .ok (.aload_n 0, 1) := by decide +kernel
theorem d_M_advance_111 : decode b_M_advance 111 = .ok (.getfield 25, 3) := by decide +kernel
theorem d_M_advance_114 : decode b_M_advance 114 = .ok (.iconst 3, 1) := by decide +kernel
theorem d_M_advance_115 : decode b_M_advance 115 = .ok (.iaload, 1) := by decide +kernel
theorem d_M_advance_116 : decode b_M_advance 116 = .ok (.iload_n 3, 1) := by decide +kernel
theorem d_M_advance_117 : decode b_M_advance 117 = .ok (.invokevirtual 126, 3) := by decide +kernel
theorem d_M_advance_120 : decode b_M_advance 120 = .ok (.iconst 0, 1) := by decide +kernel
theorem d_M_advance_121 : decode b_M_advance 121 = .ok (.istore 4, 2) := by decide +kernel
theorem d_M_advance_123 : decode b_M_advance 123 = .ok (.iload 4, 2) := by decide +kernel
theorem d_M_advance_125 : decode b_M_advance 125 = .ok (.iconst 2, 1) := by decide +kernel
theorem d_M_advance_126 : decode b_M_advance 126 = .ok (.if_icmp .ge 87, 3) := by decide +kernel
theorem d_M_advance_129 : decode b_M_advance 129 = .ok (.aload_n 0, 1) := by decide +kernel
theorem d_M_advance_130 : decode b_M_advance 130 = .ok (.bipush 96, 2) := by decide +kernel
theorem d_M_advance_132 : decode b_M_advance 132 = .ok (.iconst 2, 1) := by decide +kernel
theorem d_M_advance_133 : decode b_M_advance 133 = .ok (.iload 4, 2) := by decide +kernel
theorem d_M_advance_135 : decode b_M_advance 135 = .ok (.imul, 1) := by decide +kernel
theorem d_M_advance_136 : decode b_M_advance 136 = .ok (.iadd, 1) := by decide +kernel
theorem d_M_advance_137 : decode b_M_advance 137 = .ok (.iload_n 1, 1) := by decide +kernel
theorem d_M_advance_138 : decode b_M_advance 138 = .ok (.iconst 2, 1) := by decide +kernel
theorem d_M_advance_139 : decode b_M_advance 139 = .ok (.iadd, 1) := by decide +kernel
theorem d_M_advance_140 : decode b_M_advance 140 = .ok (.aload_n 0, 1) := by decide +kernel
theorem d_M_advance_141 : decode b_M_advance 141 = .ok (.getfield 25, 3) := by decide +kernel
theorem d_M_advance_144 : decode b_M_advance 144 = .ok (.iconst 2, 1) := by decide +kernel
theorem d_M_advance_145 : decode b_M_advance 145 = .ok (.iload 4, 2) := by decide +kernel
theorem d_M_advance_147 : decode b_M_advance 147 = .ok (.imul, 1) := by decide +kernel
theorem d_M_advance_148 : decode b_M_advance 148 = .ok (.iaload, 1) := by decide +kernel
theorem d_M_advance_149 : decode b_M_advance 149 = .ok (.iload_n 1, 1) := by decide +kernel
theorem d_M_advance_150 : decode b_M_advance 150 = .ok (.iconst 3, 1) := by decide +kernel
theorem d_M_advance_151 : decode b_M_advance 151 = .ok (.iadd, 1) := by decide +kernel
theorem d_M_advance_152 : decode b_M_advance 152 = .ok (.aload_n 0, 1) := by decide +kernel
theorem d_M_advance_153 : decode b_M_advance 153 = .ok (.getfield 25, 3) := by decide +kernel
theorem d_M_advance_156 : decode b_M_advance 156 = .ok (.iconst 2, 1) := by decide +kernel
theorem d_M_advance_157 : decode b_M_advance 157 = .ok (.iload 4, 2) := by decide +kernel
theorem d_M_advance_159 : decode b_M_advance 159 = .ok (.imul, 1) := by decide +kernel
theorem d_M_advance_160 : decode b_M_advance 160 = .ok (.iconst 1, 1) := by decide +kernel
theorem d_M_advance_161 : decode b_M_advance 161 = .ok (.iadd, 1) := by decide +kernel
theorem d_M_advance_162 : decode b_M_advance 162 = .ok (.iaload, 1) := by decide +kernel
theorem d_M_advance_163 : decode b_M_advance 163 = .ok (.iload_n 3, 1) := by decide +kernel
theorem d_M_advance_164 : decode b_M_advance 164 = .ok (.invokevirtual 126, 3) := by decide +kernel
theorem d_M_advance_167 : decode b_M_advance 167 = .ok (.aload_n 0, 1) := by decide +kernel
theorem d_M_advance_168 : decode b_M_advance 168 = .ok (.bipush 96, 2) := by decide +kernel
theorem d_M_advance_170 : decode b_M_advance 170 = .ok (.iconst 2, 1) := by decide +kernel
theorem d_M_advance_171 : decode b_M_advance 171 = .ok (.iload 4, 2) := by decide +kernel
theorem d_M_advance_173 : decode b_M_advance 173 = .ok (.imul, 1) := by decide +kernel
theorem d_M_advance_174 : decode b_M_advance 174 = .ok (.iadd, 1) := by decide +kernel
theorem d_M_advance_175 : decode b_M_advance 175 = .ok (.iconst 1, 1) := by decide +kernel
theorem d_M_advance_176 : decode b_M_advance 176 = .ok (.iadd, 1) := by decide +kernel
theorem d_M_advance_177 : decode b_M_advance 177 = .ok (.iload_n 1, 1) := by decide +kernel
theorem d_M_advance_178 : decode b_M_advance 178 = .ok (.iconst 3, 1) := by decide +kernel
theorem d_M_advance_179 : decode b_M_advance 179 = .ok (.iadd, 1) := by decide +kernel
theorem d_M_advance_180 : decode b_M_advance 180 = .ok (.aload_n 0, 1) := by decide +kernel
theorem d_M_advance_181 : decode b_M_advance 181 = .ok (.getfield 25, 3) := by decide +kernel
theorem d_M_advance_184 : decode b_M_advance 184 = .ok (.iconst 2, 1) := by decide +kernel
theorem d_M_advance_185 : decode b_M_advance 185 = .ok (.iload 4, 2) := by decide +kernel
theorem d_M_advance_187 : decode b_M_advance 187 = .ok (.imul, 1) := by decide +kernel
theorem d_M_advance_188 : decode b_M_advance 188 = .ok (.iaload, 1) := by decide +kernel
theorem d_M_advance_189 : decode b_M_advance 189 = .ok (.iload_n 1, 1) := by decide +kernel
theorem d_M_advance_190 : decode b_M_advance 190 = .ok (.iconst 4, 1) := by decide +kernel
theorem d_M_advance_191 : decode b_M_advance 191 = .ok (.iadd, 1) := by decide +kernel
theorem d_M_advance_192 : decode b_M_advance 192 = .ok (.aload_n 0, 1) := by decide +kernel
theorem d_M_advance_193 : decode b_M_advance 193 = .ok (.getfield 25, 3) := by decide +kernel
theorem d_M_advance_196 : decode b_M_advance 196 = .ok (.iconst 2, 1) := by decide +kernel
theorem d_M_advance_197 : decode b_M_advance 197 = .ok (.iload 4, 2) := by decide +kernel
theorem d_M_advance_199 : decode b_M_advance 199 = .ok (.imul, 1) := by decide +kernel
theorem d_M_advance_200 : decode b_M_advance 200 = .ok (.iconst 1, 1) := by decide +kernel
theorem d_M_advance_201 : decode b_M_advance 201 = .ok (.iadd, 1) := by decide +kernel
theorem d_M_advance_202 : decode b_M_advance 202 = .ok (.iaload, 1) := by decide +kernel
theorem d_M_advance_203 : decode b_M_advance 203 = .ok (.iload_n 3, 1) := by decide +kernel
theorem d_M_advance_204 : decode b_M_advance 204 = .ok (.invokevirtual 126, 3) := by decide +kernel
theorem d_M_advance_207 : decode b_M_advance 207 = .ok (.iinc 4 1, 3) := by decide +kernel
theorem d_M_advance_210 : decode b_M_advance 210 = .ok (.goto (-87), 3) := by decide +kernel
theorem d_M_advance_213 : decode b_M_advance 213 = .ok (.aload_n 0, 1) := by decide +kernel
theorem d_M_advance_214 : decode b_M_advance 214 = .ok (.iload_n 2, 1) := by decide +kernel
theorem d_M_advance_215 : decode b_M_advance 215 = .ok (.iconst 2, 1) := by decide +kernel
theorem d_M_advance_216 : decode b_M_advance 216 = .ok (.iadd, 1) := by decide +kernel
theorem d_M_advance_217 : decode b_M_advance 217 = .ok (.bipush 96, 2) := by decide +kernel
theorem d_M_advance_219 : decode b_M_advance 219 = .ok (.aload_n 0, 1) := by decide +kernel
theorem d_M_advance_220 : decode b_M_advance 220 = .ok (.getfield 25, 3) := by decide +kernel
theorem d_M_advance_223 : decode b_M_advance 223 = .ok (.iconst 0, 1) := by decide +kernel
theorem d_M_advance_224 : decode b_M_advance 224 = .ok (.iaload, 1) := by decide +kernel
theorem d_M_advance_225 : decode b_M_advance 225 = .ok (.bipush 97, 2) := by decide +kernel
theorem d_M_advance_227 : decode b_M_advance 227 = .ok (.aload_n 0, 1) := by decide +kernel
theorem d_M_advance_228 : decode b_M_advance 228 = .ok (.getfield 25, 3) := by decide +kernel
theorem d_M_advance_231 : decode b_M_advance 231 = .ok (.iconst 1, 1) := by decide +kernel
theorem d_M_advance_232 : decode b_M_advance 232 = .ok (.iaload, 1) := by decide +kernel
theorem d_M_advance_233 : decode b_M_advance 233 = .ok (.iload_n 3, 1) := by decide +kernel
theorem d_M_advance_234 : decode b_M_advance 234 = .ok (.invokevirtual 126, 3) := by decide +kernel
theorem d_M_advance_237 : decode b_M_advance 237 = .ok (.aload_n 0, 1) := by decide +kernel
theorem d_M_advance_238 : decode b_M_advance 238 = .ok (.iload_n 2, 1) := by decide +kernel
theorem d_M_advance_239 : decode b_M_advance 239 = .ok (.iconst 3, 1) := by decide +kernel
theorem d_M_advance_240 : decode b_M_advance 240 = .ok (.iadd, 1) := by decide +kernel
theorem d_M_advance_241 : decode b_M_advance 241 = .ok (.bipush 96, 2) := by decide +kernel
theorem d_M_advance_243 : decode b_M_advance 243 = .ok (.aload_n 0, 1) := by decide +kernel
theorem d_M_advance_244 : decode b_M_advance 244 = .ok (.getfield 25, 3) := by decide +kernel
theorem d_M_advance_247 : decode b_M_advance 247 = .ok (.iconst 2, 1) := by decide +kernel
theorem d_M_advance_248 : decode b_M_advance 248 = .ok (.iaload, 1) := by decide +kernel
theorem d_M_advance_249 : decode b_M_advance 249 = .ok (.bipush 97, 2) := by decide +kernel
theorem d_M_advance_251 : decode b_M_advance 251 = .ok (.aload_n 0, 1) := by decide +kernel
theorem d_M_advance_252 : decode b_M_advance 252 = .ok (.getfield 25, 3) := by decide +kernel
theorem d_M_advance_255 : decode b_M_advance 255 = .ok (.iconst 3, 1) := by decide +kernel
theorem d_M_advance_256 : decode b_M_advance 256 = .ok (.iaload, 1) := by decide +kernel
theorem d_M_advance_257 : decode b_M_advance 257 = .ok (.iload_n 3, 1) := by decide +kernel
theorem d_M_advance_258 : decode b_M_advance 258 = .ok (.invokevirtual 126, 3) := by decide +kernel
theorem d_M_advance_261 : decode b_M_advance 261 = .ok (.aload_n 0, 1) := by decide +kernel
theorem d_M_advance_262 : decode b_M_advance 262 = .ok (.iload_n 2, 1) := by decide +kernel
theorem d_M_advance_263 : decode b_M_advance 263 = .ok (.iconst 4, 1) := by decide +kernel
theorem d_M_advance_264 : decode b_M_advance 264 = .ok (.iadd, 1) := by decide +kernel
theorem d_M_advance_265 : decode b_M_advance 265 = .ok (.bipush 98, 2) := by decide +kernel
theorem d_M_advance_267 : decode b_M_advance 267 = .ok (.aload_n 0, 1) := by decide +kernel
theorem d_M_advance_268 : decode b_M_advance 268 = .ok (.getfield 25, 3) := by decide +kernel
theorem d_M_advance_271 : decode b_M_advance 271 = .ok (.iconst 2, 1) := by decide +kernel
theorem d_M_advance_272 : decode b_M_advance 272 = .ok (.iaload, 1) := by decide +kernel
theorem d_M_advance_273 : decode b_M_advance 273 = .ok (.bipush 99, 2) := by decide +kernel
theorem d_M_advance_275 : decode b_M_advance 275 = .ok (.aload_n 0, 1) := by decide +kernel
theorem d_M_advance_276 : decode b_M_advance 276 = .ok (.getfield 25, 3) := by decide +kernel
theorem d_M_advance_279 : decode b_M_advance 279 = .ok (.iconst 3, 1) := by decide +kernel
theorem d_M_advance_280 : decode b_M_advance 280 = .ok (.iaload, 1) := by decide +kernel
theorem d_M_advance_281 : decode b_M_advance 281 = .ok (.iload_n 3, 1) := by decide +kernel
theorem d_M_advance_282 : decode b_M_advance 282 = .ok (.invokevirtual 126, 3) := by decide +kernel
theorem d_M_advance_285 : decode b_M_advance 285 = .ok (.iconst 0, 1) := by decide +kernel
theorem d_M_advance_286 : decode b_M_advance 286 = .ok (.istore 4, 2) := by decide +kernel
theorem d_M_advance_288 : decode b_M_advance 288 = .ok (.iload 4, 2) := by decide +kernel
theorem d_M_advance_290 : decode b_M_advance 290 = .ok (.iconst 3, 1) := by decide +kernel
theorem d_M_advance_291 : decode b_M_advance 291 = .ok (.if_icmp .ge 30, 3) := by decide +kernel
theorem d_M_advance_294 : decode b_M_advance 294 = .ok (.aload_n 0, 1) := by decide +kernel
theorem d_M_advance_295 : decode b_M_advance 295 = .ok (.iload_n 2, 1) := by decide +kernel
theorem d_M_advance_296 : decode b_M_advance 296 = .ok (.iconst 2, 1) := by decide +kernel
theorem d_M_advance_297 : decode b_M_advance 297 = .ok (.iadd, 1) := by decide +kernel
theorem d_M_advance_298 : decode b_M_advance 298 = .ok (.iload 4, 2) := by decide +kernel
theorem d_M_advance_300 : decode b_M_advance 300 = .ok (.iadd, 1) := by decide +kernel
theorem d_M_advance_301 : decode b_M_advance 301 = .ok (.iload_n 1, 1) := by decide +kernel
theorem d_M_advance_302 : decode b_M_advance 302 = .ok (.iconst 5, 1) := by decide +kernel
theorem d_M_advance_303 : decode b_M_advance 303 = .ok (.iadd, 1) := by decide +kernel
theorem d_M_advance_304 : decode b_M_advance 304 = .ok (.aload_n 0, 1) := by decide +kernel
theorem d_M_advance_305 : decode b_M_advance 305 = .ok (.getfield 28, 3) := by decide +kernel
theorem d_M_advance_308 : decode b_M_advance 308 = .ok (.iload 4, 2) := by decide +kernel
theorem d_M_advance_310 : decode b_M_advance 310 = .ok (.iaload, 1) := by decide +kernel
theorem d_M_advance_311 : decode b_M_advance 311 = .ok (.iload_n 3, 1) := by decide +kernel
theorem d_M_advance_312 : decode b_M_advance 312 = .ok (.invokevirtual 114, 3) := by decide +kernel
theorem d_M_advance_315 : decode b_M_advance 315 = .ok (.iinc 4 1, 3) := by decide +kernel
theorem d_M_advance_318 : decode b_M_advance 318 = .ok (.goto (-30), 3) := by decide +kernel
theorem d_M_advance_321 : decode b_M_advance 321 = .ok (.aload_n 0, 1) := by decide +kernel
theorem d_M_advance_322 : decode b_M_advance 322 = .ok (.iload_n 2, 1) := by decide +kernel
theorem d_M_advance_323 : decode b_M_advance 323 = .ok (.iconst 5, 1) := by decide +kernel
theorem d_M_advance_324 : decode b_M_advance 324 = .ok (.iadd, 1) := by decide +kernel
theorem d_M_advance_325 : decode b_M_advance 325 = .ok (.iload_n 1, 1) := by decide +kernel
theorem d_M_advance_326 : decode b_M_advance 326 = .ok (.iconst 5, 1) := by decide +kernel
theorem d_M_advance_327 : decode b_M_advance 327 = .ok (.iadd, 1) := by decide +kernel
theorem d_M_advance_328 : decode b_M_advance 328 = .ok (.invokevirtual 78, 3) := by decide +kernel
theorem d_M_advance_331 : decode b_M_advance 331 = .ok (.aload_n 0, 1) := by decide +kernel
theorem d_M_advance_332 : decode b_M_advance 332 = .ok (.dup, 1) := by decide +kernel
theorem d_M_advance_333 : decode b_M_advance 333 = .ok (.getfield 90, 3) := by decide +kernel
theorem d_M_advance_336 : decode b_M_advance 336 = .ok (.iconst 1, 1) := by decide +kernel
theorem d_M_advance_337 : decode b_M_advance 337 = .ok (.iadd, 1) := by decide +kernel
theorem d_M_advance_338 : decode b_M_advance 338 = .ok (.putfield 90, 3) := by decide +kernel
theorem d_M_advance_341 : decode b_M_advance 341 = .ok (.aload_n 0, 1) := by decide +kernel
theorem d_M_advance_342 : decode b_M_advance 342 = .ok (.bipush 24, 2) := by decide +kernel
theorem d_M_advance_344 : decode b_M_advance 344 = .ok (.bipush 6, 2) := by decide +kernel
theorem d_M_advance_346 : decode b_M_advance 346 = .ok (.aload_n 0, 1) := by decide +kernel
theorem d_M_advance_347 : decode b_M_advance 347 = .ok (.getfield 90, 3) := by decide +kernel
theorem d_M_advance_350 : decode b_M_advance 350 = .ok (.imul, 1) := by decide +kernel
theorem d_M_advance_351 : decode b_M_advance 351 = .ok (.iadd, 1) := by decide +kernel
theorem d_M_advance_352 : decode b_M_advance 352 = .ok (.iload_n 2, 1) := by decide +kernel
theorem d_M_advance_353 : decode b_M_advance 353 = .ok (.invokevirtual 104, 3) := by decide +kernel
theorem d_M_advance_356 : decode b_M_advance 356 = .ok (.aload_n 0, 1) := by decide +kernel
theorem d_M_advance_357 : decode b_M_advance 357 = .ok (.iconst 0, 1) := by decide +kernel
theorem d_M_advance_358 : decode b_M_advance 358 = .ok (.putfield 97, 3) := by decide +kernel
theorem d_M_advance_361 : decode b_M_advance 361 = .ok (.aload_n 0, 1) := by decide +kernel
theorem d_M_advance_362 : decode b_M_advance 362 = .ok (.getfield 90, 3) := by decide +kernel
theorem d_M_advance_365 : decode b_M_advance 365 = .ok (.ireturn, 1) := by decide +kernel
theorem d_M_crossed_0 : decode b_M_crossed 0 = .ok (.aload_n 0, 1) := by decide +kernel
theorem d_M_crossed_1 : decode b_M_crossed 1 = .ok (.iload_n 1, 1) := by decide +kernel
theorem d_M_crossed_2 : decode b_M_crossed 2 = .ok (.iload_n 2, 1) := by decide +kernel
theorem d_M_crossed_3 : decode b_M_crossed 3 = .ok (.iload_n 3, 1) := by decide +kernel
theorem d_M_crossed_4 : decode b_M_crossed 4 = .ok (.invokevirtual 59, 3) := by decide +kernel
theorem d_M_crossed_7 : decode b_M_crossed 7 = .ok (.aload_n 0, 1) := by decide +kernel
theorem d_M_crossed_8 : decode b_M_crossed 8 = .ok (.iload_n 1, 1) := by decide +kernel
theorem d_M_crossed_9 : decode b_M_crossed 9 = .ok (.iload 4, 2) := by decide +kernel
theorem d_M_crossed_11 : decode b_M_crossed 11 = .ok (.iload 5, 2) := by decide +kernel
theorem d_M_crossed_13 : decode b_M_crossed 13 = .ok (.iload 6, 2) := by decide +kernel
theorem d_M_crossed_15 : decode b_M_crossed 15 = .ok (.iload 7, 2) := by decide +kernel
theorem d_M_crossed_17 : decode b_M_crossed 17 = .ok (.invokevirtual 120, 3) := by decide +kernel
theorem d_M_crossed_20 : decode b_M_crossed 20 = .ok (.return_, 1) := by decide +kernel
theorem d_M_matrix_0 : decode b_M_matrix 0 = .ok (.bipush 110, 2) := by decide +kernel
theorem d_M_matrix_2 : decode b_M_matrix 2 = .ok (.istore 4, 2) := by decide +kernel
theorem d_M_matrix_4 : decode b_M_matrix 4 = .ok (.iconst 0, 1) := by decide +kernel
theorem d_M_matrix_5 : decode b_M_matrix 5 = .ok (.istore 5, 2) := by decide +kernel
theorem d_M_matrix_7 : decode b_M_matrix 7 = .ok (.iload 5, 2) := by decide +kernel
theorem d_M_matrix_9 : decode b_M_matrix 9 = .ok (.iconst 2, 1) := by decide +kernel
theorem d_M_matrix_10 : decode b_M_matrix 10 = .ok (.if_icmp .ge 91, 3) := by decide +kernel
theorem d_M_matrix_13 : decode b_M_matrix 13 = .ok (.aload_n 0, 1) := by decide +kernel
theorem d_M_matrix_14 : decode b_M_matrix 14 = .ok (.bipush 106, 2) := by decide +kernel
theorem d_M_matrix_16 : decode b_M_matrix 16 = .ok (.iload 5, 2) := by decide +kernel
theorem d_M_matrix_18 : decode b_M_matrix 18 = .ok (.iadd, 1) := by decide +kernel
theorem d_M_matrix_19 : decode b_M_matrix 19 = .ok (.iload_n 1, 1) := by decide +kernel
theorem d_M_matrix_20 : decode b_M_matrix 20 = .ok (.iconst 2, 1) := by decide +kernel
theorem d_M_matrix_21 : decode b_M_matrix 21 = .ok (.iadd, 1) := by decide +kernel
theorem d_M_matrix_22 : decode b_M_matrix 22 = .ok (.aload_n 0, 1) := by decide +kernel
theorem d_M_matrix_23 : decode b_M_matrix 23 = .ok (.getfield 31, 3) := by decide +kernel
theorem d_M_matrix_26 : decode b_M_matrix 26 = .ok (.iload_n 3, 1) := by decide +kernel
theorem d_M_matrix_27 : decode b_M_matrix 27 = .ok (.iconst 2, 1) := by decide +kernel
theorem d_M_matrix_28 : decode b_M_matrix 28 = .ok (.iload 5, 2) := by decide +kernel
theorem d_M_matrix_30 : decode b_M_matrix 30 = .ok (.imul, 1) := by decide +kernel
theorem d_M_matrix_31 : decode b_M_matrix 31 = .ok (.iadd, 1) := by decide +kernel
theorem d_M_matrix_32 : decode b_M_matrix 32 = .ok (.iaload, 1) := by decide +kernel
theorem d_M_matrix_33 : decode b_M_matrix 33 = .ok (.iload_n 1, 1) := by decide +kernel
theorem d_M_matrix_34 : decode b_M_matrix 34 = .ok (.iconst 3, 1) := by decide +kernel
theorem d_M_matrix_35 : decode b_M_matrix 35 = .ok (.iadd, 1) := by decide +kernel
theorem d_M_matrix_36 : decode b_M_matrix 36 = .ok (.aload_n 0, 1) := by decide +kernel
theorem d_M_matrix_37 : decode b_M_matrix 37 = .ok (.getfield 31, 3) := by decide +kernel
theorem d_M_matrix_40 : decode b_M_matrix 40 = .ok (.iload_n 3, 1) := by decide +kernel
theorem d_M_matrix_41 : decode b_M_matrix 41 = .ok (.iconst 2, 1) := by decide +kernel
theorem d_M_matrix_42 : decode b_M_matrix 42 = .ok (.iload 5, 2) := by decide +kernel
theorem d_M_matrix_44 : decode b_M_matrix 44 = .ok (.imul, 1) := by decide +kernel
theorem d_M_matrix_45 : decode b_M_matrix 45 = .ok (.iadd, 1) := by decide +kernel
theorem d_M_matrix_46 : decode b_M_matrix 46 = .ok (.iconst 1, 1) := by decide +kernel
theorem d_M_matrix_47 : decode b_M_matrix 47 = .ok (.iadd, 1) := by decide +kernel
theorem d_M_matrix_48 : decode b_M_matrix 48 = .ok (.iaload, 1) := by decide +kernel
theorem d_M_matrix_49 : decode b_M_matrix 49 = .ok (.iload 4, 2) := by decide +kernel
theorem d_M_matrix_51 : decode b_M_matrix 51 = .ok (.invokevirtual 126, 3) := by decide +kernel
theorem d_M_matrix_54 : decode b_M_matrix 54 = .ok (.aload_n 0, 1) := by decide +kernel
theorem d_M_matrix_55 : decode b_M_matrix 55 = .ok (.bipush 108, 2) := by decide +kernel
theorem d_M_matrix_57 : decode b_M_matrix 57 = .ok (.iload 5, 2) := by decide +kernel
theorem d_M_matrix_59 : decode b_M_matrix 59 = .ok (.iadd, 1) := by decide +kernel
theorem d_M_matrix_60 : decode b_M_matrix 60 = .ok (.iload_n 1, 1) := by decide +kernel
theorem d_M_matrix_61 : decode b_M_matrix 61 = .ok (.iconst 3, 1) := by decide +kernel
theorem d_M_matrix_62 : decode b_M_matrix 62 = .ok (.iadd, 1) := by decide +kernel
theorem d_M_matrix_63 : decode b_M_matrix 63 = .ok (.aload_n 0, 1) := by decide +kernel
theorem d_M_matrix_64 : decode b_M_matrix 64 = .ok (.getfield 31, 3) := by decide +kernel
theorem d_M_matrix_67 : decode b_M_matrix 67 = .ok (.iload_n 3, 1) := by decide +kernel
theorem d_M_matrix_68 : decode b_M_matrix 68 = .ok (.iconst 2, 1) := by decide +kernel
theorem d_M_matrix_69 : decode b_M_matrix 69 = .ok (.iload 5, 2) := by decide +kernel
theorem d_M_matrix_71 : decode b_M_matrix 71 = .ok (.imul, 1) := by decide +kernel
theorem d_M_matrix_72 : decode b_M_matrix 72 = .ok (.iadd, 1) := by decide +kernel
theorem d_M_matrix_73 : decode b_M_matrix 73 = .ok (.iaload, 1) := by decide +kernel
theorem d_M_matrix_74 : decode b_M_matrix 74 = .ok (.iload_n 1, 1) := by decide +kernel
theorem d_M_matrix_75 : decode b_M_matrix 75 = .ok (.iconst 4, 1) := by decide +kernel
theorem d_M_matrix_76 : decode b_M_matrix 76 = .ok (.iadd, 1) := by decide +kernel
theorem d_M_matrix_77 : decode b_M_matrix 77 = .ok (.aload_n 0, 1) := by decide +kernel
theorem d_M_matrix_78 : decode b_M_matrix 78 = .ok (.getfield 31, 3) := by decide +kernel
theorem d_M_matrix_81 : decode b_M_matrix 81 = .ok (.iload_n 3, 1) := by decide +kernel
theorem d_M_matrix_82 : decode b_M_matrix 82 = .ok (.iconst 2, 1) := by decide +kernel
theorem d_M_matrix_83 : decode b_M_matrix 83 = .ok (.iload 5, 2) := by decide +kernel
theorem d_M_matrix_85 : decode b_M_matrix 85 = .ok (.imul, 1) := by decide +kernel
theorem d_M_matrix_86 : decode b_M_matrix 86 = .ok (.iadd, 1) := by decide +kernel
theorem d_M_matrix_87 : decode b_M_matrix 87 = .ok (.iconst 1, 1) := by decide +kernel
theorem d_M_matrix_88 : decode b_M_matrix 88 = .ok (.iadd, 1) := by decide +kernel
theorem d_M_matrix_89 : decode b_M_matrix 89 = .ok (.iaload, 1) := by decide +kernel
theorem d_M_matrix_90 : decode b_M_matrix 90 = .ok (.iload 4, 2) := by decide +kernel
theorem d_M_matrix_92 : decode b_M_matrix 92 = .ok (.invokevirtual 126, 3) := by decide +kernel
theorem d_M_matrix_95 : decode b_M_matrix 95 = .ok (.iinc 5 1, 3) := by decide +kernel
theorem d_M_matrix_98 : decode b_M_matrix 98 = .ok (.goto (-91), 3) := by decide +kernel
theorem d_M_matrix_101 : decode b_M_matrix 101 = .ok (.iconst 0, 1) := by decide +kernel
theorem d_M_matrix_102 : decode b_M_matrix 102 = .ok (.istore 5, 2) := by decide +kernel
theorem d_M_matrix_104 : decode b_M_matrix 104 = .ok (.iload 5, 2) := by decide +kernel
theorem d_M_matrix_106 : decode b_M_matrix 106 = .ok (.iconst 2, 1) := by decide +kernel
theorem d_M_matrix_107 : decode b_M_matrix 107 = .ok (.if_icmp .ge 79, 3) := by decide +kernel
theorem d_M_matrix_110 : decode b_M_matrix 110 = .ok (.aload_n 0, 1) := by decide +kernel
theorem d_M_matrix_111 : decode b_M_matrix 111 = .ok (.bipush 96, 2) := by decide +kernel
theorem d_M_matrix_113 : decode b_M_matrix 113 = .ok (.iconst 2, 1) := by decide +kernel
theorem d_M_matrix_114 : decode b_M_matrix 114 = .ok (.iload 5, 2) := by decide +kernel
theorem d_M_matrix_116 : decode b_M_matrix 116 = .ok (.imul, 1) := by decide +kernel
theorem d_M_matrix_117 : decode b_M_matrix 117 = .ok (.iadd, 1) := by decide +kernel
theorem d_M_matrix_118 : decode b_M_matrix 118 = .ok (.bipush 106, 2) := by decide +kernel
theorem d_M_matrix_120 : decode b_M_matrix 120 = .ok (.iconst 2, 1) := by decide +kernel
theorem d_M_matrix_121 : decode b_M_matrix 121 = .ok (.iload 5, 2) := by decide +kernel
theorem d_M_matrix_123 : decode b_M_matrix 123 = .ok (.imul, 1) := by decide +kernel
theorem d_M_matrix_124 : decode b_M_matrix 124 = .ok (.iadd, 1) := by decide +kernel
theorem d_M_matrix_125 : decode b_M_matrix 125 = .ok (.iload_n 2, 1) := by decide +kernel
theorem d_M_matrix_126 : decode b_M_matrix 126 = .ok (.iconst 4, 1) := by decide +kernel
theorem d_M_matrix_127 : decode b_M_matrix 127 = .ok (.iadd, 1) := by decide +kernel
theorem d_M_matrix_128 : decode b_M_matrix 128 = .ok (.bipush 107, 2) := by decide +kernel
theorem d_M_matrix_130 : decode b_M_matrix 130 = .ok (.iconst 2, 1) := by decide +kernel
theorem d_M_matrix_131 : decode b_M_matrix 131 = .ok (.iload 5, 2) := by decide +kernel
theorem d_M_matrix_133 : decode b_M_matrix 133 = .ok (.imul, 1) := by decide +kernel
theorem d_M_matrix_134 : decode b_M_matrix 134 = .ok (.iadd, 1) := by decide +kernel
theorem d_M_matrix_135 : decode b_M_matrix 135 = .ok (.iload_n 2, 1) := by decide +kernel
theorem d_M_matrix_136 : decode b_M_matrix 136 = .ok (.iconst 3, 1) := by decide +kernel
theorem d_M_matrix_137 : decode b_M_matrix 137 = .ok (.iadd, 1) := by decide +kernel
theorem d_M_matrix_138 : decode b_M_matrix 138 = .ok (.iconst (-1), 1) := by decide +kernel
theorem d_M_matrix_139 : decode b_M_matrix 139 = .ok (.iload 4, 2) := by decide +kernel
theorem d_M_matrix_141 : decode b_M_matrix 141 = .ok (.invokevirtual 130, 3) := by decide +kernel
theorem d_M_matrix_144 : decode b_M_matrix 144 = .ok (.aload_n 0, 1) := by decide +kernel
theorem d_M_matrix_145 : decode b_M_matrix 145 = .ok (.bipush 96, 2) := by decide +kernel
theorem d_M_matrix_147 : decode b_M_matrix 147 = .ok (.iconst 2, 1) := by decide +kernel
theorem d_M_matrix_148 : decode b_M_matrix 148 = .ok (.iload 5, 2) := by decide +kernel
theorem d_M_matrix_150 : decode b_M_matrix 150 = .ok (.imul, 1) := by decide +kernel
theorem d_M_matrix_151 : decode b_M_matrix 151 = .ok (.iadd, 1) := by decide +kernel
theorem d_M_matrix_152 : decode b_M_matrix 152 = .ok (.iconst 1, 1) := by decide +kernel
theorem d_M_matrix_153 : decode b_M_matrix 153 = .ok (.iadd, 1) := by decide +kernel
theorem d_M_matrix_154 : decode b_M_matrix 154 = .ok (.bipush 107, 2) := by decide +kernel
theorem d_M_matrix_156 : decode b_M_matrix 156 = .ok (.iconst 2, 1) := by decide +kernel
theorem d_M_matrix_157 : decode b_M_matrix 157 = .ok (.iload 5, 2) := by decide +kernel
theorem d_M_matrix_159 : decode b_M_matrix 159 = .ok (.imul, 1) := by decide +kernel
theorem d_M_matrix_160 : decode b_M_matrix 160 = .ok (.iadd, 1) := by decide +kernel
theorem d_M_matrix_161 : decode b_M_matrix 161 = .ok (.iload_n 2, 1) := by decide +kernel
theorem d_M_matrix_162 : decode b_M_matrix 162 = .ok (.iconst 2, 1) := by decide +kernel
theorem d_M_matrix_163 : decode b_M_matrix 163 = .ok (.iadd, 1) := by decide +kernel
theorem d_M_matrix_164 : decode b_M_matrix 164 = .ok (.bipush 106, 2) := by decide +kernel
theorem d_M_matrix_166 : decode b_M_matrix 166 = .ok (.iconst 2, 1) := by decide +kernel
theorem d_M_matrix_167 : decode b_M_matrix 167 = .ok (.iload 5, 2) := by decide +kernel
theorem d_M_matrix_169 : decode b_M_matrix 169 = .ok (.imul, 1) := by decide +kernel
theorem d_M_matrix_170 : decode b_M_matrix 170 = .ok (.iadd, 1) := by decide +kernel
theorem d_M_matrix_171 : decode b_M_matrix 171 = .ok (.iload_n 2, 1) := by decide +kernel
theorem d_M_matrix_172 : decode b_M_matrix 172 = .ok (.iconst 3, 1) := by decide +kernel
theorem d_M_matrix_173 : decode b_M_matrix 173 = .ok (.iadd, 1) := by decide +kernel
theorem d_M_matrix_174 : decode b_M_matrix 174 = .ok (.iconst (-1), 1) := by decide +kernel
theorem d_M_matrix_175 : decode b_M_matrix 175 = .ok (.iload 4, 2) := by decide +kernel
theorem d_M_matrix_177 : decode b_M_matrix 177 = .ok (.invokevirtual 130, 3) := by decide +kernel
theorem d_M_matrix_180 : decode b_M_matrix 180 = .ok (.iinc 5 1, 3) := by decide +kernel
theorem d_M_matrix_183 : decode b_M_matrix 183 = .ok (.goto (-79), 3) := by decide +kernel
theorem d_M_matrix_186 : decode b_M_matrix 186 = .ok (.aload_n 0, 1) := by decide +kernel
theorem d_M_matrix_187 : decode b_M_matrix 187 = .ok (.bipush 100, 2) := by decide +kernel
theorem d_M_matrix_189 : decode b_M_matrix 189 = .ok (.iload_n 2, 1) := by decide +kernel
theorem d_M_matrix_190 : decode b_M_matrix 190 = .ok (.iconst 2, 1) := by decide +kernel
theorem d_M_matrix_191 : decode b_M_matrix 191 = .ok (.iadd, 1) := by decide +kernel
theorem d_M_matrix_192 : decode b_M_matrix 192 = .ok (.iload_n 2, 1) := by decide +kernel
theorem d_M_matrix_193 : decode b_M_matrix 193 = .ok (.iconst 4, 1) := by decide +kernel
theorem d_M_matrix_194 : decode b_M_matrix 194 = .ok (.iadd, 1) := by decide +kernel
theorem d_M_matrix_195 : decode b_M_matrix 195 = .ok (.iload_n 2, 1) := by decide +kernel
theorem d_M_matrix_196 : decode b_M_matrix 196 = .ok (.iconst 3, 1) := by decide +kernel
theorem d_M_matrix_197 : decode b_M_matrix 197 = .ok (.iadd, 1) := by decide +kernel
theorem d_M_matrix_198 : decode b_M_matrix 198 = .ok (.iload_n 2, 1) := by decide +kernel
theorem d_M_matrix_199 : decode b_M_matrix 199 = .ok (.iconst 3, 1) := by decide +kernel
theorem d_M_matrix_200 : decode b_M_matrix 200 = .ok (.iadd, 1) := by decide +kernel
theorem d_M_matrix_201 : decode b_M_matrix 201 = .ok (.iconst (-1), 1) := by decide +kernel
theorem d_M_matrix_202 : decode b_M_matrix 202 = .ok (.iload 4, 2) := by decide +kernel
theorem d_M_matrix_204 : decode b_M_matrix 204 = .ok (.invokevirtual 130, 3) := by decide +kernel
