theorem d_M_put_63 : decode b_M_put 63 = .ok (.iadd, 1) := by decide +kernel
theorem d_M_put_64 : decode b_M_put 64 = .ok (.lload_n 3, 1) := by decide +kernel
theorem d_M_put_65 : decode b_M_put 65 = .ok (.ldc2_w 38, 3) := by decide +kernel
theorem d_M_put_68 : decode b_M_put 68 = .ok (.land, 1) := by decide +kernel
theorem d_M_put_69 : decode b_M_put 69 = .ok (.l2i, 1) := by decide +kernel
theorem d_M_put_70 : decode b_M_put 70 = .ok (.iastore, 1) := by decide +kernel
theorem d_M_put_71 : decode b_M_put 71 = .ok (.aload_n 0, 1) := by decide +kernel
theorem d_M_put_72 : decode b_M_put 72 = .ok (.getfield 13, 3) := by decide +kernel
theorem d_M_put_75 : decode b_M_put 75 = .ok (.iload_n 1, 1) := by decide +kernel
theorem d_M_put_76 : decode b_M_put 76 = .ok (.dup2, 1) := by decide +kernel
theorem d_M_put_77 : decode b_M_put 77 = .ok (.iaload, 1) := by decide +kernel
theorem d_M_put_78 : decode b_M_put 78 = .ok (.iconst 1, 1) := by decide +kernel
theorem d_M_put_79 : decode b_M_put 79 = .ok (.iadd, 1) := by decide +kernel
theorem d_M_put_80 : decode b_M_put 80 = .ok (.iastore, 1) := by decide +kernel
theorem d_M_put_81 : decode b_M_put 81 = .ok (.lload_n 3, 1) := by decide +kernel
theorem d_M_put_82 : decode b_M_put 82 = .ok (.bipush 16, 2) := by decide +kernel
theorem d_M_put_84 : decode b_M_put 84 = .ok (.lshr, 1) := by decide +kernel
theorem d_M_put_85 : decode b_M_put 85 = .ok (.lstore_n 3, 1) := by decide +kernel
theorem d_M_put_86 : decode b_M_put 86 = .ok (.goto (-43), 3) := by decide +kernel
theorem d_M_put_89 : decode b_M_put 89 = .ok (.return_, 1) := by decide +kernel
theorem d_M_copy_0 : decode b_M_copy 0 = .ok (.aload_n 0, 1) := by decide +kernel
theorem d_M_copy_1 : decode b_M_copy 1 = .ok (.getfield 13, 3) := by decide +kernel
theorem d_M_copy_4 : decode b_M_copy 4 = .ok (.iload_n 1, 1) := by decide +kernel
theorem d_M_copy_5 : decode b_M_copy 5 = .ok (.aload_n 0, 1) := by decide +kernel
theorem d_M_copy_6 : decode b_M_copy 6 = .ok (.getfield 13, 3) := by decide +kernel
theorem d_M_copy_9 : decode b_M_copy 9 = .ok (.iload_n 2, 1) := by decide +kernel
theorem d_M_copy_10 : decode b_M_copy 10 = .ok (.iaload, 1) := by decide +kernel
theorem d_M_copy_11 : decode b_M_copy 11 = .ok (.iastore, 1) := by decide +kernel
theorem d_M_copy_12 : decode b_M_copy 12 = .ok (.aload_n 0, 1) := by decide +kernel
theorem d_M_copy_13 : decode b_M_copy 13 = .ok (.getfield 16, 3) := by decide +kernel
theorem d_M_copy_16 : decode b_M_copy 16 = .ok (.iload_n 1, 1) := by decide +kernel
theorem d_M_copy_17 : decode b_M_copy 17 = .ok (.aload_n 0, 1) := by decide +kernel
theorem d_M_copy_18 : decode b_M_copy 18 = .ok (.getfield 16, 3) := by decide +kernel
theorem d_M_copy_21 : decode b_M_copy 21 = .ok (.iload_n 2, 1) := by decide +kernel
theorem d_M_copy_22 : decode b_M_copy 22 = .ok (.iaload, 1) := by decide +kernel
theorem d_M_copy_23 : decode b_M_copy 23 = .ok (.iastore, 1) := by decide +kernel
theorem d_M_copy_24 : decode b_M_copy 24 = .ok (.iconst 0, 1) := by decide +kernel
theorem d_M_copy_25 : decode b_M_copy 25 = .ok (.istore_n 3, 1) := by decide +kernel
theorem d_M_copy_26 : decode b_M_copy 26 = .ok (.iload_n 3, 1) := by decide +kernel
theorem d_M_copy_27 : decode b_M_copy 27 = .ok (.aload_n 0, 1) := by decide +kernel
theorem d_M_copy_28 : decode b_M_copy 28 = .ok (.getfield 13, 3) := by decide +kernel
theorem d_M_copy_31 : decode b_M_copy 31 = .ok (.iload_n 2, 1) := by decide +kernel
theorem d_M_copy_32 : decode b_M_copy 32 = .ok (.iaload, 1) := by decide +kernel
theorem d_M_copy_33 : decode b_M_copy 33 = .ok (.if_icmp .ge 31, 3) := by decide +kernel
theorem d_M_copy_36 : decode b_M_copy 36 = .ok (.aload_n 0, 1) := by decide +kernel
theorem d_M_copy_37 : decode b_M_copy 37 = .ok (.getfield 7, 3) := by decide +kernel
theorem d_M_copy_40 : decode b_M_copy 40 = .ok (.bipush 110, 2) := by decide +kernel
theorem d_M_copy_42 : decode b_M_copy 42 = .ok (.iload_n 1, 1) := by decide +kernel
theorem d_M_copy_43 : decode b_M_copy 43 = .ok (.imul, 1) := by decide +kernel
theorem d_M_copy_44 : decode b_M_copy 44 = .ok (.iload_n 3, 1) := by decide +kernel
theorem d_M_copy_45 : decode b_M_copy 45 = .ok (.iadd, 1) := by decide +kernel
theorem d_M_copy_46 : decode b_M_copy 46 = .ok (.aload_n 0, 1) := by decide +kernel
theorem d_M_copy_47 : decode b_M_copy 47 = .ok (.getfield 7, 3) := by decide +kernel
theorem d_M_copy_50 : decode b_M_copy 50 = .ok (.bipush 110, 2) := by decide +kernel
theorem d_M_copy_52 : decode b_M_copy 52 = .ok (.iload_n 2, 1) := by decide +kernel
theorem d_M_copy_53 : decode b_M_copy 53 = .ok (.imul, 1) := by decide +kernel
theorem d_M_copy_54 : decode b_M_copy 54 = .ok (.iload_n 3, 1) := by decide +kernel
theorem d_M_copy_55 : decode b_M_copy 55 = .ok (.iadd, 1) := by decide +kernel
theorem d_M_copy_56 : decode b_M_copy 56 = .ok (.iaload, 1) := by decide +kernel
theorem d_M_copy_57 : decode b_M_copy 57 = .ok (.iastore, 1) := by decide +kernel
theorem d_M_copy_58 : decode b_M_copy 58 = .ok (.iinc 3 1, 3) := by decide +kernel
theorem d_M_copy_61 : decode b_M_copy 61 = .ok (.goto (-35), 3) := by decide +kernel
theorem d_M_copy_64 : decode b_M_copy 64 = .ok (.return_, 1) := by decide +kernel
theorem d_M_store_0 : decode b_M_store 0 = .ok (.iload_n 2, 1) := by decide +kernel
theorem d_M_store_1 : decode b_M_store 1 = .ok (.istore 4, 2) := by decide +kernel
theorem d_M_store_3 : decode b_M_store 3 = .ok (.iload 4, 2) := by decide +kernel
theorem d_M_store_5 : decode b_M_store 5 = .ok (.ifCond .le 21, 3) := by decide +kernel
theorem d_M_store_8 : decode b_M_store 8 = .ok (.aload_n 0, 1) := by decide +kernel
theorem d_M_store_9 : decode b_M_store 9 = .ok (.getfield 19, 3) := by decide +kernel
theorem d_M_store_12 : decode b_M_store 12 = .ok (.iload 4, 2) := by decide +kernel
theorem d_M_store_14 : decode b_M_store 14 = .ok (.iconst 1, 1) := by decide +kernel
theorem d_M_store_15 : decode b_M_store 15 = .ok (.isub, 1) := by decide +kernel
theorem d_M_store_16 : decode b_M_store 16 = .ok (.iaload, 1) := by decide +kernel
theorem d_M_store_17 : decode b_M_store 17 = .ok (.ifCond .ne 9, 3) := by decide +kernel
theorem d_M_store_20 : decode b_M_store 20 = .ok (.iinc 4 (-1), 3) := by decide +kernel
theorem d_M_store_23 : decode b_M_store 23 = .ok (.goto (-20), 3) := by decide +kernel
theorem d_M_store_26 : decode b_M_store 26 = .ok (.aload_n 0, 1) := by decide +kernel
theorem d_M_store_27 : decode b_M_store 27 = .ok (.getfield 13, 3) := by decide +kernel
theorem d_M_store_30 : decode b_M_store 30 = .ok (.iload_n 1, 1) := by decide +kernel
theorem d_M_store_31 : decode b_M_store 31 = .ok (.iload 4, 2) := by decide +kernel
theorem d_M_store_33 : decode b_M_store 33 = .ok (.iastore, 1) := by decide +kernel
theorem d_M_store_34 : decode b_M_store 34 = .ok (.aload_n 0, 1) := by decide +kernel
theorem d_M_store_35 : decode b_M_store 35 = .ok (.getfield 16, 3) := by decide +kernel
theorem d_M_store_38 : decode b_M_store 38 = .ok (.iload_n 1, 1) := by decide +kernel
theorem d_M_store_39 : decode b_M_store 39 = .ok (.iload 4, 2) := by decide +kernel
theorem d_M_store_41 : decode b_M_store 41 = .ok (.ifCond .ne 7, 3) := by decide +kernel
theorem d_M_store_44 : decode b_M_store 44 = .ok (.iconst 0, 1) := by decide +kernel
theorem d_M_store_45 : decode b_M_store 45 = .ok (.goto 4, 3) := by decide +kernel
theorem d_M_store_48 : decode b_M_store 48 = .ok (.iload_n 3, 1) := by decide +kernel
theorem d_M_store_49 : decode b_M_store 49 = .ok (.iastore, 1) := by decide +kernel
theorem d_M_store_50 : decode b_M_store 50 = .ok (.iconst 0, 1) := by decide +kernel
theorem d_M_store_51 : decode b_M_store 51 = .ok (.istore 5, 2) := by decide +kernel
theorem d_M_store_53 : decode b_M_store 53 = .ok (.iload 5, 2) := by decide +kernel
theorem d_M_store_55 : decode b_M_store 55 = .ok (.iload 4, 2) := by decide +kernel
theorem d_M_store_57 : decode b_M_store 57 = .ok (.if_icmp .ge 28, 3) := by decide +kernel
theorem d_M_store_60 : decode b_M_store 60 = .ok (.aload_n 0, 1) := by decide +kernel
theorem d_M_store_61 : decode b_M_store 61 = .ok (.getfield 7, 3) := by decide +kernel
theorem d_M_store_64 : decode b_M_store 64 = .ok (.bipush 110, 2) := by decide +kernel
theorem d_M_store_66 : decode b_M_store 66 = .ok (.iload_n 1, 1) := by decide +kernel
theorem d_M_store_67 : decode b_M_store 67 = .ok (.imul, 1) := by decide +kernel
theorem d_M_store_68 : decode b_M_store 68 = .ok (.iload 5, 2) := by decide +kernel
theorem d_M_store_70 : decode b_M_store 70 = .ok (.iadd, 1) := by decide +kernel
theorem d_M_store_71 : decode b_M_store 71 = .ok (.aload_n 0, 1) := by decide +kernel
theorem d_M_store_72 : decode b_M_store 72 = .ok (.getfield 19, 3) := by decide +kernel
theorem d_M_store_75 : decode b_M_store 75 = .ok (.iload 5, 2) := by decide +kernel
theorem d_M_store_77 : decode b_M_store 77 = .ok (.iaload, 1) := by decide +kernel
theorem d_M_store_78 : decode b_M_store 78 = .ok (.iastore, 1) := by decide +kernel
theorem d_M_store_79 : decode b_M_store 79 = .ok (.iinc 5 1, 3) := by decide +kernel
theorem d_M_store_82 : decode b_M_store 82 = .ok (.goto (-29), 3) := by decide +kernel
theorem d_M_store_85 : decode b_M_store 85 = .ok (.return_, 1) := by decide +kernel
theorem d_M_digitOf_0 : decode b_M_digitOf 0 = .ok (.iload_n 2, 1) := by decide +kernel
theorem d_M_digitOf_1 : decode b_M_digitOf 1 = .ok (.aload_n 0, 1) := by decide +kernel
theorem d_M_digitOf_2 : decode b_M_digitOf 2 = .ok (.getfield 13, 3) := by decide +kernel
theorem d_M_digitOf_5 : decode b_M_digitOf 5 = .ok (.iload_n 1, 1) := by decide +kernel
theorem d_M_digitOf_6 : decode b_M_digitOf 6 = .ok (.iaload, 1) := by decide +kernel
theorem d_M_digitOf_7 : decode b_M_digitOf 7 = .ok (.if_icmp .ge 17, 3) := by decide +kernel
theorem d_M_digitOf_10 : decode b_M_digitOf 10 = .ok (.aload_n 0, 1) := by decide +kernel
theorem d_M_digitOf_11 : decode b_M_digitOf 11 = .ok (.getfield 7, 3) := by decide +kernel
theorem d_M_digitOf_14 : decode b_M_digitOf 14 = .ok (.bipush 110, 2) := by decide +kernel
theorem d_M_digitOf_16 : decode b_M_digitOf 16 = .ok (.iload_n 1, 1) := by decide +kernel
theorem d_M_digitOf_17 : decode b_M_digitOf 17 = .ok (.imul, 1) := by decide +kernel
theorem d_M_digitOf_18 : decode b_M_digitOf 18 = .ok (.iload_n 2, 1) := by decide +kernel
theorem d_M_digitOf_19 : decode b_M_digitOf 19 = .ok (.iadd, 1) := by decide +kernel
theorem d_M_digitOf_20 : decode b_M_digitOf 20 = .ok (.iaload, 1) := by decide +kernel
theorem d_M_digitOf_21 : decode b_M_digitOf 21 = .ok (.goto 4, 3) := by decide +kernel
theorem d_M_digitOf_24 : decode b_M_digitOf 24 = .ok (.iconst 0, 1) := by decide +kernel
theorem d_M_digitOf_25 : decode b_M_digitOf 25 = .ok (.ireturn, 1) := by decide +kernel
theorem d_M_against_0 : decode b_M_against 0 = .ok (.aload_n 0, 1) := by decide +kernel
theorem d_M_against_1 : decode b_M_against 1 = .ok (.getfield 13, 3) := by decide +kernel
theorem d_M_against_4 : decode b_M_against 4 = .ok (.iload_n 1, 1) := by decide +kernel
theorem d_M_against_5 : decode b_M_against 5 = .ok (.iaload, 1) := by decide +kernel
theorem d_M_against_6 : decode b_M_against 6 = .ok (.aload_n 0, 1) := by decide +kernel
theorem d_M_against_7 : decode b_M_against 7 = .ok (.getfield 13, 3) := by decide +kernel
theorem d_M_against_10 : decode b_M_against 10 = .ok (.iload_n 2, 1) := by decide +kernel
theorem d_M_against_11 : decode b_M_against 11 = .ok (.iaload, 1) := by decide +kernel
theorem d_M_against_12 : decode b_M_against 12 = .ok (.if_icmp .le 12, 3) := by decide +kernel
theorem d_M_against_15 : decode b_M_against 15 = .ok (.aload_n 0, 1) := by decide +kernel
theorem d_M_against_16 : decode b_M_against 16 = .ok (.getfield 13, 3) := by decide +kernel
theorem d_M_against_19 : decode b_M_against 19 = .ok (.iload_n 1, 1) := by decide +kernel
theorem d_M_against_20 : decode b_M_against 20 = .ok (.iaload, 1) := by decide +kernel
theorem d_M_against_21 : decode b_M_against 21 = .ok (.goto 9, 3) := by decide +kernel
theorem d_M_against_24 : decode b_M_against 24 = .ok (.aload_n 0, 1) := by decide +kernel
theorem d_M_against_25 : decode b_M_against 25 = .ok (.getfield 13, 3) := by decide +kernel
theorem d_M_against_28 : decode b_M_against 28 = .ok (.iload_n 2, 1) := by decide +kernel
theorem d_M_against_29 : decode b_M_against 29 = .ok (.iaload, 1) := by decide +kernel
theorem d_M_against_30 : decode b_M_against 30 = .ok (.istore_n 3, 1) := by decide +kernel
theorem d_M_against_31 : decode b_M_against 31 = .ok (.iload_n 3, 1) := by decide +kernel
theorem d_M_against_32 : decode b_M_against 32 = .ok (.iconst 1, 1) := by decide +kernel
theorem d_M_against_33 : decode b_M_against 33 = .ok (.isub, 1) := by decide +kernel
theorem d_M_against_34 : decode b_M_against 34 = .ok (.istore 4, 2) := by decide +kernel
theorem d_M_against_36 : decode b_M_against 36 = .ok (.iload 4, 2) := by decide +kernel
theorem d_M_against_38 : decode b_M_against 38 = .ok (.ifCond .lt 42, 3) := by decide +kernel
theorem d_M_against_41 : decode b_M_against 41 = .ok (.aload_n 0, 1) := by decide +kernel
theorem d_M_against_42 : decode b_M_against 42 = .ok (.iload_n 1, 1) := by decide +kernel
theorem d_M_against_43 : decode b_M_against 43 = .ok (.iload 4, 2) := by decide +kernel
theorem d_M_against_45 : decode b_M_against 45 = .ok (.invokevirtual 40, 3) := by decide +kernel
theorem d_M_against_48 : decode b_M_against 48 = .ok (.aload_n 0, 1) := by decide +kernel
theorem d_M_against_49 : decode b_M_against 49 = .ok (.iload_n 2, 1) := by decide +kernel
theorem d_M_against_50 : decode b_M_against 50 = .ok (.iload 4, 2) := by decide +kernel
theorem d_M_against_52 : decode b_M_against 52 = .ok (.invokevirtual 40, 3) := by decide +kernel
theorem d_M_against_55 : decode b_M_against 55 = .ok (.isub, 1) := by decide +kernel
theorem d_M_against_56 : decode b_M_against 56 = .ok (.istore 5, 2) := by decide +kernel
theorem d_M_against_58 : decode b_M_against 58 = .ok (.iload 5, 2) := by decide +kernel
theorem d_M_against_60 : decode b_M_against 60 = .ok (.ifCond .eq 14, 3) := by decide +kernel
theorem d_M_against_63 : decode b_M_against 63 = .ok (.iload 5, 2) := by decide +kernel
theorem d_M_against_65 : decode b_M_against 65 = .ok (.ifCond .ge 7, 3) := by decide +kernel
theorem d_M_against_68 : decode b_M_against 68 = .ok (.iconst (-1), 1) := by decide +kernel
theorem d_M_against_69 : decode b_M_against 69 = .ok (.goto 4, 3) := by decide +kernel
theorem d_M_against_72 : decode b_M_against 72 = .ok (.iconst 1, 1) := by decide +kernel
theorem d_M_against_73 : decode b_M_against 73 = .ok (.ireturn, 1) := by decide +kernel
theorem d_M_against_74 : decode b_M_against 74 = .ok (.iinc 4 (-1), 3) := by decide +kernel
theorem d_M_against_77 : decode b_M_against 77 = .ok (.goto (-41), 3) := by decide +kernel
theorem d_M_against_80 : decode b_M_against 80 = .ok (.iconst 0, 1) := by decide +kernel
theorem d_M_against_81 : decode b_M_against 81 = .ok (.ireturn, 1) := by decide +kernel
theorem d_M_sum_0 : decode b_M_sum 0 = .ok (.aload_n 0, 1) := by decide +kernel
theorem d_M_sum_1 : decode b_M_sum 1 = .ok (.getfield 13, 3) := by decide +kernel
theorem d_M_sum_4 : decode b_M_sum 4 = .ok (.iload_n 2, 1) := by decide +kernel
theorem d_M_sum_5 : decode b_M_sum 5 = .ok (.iaload, 1) := by decide +kernel
theorem d_M_sum_6 : decode b_M_sum 6 = .ok (.aload_n 0, 1) := by decide +kernel
theorem d_M_sum_7 : decode b_M_sum 7 = .ok (.getfield 13, 3) := by decide +kernel
theorem d_M_sum_10 : decode b_M_sum 10 = .ok (.iload_n 3, 1) := by decide +kernel
theorem d_M_sum_11 : decode b_M_sum 11 = .ok (.iaload, 1) := by decide +kernel
theorem d_M_sum_12 : decode b_M_sum 12 = .ok (.if_icmp .le 12, 3) := by decide +kernel
theorem d_M_sum_15 : decode b_M_sum 15 = .ok (.aload_n 0, 1) := by decide +kernel
theorem d_M_sum_16 : decode b_M_sum 16 = .ok (.getfield 13, 3) := by decide +kernel
theorem d_M_sum_19 : decode b_M_sum 19 = .ok (.iload_n 2, 1) := by decide +kernel
theorem d_M_sum_20 : decode b_M_sum 20 = .ok (.iaload, 1) := by decide +kernel
theorem d_M_sum_21 : decode b_M_sum 21 = .ok (.goto 9, 3) := by decide +kernel
theorem d_M_sum_24 : decode b_M_sum 24 = .ok (.aload_n 0, 1) := by decide +kernel
theorem d_M_sum_25 : decode b_M_sum 25 = .ok (.getfield 13, 3) := by decide +kernel
theorem d_M_sum_28 : decode b_M_sum 28 = .ok (.iload_n 3, 1) := by decide +kernel
theorem d_M_sum_29 : decode b_M_sum 29 = .ok (.iaload, 1) := by decide +kernel
theorem d_M_sum_30 : decode b_M_sum 30 = .ok (.istore 5, 2) := by decide +kernel
theorem d_M_sum_32 : decode b_M_sum 32 = .ok (.iload 4, 2) := by decide +kernel
theorem d_M_sum_34 : decode b_M_sum 34 = .ok (.aload_n 0, 1) := by decide +kernel
theorem d_M_sum_35 : decode b_M_sum 35 = .ok (.getfield 16, 3) := by decide +kernel
theorem d_M_sum_38 : decode b_M_sum 38 = .ok (.iload_n 3, 1) := by decide +kernel
theorem d_M_sum_39 : decode b_M_sum 39 = .ok (.iaload, 1) := by decide +kernel
theorem d_M_sum_40 : decode b_M_sum 40 = .ok (.imul, 1) := by decide +kernel
theorem d_M_sum_41 : decode b_M_sum 41 = .ok (.istore 6, 2) := by decide +kernel
theorem d_M_sum_43 : decode b_M_sum 43 = .ok (.iconst 0, 1) := by decide +kernel
theorem d_M_sum_44 : decode b_M_sum 44 = .ok (.istore 7, 2) := by decide +kernel
theorem d_M_sum_46 : decode b_M_sum 46 = .ok (.aload_n 0, 1) := by decide +kernel
theorem d_M_sum_47 : decode b_M_sum 47 = .ok (.getfield 16, 3) := by decide +kernel
theorem d_M_sum_50 : decode b_M_sum 50 = .ok (.iload_n 2, 1) := by decide +kernel
theorem d_M_sum_51 : decode b_M_sum 51 = .ok (.iaload, 1) := by decide +kernel
theorem d_M_sum_52 : decode b_M_sum 52 = .ok (.iload 6, 2) := by decide +kernel
theorem d_M_sum_54 : decode b_M_sum 54 = .ok (.imul, 1) := by decide +kernel
theorem d_M_sum_55 : decode b_M_sum 55 = .ok (.ifCond .lt 97, 3) := by decide +kernel
theorem d_M_sum_58 : decode b_M_sum 58 = .ok (.iconst 0, 1) := by decide +kernel
theorem d_M_sum_59 : decode b_M_sum 59 = .ok (.istore 8, 2) := by decide +kernel
theorem d_M_sum_61 : decode b_M_sum 61 = .ok (.iload 8, 2) := by decide +kernel
theorem d_M_sum_63 : decode b_M_sum 63 = .ok (.iload 5, 2) := by decide +kernel
theorem d_M_sum_65 : decode b_M_sum 65 = .ok (.if_icmp .ge 48, 3) := by decide +kernel
theorem d_M_sum_68 : decode b_M_sum 68 = .ok (.iload 7, 2) := by decide +kernel
theorem d_M_sum_70 : decode b_M_sum 70 = .ok (.aload_n 0, 1) := by decide +kernel
theorem d_M_sum_71 : decode b_M_sum 71 = .ok (.iload_n 2, 1) := by decide +kernel
theorem d_M_sum_72 : decode b_M_sum 72 = .ok (.iload 8, 2) := by decide +kernel
theorem d_M_sum_74 : decode b_M_sum 74 = .ok (.invokevirtual 40, 3) := by decide +kernel
theorem d_M_sum_77 : decode b_M_sum 77 = .ok (.iadd, 1) := by decide +kernel
theorem d_M_sum_78 : decode b_M_sum 78 = .ok (.aload_n 0, 1) := by decide +kernel
theorem d_M_sum_79 : decode b_M_sum 79 = .ok (.iload_n 3, 1) := by decide +kernel
theorem d_M_sum_80 : decode b_M_sum 80 = .ok (.iload 8, 2) := by decide +kernel
theorem d_M_sum_82 : decode b_M_sum 82 = .ok (.invokevirtual 40, 3) := by decide +kernel
theorem d_M_sum_85 : decode b_M_sum 85 = .ok (.iadd, 1) := by decide +kernel
theorem d_M_sum_86 : decode b_M_sum 86 = .ok (.istore 7, 2) := by decide +kernel
theorem d_M_sum_88 : decode b_M_sum 88 = .ok (.aload_n 0, 1) := by decide +kernel
theorem d_M_sum_89 : decode b_M_sum 89 = .ok (.getfield 19, 3) := by decide +kernel
theorem d_M_sum_92 : decode b_M_sum 92 = .ok (.iload 8, 2) := by decide +kernel
theorem d_M_sum_94 : decode b_M_sum 94 = .ok (.iload 7, 2) := by decide +kernel
theorem d_M_sum_96 : decode b_M_sum 96 = .ok (.ldc 44, 2) := by decide +kernel
theorem d_M_sum_98 : decode b_M_sum 98 = .ok (.iand, 1) := by decide +kernel
theorem d_M_sum_99 : decode b_M_sum 99 = .ok (.iastore, 1) := by decide +kernel
theorem d_M_sum_100 : decode b_M_sum 100 = .ok (.iload 7, 2) := by decide +kernel
theorem d_M_sum_102 : decode b_M_sum 102 = .ok (.bipush 16, 2) := by decide +kernel
theorem d_M_sum_104 : decode b_M_sum 104 = .ok (.ishr, 1) := by decide +kernel
theorem d_M_sum_105 : decode b_M_sum 105 = .ok (.istore 7, 2) := by decide +kernel
theorem d_M_sum_107 : decode b_M_sum 107 = .ok (.iinc 8 1, 3) := by decide +kernel
theorem d_M_sum_110 : decode b_M_sum 110 = .ok (.goto (-49), 3) := by decide +kernel
theorem d_M_sum_113 : decode b_M_sum 113 = .ok (.aload_n 0, 1) := by decide +kernel
theorem d_M_sum_114 : decode b_M_sum 114 = .ok (.getfield 19, 3) := by decide +kernel
theorem d_M_sum_117 : decode b_M_sum 117 = .ok (.iload 5, 2) := by decide +kernel
theorem d_M_sum_119 : decode b_M_sum 119 = .ok (.iload 7, 2) := by decide +kernel
theorem d_M_sum_121 : decode b_M_sum 121 = .ok (.iastore, 1) := by decide +kernel
theorem d_M_sum_122 : decode b_M_sum 122 = .ok (.aload_n 0, 1) := by decide +kernel
theorem d_M_sum_123 : decode b_M_sum 123 = .ok (.iload_n 1, 1) := by decide +kernel
theorem d_M_sum_124 : decode b_M_sum 124 = .ok (.iload 5, 2) := by decide +kernel
theorem d_M_sum_126 : decode b_M_sum 126 = .ok (.iconst 1, 1) := by decide +kernel
theorem d_M_sum_127 : decode b_M_sum 127 = .ok (.iadd, 1) := by decide +kernel
theorem d_M_sum_128 : decode b_M_sum 128 = .ok (.aload_n 0, 1) := by decide +kernel
theorem d_M_sum_129 : decode b_M_sum 129 = .ok (.getfield 16, 3) := by decide +kernel
theorem d_M_sum_132 : decode b_M_sum 132 = .ok (.iload_n 2, 1) := by decide +kernel
theorem d_M_sum_133 : decode b_M_sum 133 = .ok (.iaload, 1) := by decide +kernel
theorem d_M_sum_134 : decode b_M_sum 134 = .ok (.ifCond .ne 8, 3) := by decide +kernel
theorem d_M_sum_137 : decode b_M_sum 137 = .ok (.iload 6, 2) := by decide +kernel
theorem d_M_sum_139 : decode b_M_sum 139 = .ok (.goto 9, 3) := by decide +kernel
theorem d_M_sum_142 : decode b_M_sum 142 = .ok (.aload_n 0, 1) := by decide +kernel
theorem d_M_sum_143 : decode b_M_sum 143 = .ok (.getfield 16, 3) := by decide +kernel
theorem d_M_sum_146 : decode b_M_sum 146 = .ok (.iload_n 2, 1) := by decide +kernel
theorem d_M_sum_147 : decode b_M_sum 147 = .ok (.iaload, 1) := by decide +kernel
theorem d_M_sum_148 : decode b_M_sum 148 = .ok (.invokevirtual 45, 3) := by decide +kernel
theorem d_M_sum_151 : decode b_M_sum 151 = .ok (.return_, 1) := by decide +kernel
theorem d_M_sum_152 : decode b_M_sum 152 = .ok (.aload_n 0, 1) := by decide +kernel
theorem d_M_sum_153 : decode b_M_sum 153 = .ok (.iload_n 2, 1) := by decide +kernel
theorem d_M_sum_154 : decode b_M_sum 154 = .ok (.iload_n 3, 1) := by decide +kernel
theorem d_M_sum_155 : decode b_M_sum 155 = .ok (.invokevirtual 49, 3) := by decide +kernel
theorem d_M_sum_158 : decode b_M_sum 158 = .ok (.ifCond .lt 7, 3) := by decide +kernel
theorem d_M_sum_161 : decode b_M_sum 161 = .ok (.iconst 1, 1) := by decide +kernel
theorem d_M_sum_162 : decode b_M_sum 162 = .ok (.goto 4, 3) := by decide +kernel
theorem d_M_sum_165 : decode b_M_sum 165 = .ok (.iconst 0, 1) := by decide +kernel
theorem d_M_sum_166 : decode b_M_sum 166 = .ok (.istore 8, 2) := by decide +kernel
theorem d_M_sum_168 : decode b_M_sum 168 = .ok (.iload 8, 2) := by decide +kernel
theorem d_M_sum_170 : decode b_M_sum 170 = .ok (.ifCond .eq 7, 3) := by decide +kernel
theorem d_M_sum_173 : decode b_M_sum 173 = .ok (.iload_n 2, 1) := by decide +kernel
theorem d_M_sum_174 : decode b_M_sum 174 = .ok (.goto 4, 3) := by decide +kernel
theorem d_M_sum_177 : decode b_M_sum 177 = .ok (.iload_n 3, 1) := by decide +kernel
theorem d_M_sum_178 : decode b_M_sum 178 = .ok (.istore 9, 2) := by decide +kernel
theorem d_M_sum_180 : decode b_M_sum 180 = .ok (.iload 8, 2) := by decide +kernel
theorem d_M_sum_182 : decode b_M_sum 182 = .ok (.ifCond .eq 7, 3) := by decide +kernel
theorem d_M_sum_185 : decode b_M_sum 185 = .ok (.iload_n 3, 1) := by decide +kernel
theorem d_M_sum_186 : decode b_M_sum 186 = .ok (.goto 4, 3) := by decide +kernel
theorem d_M_sum_189 : decode b_M_sum 189 = .ok (.iload_n 2, 1) := by decide +kernel
theorem d_M_sum_190 : decode b_M_sum 190 = .ok (.istore 10, 2) := by decide +kernel
theorem d_M_sum_192 : decode b_M_sum 192 = .ok (.iconst 0, 1) := by decide +kernel
theorem d_M_sum_193 : decode b_M_sum 193 = .ok (.istore 11, 2) := by decide +kernel
theorem d_M_sum_195 : decode b_M_sum 195 = .ok (.iload 11, 2) := by decide +kernel
theorem d_M_sum_197 : decode b_M_sum 197 = .ok (.iload 5, 2) := by decide +kernel
theorem d_M_sum_199 : decode b_M_sum 199 = .ok (.if_icmp .ge 55, 3) := by decide +kernel
theorem d_M_sum_202 : decode b_M_sum 202 = .ok (.aload_n 0, 1) := by decide +kernel
theorem d_M_sum_203 : decode b_M_sum 203 = .ok (.iload 9, 2) := by decide +kernel
theorem d_M_sum_205 : decode b_M_sum 205 = .ok (.iload 11, 2) := by decide +kernel
theorem d_M_sum_207 : decode b_M_sum 207 = .ok (.invokevirtual 40, 3) := by decide +kernel
theorem d_M_sum_210 : decode b_M_sum 210 = .ok (.aload_n 0, 1) := by decide +kernel
theorem d_M_sum_211 : decode b_M_sum 211 = .ok (.iload 10, 2) := by decide +kernel
theorem d_M_sum_213 : decode b_M_sum 213 = .ok (.iload 11, 2) := by decide +kernel
theorem d_M_sum_215 : decode b_M_sum 215 = .ok (.invokevirtual 40, 3) := by decide +kernel
theorem d_M_sum_218 : decode b_M_sum 218 = .ok (.isub, 1) := by decide +kernel
theorem d_M_sum_219 : decode b_M_sum 219 = .ok (.iload 7, 2) := by decide +kernel
theorem d_M_sum_221 : decode b_M_sum 221 = .ok (.iadd, 1) := by decide +kernel
theorem d_M_sum_222 : decode b_M_sum 222 = .ok (.istore 12, 2) := by decide +kernel
theorem d_M_sum_224 : decode b_M_sum 224 = .ok (.aload_n 0, 1) := by decide +kernel
theorem d_M_sum_225 : decode b_M_sum 225 = .ok (.getfield 19, 3) := by decide +kernel
theorem d_M_sum_228 : decode b_M_sum 228 = .ok (.iload 11, 2) := by decide +kernel
theorem d_M_sum_230 : decode b_M_sum 230 = .ok (.iload 12, 2) := by decide +kernel
theorem d_M_sum_232 : decode b_M_sum 232 = .ok (.ldc 44, 2) := by decide +kernel
theorem d_M_sum_234 : decode b_M_sum 234 = .ok (.iand, 1) := by decide +kernel
theorem d_M_sum_235 : decode b_M_sum 235 = .ok (.iastore, 1) := by decide +kernel
theorem d_M_sum_236 : decode b_M_sum 236 = .ok (.iload 12, 2) := by decide +kernel
theorem d_M_sum_238 : decode b_M_sum 238 = .ok (.ifCond .ge 7, 3) := by decide +kernel
theorem d_M_sum_241 : decode b_M_sum 241 = .ok (.iconst (-1), 1) := by decide +kernel
theorem d_M_sum_242 : decode b_M_sum 242 = .ok (.goto 4, 3) := by decide +kernel
theorem d_M_sum_245 : decode b_M_sum 245 = .ok (.iconst 0, 1) := by decide +kernel
theorem d_M_sum_246 : decode b_M_sum 246 = .ok (.istore 7, 2) := by decide +kernel
theorem d_M_sum_248 : decode b_M_sum 248 = .ok (.iinc 11 1, 3) := by decide +kernel
theorem d_M_sum_251 : decode b_M_sum 251 = .ok (.goto (-56), 3) := by decide +kernel
theorem d_M_sum_254 : decode b_M_sum 254 = .ok (.aload_n 0, 1) := by decide +kernel
theorem d_M_sum_255 : decode b_M_sum 255 = .ok (.iload_n 1, 1) := by decide +kernel
theorem d_M_sum_256 : decode b_M_sum 256 = .ok (.iload 5, 2) := by decide +kernel
theorem d_M_sum_258 : decode b_M_sum 258 = .ok (.iload 8, 2) := by decide +kernel
theorem d_M_sum_260 : decode b_M_sum 260 = .ok (.ifCond .eq 12, 3) := by decide +kernel
theorem d_M_sum_263 : decode b_M_sum 263 = .ok (.aload_n 0, 1) := by decide +kernel
theorem d_M_sum_264 : decode b_M_sum 264 = .ok (.getfield 16, 3) := by decide +kernel
theorem d_M_sum_267 : decode b_M_sum 267 = .ok (.iload_n 2, 1) := by decide +kernel
theorem d_M_sum_268 : decode b_M_sum 268 = .ok (.iaload, 1) := by decide +kernel
theorem d_M_sum_269 : decode b_M_sum 269 = .ok (.goto 5, 3) := by decide +kernel
theorem d_M_sum_272 : decode b_M_sum 272 = .ok (.iload 6, 2) := by decide +kernel
theorem d_M_sum_274 : decode b_M_sum 274 = .ok (.invokevirtual 45, 3) := by decide +kernel
theorem d_M_sum_277 : decode b_M_sum 277 = .ok (.return_, 1) := by decide +kernel
theorem d_M_times_0 : decode b_M_times 0 = .ok (.aload_n 0, 1) := by decide +kernel
theorem d_M_times_1 : decode b_M_times 1 = .ok (.getfield 13, 3) := by decide +kernel
theorem d_M_times_4 : decode b_M_times 4 = .ok (.iload_n 2, 1) := by decide +kernel
theorem d_M_times_5 : decode b_M_times 5 = .ok (.iaload, 1) := by decide +kernel
theorem d_M_times_6 : decode b_M_times 6 = .ok (.aload_n 0, 1) := by decide +kernel
theorem d_M_times_7 : decode b_M_times 7 = .ok (.getfield 13, 3) := by decide +kernel
theorem d_M_times_10 : decode b_M_times 10 = .ok (.iload_n 3, 1) := by decide +kernel
theorem d_M_times_11 : decode b_M_times 11 = .ok (.iaload, 1) := by decide +kernel
theorem d_M_times_12 : decode b_M_times 12 = .ok (.iadd, 1) := by decide +kernel
theorem d_M_times_13 : decode b_M_times 13 = .ok (.istore 4, 2) := by decide +kernel
theorem d_M_times_15 : decode b_M_times 15 = .ok (.iconst 0, 1) := by decide +kernel
theorem d_M_times_16 : decode b_M_times 16 = .ok (.istore 5, 2) := by decide +kernel
theorem d_M_times_18 : decode b_M_times 18 = .ok (.iload 5, 2) := by decide +kernel
theorem d_M_times_20 : decode b_M_times 20 = .ok (.iload 4, 2) := by decide +kernel
theorem d_M_times_22 : decode b_M_times 22 = .ok (.if_icmp .ge 17, 3) := by decide +kernel
theorem d_M_times_25 : decode b_M_times 25 = .ok (.aload_n 0, 1) := by decide +kernel
theorem d_M_times_26 : decode b_M_times 26 = .ok (.getfield 19, 3) := by decide +kernel
theorem d_M_times_29 : decode b_M_times 29 = .ok (.iload 5, 2) := by decide +kernel
theorem d_M_times_31 : decode b_M_times 31 = .ok (.iconst 0, 1) := by decide +kernel
theorem d_M_times_32 : decode b_M_times 32 = .ok (.iastore, 1) := by decide +kernel
theorem d_M_times_33 : decode b_M_times 33 = .ok (.iinc 5 1, 3) := by decide +kernel
theorem d_M_times_36 : decode b_M_times 36 = .ok (.goto (-18), 3) := by decide +kernel
theorem d_M_times_39 : decode b_M_times 39 = .ok (.iconst 0, 1) := by decide +kernel
theorem d_M_times_40 : decode b_M_times 40 = .ok (.istore 5, 2) := by decide +kernel
theorem d_M_times_42 : decode b_M_times 42 = .ok (.iload 5, 2) := by decide +kernel
theorem d_M_times_44 : decode b_M_times 44 = .ok (.aload_n 0, 1) := by decide +kernel
theorem d_M_times_45 : decode b_M_times 45 = .ok (.getfield 13, 3) := by decide +kernel
theorem d_M_times_48 : decode b_M_times 48 = .ok (.iload_n 2, 1) := by decide +kernel
theorem d_M_times_49 : decode b_M_times 49 = .ok (.iaload, 1) := by decide +kernel
theorem d_M_times_50 : decode b_M_times 50 = .ok (.if_icmp .ge 107, 3) := by decide +kernel
theorem d_M_times_53 : decode b_M_times 53 = .ok (.lconst 0, 1) := by decide +kernel
theorem d_M_times_54 : decode b_M_times 54 = .ok (.lstore 6, 2) := by decide +kernel
theorem d_M_times_56 : decode b_M_times 56 = .ok (.iconst 0, 1) := by decide +kernel
theorem d_M_times_57 : decode b_M_times 57 = .ok (.istore 8, 2) := by decide +kernel
theorem d_M_times_59 : decode b_M_times 59 = .ok (.iload 8, 2) := by decide +kernel
theorem d_M_times_61 : decode b_M_times 61 = .ok (.aload_n 0, 1) := by decide +kernel
theorem d_M_times_62 : decode b_M_times 62 = .ok (.getfield 13, 3) := by decide +kernel
theorem d_M_times_65 : decode b_M_times 65 = .ok (.iload_n 3, 1) := by decide +kernel
theorem d_M_times_66 : decode b_M_times 66 = .ok (.iaload, 1) := by decide +kernel
theorem d_M_times_67 : decode b_M_times 67 = .ok (.if_icmp .ge 67, 3) := by decide +kernel
theorem d_M_times_70 : decode b_M_times 70 = .ok (.lload 6, 2) := by decide +kernel
theorem d_M_times_72 : decode b_M_times 72 = .ok (.aload_n 0, 1) := by decide +kernel
theorem d_M_times_73 : decode b_M_times 73 = .ok (.getfield 19, 3) := by decide +kernel
theorem d_M_times_76 : decode b_M_times 76 = .ok (.iload 5, 2) := by decide +kernel
theorem d_M_times_78 : decode b_M_times 78 = .ok (.iload 8, 2) := by decide +kernel
theorem d_M_times_80 : decode b_M_times 80 = .ok (.iadd, 1) := by decide +kernel
theorem d_M_times_81 : decode b_M_times 81 = .ok (.iaload, 1) := by decide +kernel
theorem d_M_times_82 : decode b_M_times 82 = .ok (.i2l, 1) := by decide +kernel
theorem d_M_times_83 : decode b_M_times 83 = .ok (.ladd, 1) := by decide +kernel
theorem d_M_times_84 : decode b_M_times 84 = .ok (.aload_n 0, 1) := by decide +kernel
theorem d_M_times_85 : decode b_M_times 85 = .ok (.iload_n 2, 1) := by decide +kernel
theorem d_M_times_86 : decode b_M_times 86 = .ok (.iload 5, 2) := by decide +kernel
theorem d_M_times_88 : decode b_M_times 88 = .ok (.invokevirtual 40, 3) := by decide +kernel
theorem d_M_times_91 : decode b_M_times 91 = .ok (.i2l, 1) := by decide +kernel
theorem d_M_times_92 : decode b_M_times 92 = .ok (.aload_n 0, 1) := by decide +kernel
theorem d_M_times_93 : decode b_M_times 93 = .ok (.iload_n 3, 1) := by decide +kernel
theorem d_M_times_94 : decode b_M_times 94 = .ok (.iload 8, 2) := by decide +kernel
theorem d_M_times_96 : decode b_M_times 96 = .ok (.invokevirtual 40, 3) := by decide +kernel
theorem d_M_times_99 : decode b_M_times 99 = .ok (.i2l, 1) := by decide +kernel
theorem d_M_times_100 : decode b_M_times 100 = .ok (.lmul, 1) := by decide +kernel
theorem d_M_times_101 : decode b_M_times 101 = .ok (.ladd, 1) := by decide +kernel
theorem d_M_times_102 : decode b_M_times 102 = .ok (.lstore 6, 2) := by decide +kernel
theorem d_M_times_104 : decode b_M_times 104 = .ok (.aload_n 0, 1) := by decide +kernel
theorem d_M_times_105 : decode b_M_times 105 = .ok (.getfield 19, 3) := by decide +kernel
theorem d_M_times_108 : decode b_M_times 108 = .ok (.iload 5, 2) := by decide +kernel
theorem d_M_times_110 : decode b_M_times 110 = .ok (.iload 8, 2) := by decide +kernel
theorem d_M_times_112 : decode b_M_times 112 = .ok (.iadd, 1) := by decide +kernel
theorem d_M_times_113 : decode b_M_times 113 = .ok (.lload 6, 2) := by decide +kernel
theorem d_M_times_115 : decode b_M_times 115 = .ok (.ldc2_w 38, 3) := by decide +kernel
theorem d_M_times_118 : decode b_M_times 118 = .ok (.land, 1) := by decide +kernel
theorem d_M_times_119 : decode b_M_times 119 = .ok (.l2i, 1) := by decide +kernel
theorem d_M_times_120 : decode b_M_times 120 = .ok (.iastore, 1) := by decide +kernel
theorem d_M_times_121 : decode b_M_times 121 = .ok (.lload 6, 2) := by decide +kernel
theorem d_M_times_123 : decode b_M_times 123 = .ok (.bipush 16, 2) := by decide +kernel
theorem d_M_times_125 : decode b_M_times 125 = .ok (.lshr, 1) := by decide +kernel
theorem d_M_times_126 : decode b_M_times 126 = .ok (.lstore 6, 2) := by decide +kernel
theorem d_M_times_128 : decode b_M_times 128 = .ok (.iinc 8 1, 3) := by decide +kernel
theorem d_M_times_131 : decode b_M_times 131 = .ok (.goto (-72), 3) := by decide +kernel
theorem d_M_times_134 : decode b_M_times 134 = .ok (.aload_n 0, 1) := by decide +kernel
theorem d_M_times_135 : decode b_M_times 135 = .ok (.getfield 19, 3) := by decide +kernel
theorem d_M_times_138 : decode b_M_times 138 = .ok (.iload 5, 2) := by decide +kernel
theorem d_M_times_140 : decode b_M_times 140 = .ok (.aload_n 0, 1) := by decide +kernel
theorem d_M_times_141 : decode b_M_times 141 = .ok (.getfield 13, 3) := by decide +kernel
theorem d_M_times_144 : decode b_M_times 144 = .ok (.iload_n 3, 1) := by decide +kernel
theorem d_M_times_145 : decode b_M_times 145 = .ok (.iaload, 1) := by decide +kernel
theorem d_M_times_146 : decode b_M_times 146 = .ok (.iadd, 1) := by decide +kernel
theorem d_M_times_147 : decode b_M_times 147 = .ok (.lload 6, 2) := by decide +kernel
theorem d_M_times_149 : decode b_M_times 149 = .ok (.l2i, 1) := by decide +kernel
theorem d_M_times_150 : decode b_M_times 150 = .ok (.iastore, 1) := by decide +kernel
theorem d_M_times_151 : decode b_M_times 151 = .ok (.iinc 5 1, 3) := by decide +kernel
theorem d_M_times_154 : decode b_M_times 154 = .ok (.goto (-112), 3) := by decide +kernel
theorem d_M_times_157 : decode b_M_times 157 = .ok (.aload_n 0, 1) := by decide +kernel
theorem d_M_times_158 : decode b_M_times 158 = .ok (.iload_n 1, 1) := by decide +kernel
theorem d_M_times_159 : decode b_M_times 159 = .ok (.iload 4, 2) := by decide +kernel
theorem d_M_times_161 : decode b_M_times 161 = .ok (.aload_n 0, 1) := by decide +kernel
theorem d_M_times_162 : decode b_M_times 162 = .ok (.getfield 16, 3) := by decide +kernel
theorem d_M_times_165 : decode b_M_times 165 = .ok (.iload_n 2, 1) := by decide +kernel
theorem d_M_times_166 : decode b_M_times 166 = .ok (.iaload, 1) := by decide +kernel
theorem d_M_times_167 : decode b_M_times 167 = .ok (.aload_n 0, 1) := by decide +kernel
theorem d_M_times_168 : decode b_M_times 168 = .ok (.getfield 16, 3) := by decide +kernel
theorem d_M_times_171 : decode b_M_times 171 = .ok (.iload_n 3, 1) := by decide +kernel
theorem d_M_times_172 : decode b_M_times 172 = .ok (.iaload, 1) := by decide +kernel
theorem d_M_times_173 : decode b_M_times 173 = .ok (.imul, 1) := by decide +kernel
theorem d_M_times_174 : decode b_M_times 174 = .ok (.invokevirtual 45, 3) := by decide +kernel
theorem d_M_times_177 : decode b_M_times 177 = .ok (.return_, 1) := by decide +kernel
theorem d_M_scale_0 : decode b_M_scale 0 = .ok (.iload_n 3, 1) := by decide +kernel
theorem d_M_scale_1 : decode b_M_scale 1 = .ok (.ifCond .ge 9, 3) := by decide +kernel
theorem d_M_scale_4 : decode b_M_scale 4 = .ok (.iload_n 3, 1) := by decide +kernel
theorem d_M_scale_5 : decode b_M_scale 5 = .ok (.i2l, 1) := by decide +kernel
theorem d_M_scale_6 : decode b_M_scale 6 = .ok (.lneg, 1) := by decide +kernel
theorem d_M_scale_7 : decode b_M_scale 7 = .ok (.goto 5, 3) := by decide +kernel
theorem d_M_scale_10 : decode b_M_scale 10 = .ok (.iload_n 3, 1) := by decide +kernel
theorem d_M_scale_11 : decode b_M_scale 11 = .ok (.i2l, 1) := by decide +kernel
theorem d_M_scale_12 : decode b_M_scale 12 = .ok (.lstore 4, 2) := by decide +kernel
theorem d_M_scale_14 : decode b_M_scale 14 = .ok (.iload_n 3, 1) := by decide +kernel
theorem d_M_scale_15 : decode b_M_scale 15 = .ok (.ifCond .ge 13, 3) := by decide +kernel
theorem d_M_scale_18 : decode b_M_scale 18 = .ok (.aload_n 0, 1) := by decide +kernel
theorem d_M_scale_19 : decode b_M_scale 19 = .ok (.getfield 16, 3) := by decide +kernel
theorem d_M_scale_22 : decode b_M_scale 22 = .ok (.iload_n 2, 1) := by decide +kernel
theorem d_M_scale_23 : decode b_M_scale 23 = .ok (.iaload, 1) := by decide +kernel
theorem d_M_scale_24 : decode b_M_scale 24 = .ok (.ineg, 1) := by decide +kernel
theorem d_M_scale_25 : decode b_M_scale 25 = .ok (.goto 17, 3) := by decide +kernel
theorem d_M_scale_28 : decode b_M_scale 28 = .ok (.iload_n 3, 1) := by decide +kernel
theorem d_M_scale_29 : decode b_M_scale 29 = .ok (.ifCond .le 12, 3) := by decide +kernel
theorem d_M_scale_32 : decode b_M_scale 32 = .ok (.aload_n 0, 1) := by decide +kernel
theorem d_M_scale_33 : decode b_M_scale 33 = .ok (.getfield 16, 3) := by decide +kernel
theorem d_M_scale_36 : decode b_M_scale 36 = .ok (.iload_n 2, 1) := by decide +kernel
theorem d_M_scale_37 : decode b_M_scale 37 = .ok (.iaload, 1) := by decide +kernel
theorem d_M_scale_38 : decode b_M_scale 38 = .ok (.goto 4, 3) := by decide +kernel
theorem d_M_scale_41 : decode b_M_scale 41 = .ok (.iconst 0, 1) := by decide +kernel
theorem d_M_scale_42 : decode b_M_scale 42 = .ok (.istore 6, 2) := by decide +kernel
theorem d_M_scale_44 : decode b_M_scale 44 = .ok (.aload_n 0, 1) := by decide +kernel
theorem d_M_scale_45 : decode b_M_scale 45 = .ok (.getfield 13, 3) := by decide +kernel
theorem d_M_scale_48 : decode b_M_scale 48 = .ok (.iload_n 2, 1) := by decide +kernel
theorem d_M_scale_49 : decode b_M_scale 49 = .ok (.iaload, 1) := by decide +kernel
theorem d_M_scale_50 : decode b_M_scale 50 = .ok (.istore 7, 2) := by decide +kernel
theorem d_M_scale_52 : decode b_M_scale 52 = .ok (.lconst 0, 1) := by decide +kernel
theorem d_M_scale_53 : decode b_M_scale 53 = .ok (.lstore 8, 2) := by decide +kernel
theorem d_M_scale_55 : decode b_M_scale 55 = .ok (.iconst 0, 1) := by decide +kernel
theorem d_M_scale_56 : decode b_M_scale 56 = .ok (.istore 10, 2) := by decide +kernel
theorem d_M_scale_58 : decode b_M_scale 58 = .ok (.iload 10, 2) := by decide +kernel
theorem d_M_scale_60 : decode b_M_scale 60 = .ok (.iload 7, 2) := by decide +kernel
theorem d_M_scale_62 : decode b_M_scale 62 = .ok (.if_icmp .ge 46, 3) := by decide +kernel
theorem d_M_scale_65 : decode b_M_scale 65 = .ok (.lload 8, 2) := by decide +kernel
theorem d_M_scale_67 : decode b_M_scale 67 = .ok (.lload 4, 2) := by decide +kernel
theorem d_M_scale_69 : decode b_M_scale 69 = .ok (.aload_n 0, 1) := by decide +kernel
theorem d_M_scale_70 : decode b_M_scale 70 = .ok (.iload_n 2, 1) := by decide +kernel
theorem d_M_scale_71 : decode b_M_scale 71 = .ok (.iload 10, 2) := by decide +kernel
theorem d_M_scale_73 : decode b_M_scale 73 = .ok (.invokevirtual 40, 3) := by decide +kernel
theorem d_M_scale_76 : decode b_M_scale 76 = .ok (.i2l, 1) := by decide +kernel
theorem d_M_scale_77 : decode b_M_scale 77 = .ok (.lmul, 1) := by decide +kernel
theorem d_M_scale_78 : decode b_M_scale 78 = .ok (.ladd, 1) := by decide +kernel
theorem d_M_scale_79 : decode b_M_scale 79 = .ok (.lstore 8, 2) := by decide +kernel
theorem d_M_scale_81 : decode b_M_scale 81 = .ok (.aload_n 0, 1) := by decide +kernel
theorem d_M_scale_82 : decode b_M_scale 82 = .ok (.getfield 19, 3) := by decide +kernel
theorem d_M_scale_85 : decode b_M_scale 85 = .ok (.iload 10, 2) := by decide +kernel
theorem d_M_scale_87 : decode b_M_scale 87 = .ok (.lload 8, 2) := by decide +kernel
theorem d_M_scale_89 : decode b_M_scale 89 = .ok (.ldc2_w 38, 3) := by decide +kernel
theorem d_M_scale_92 : decode b_M_scale 92 = .ok (.land, 1) := by decide +kernel
theorem d_M_scale_93 : decode b_M_scale 93 = .ok (.l2i, 1) := by decide +kernel
theorem d_M_scale_94 : decode b_M_scale 94 = .ok (.iastore, 1) := by decide +kernel
theorem d_M_scale_95 : decode b_M_scale 95 = .ok (.lload 8, 2) := by decide +kernel
theorem d_M_scale_97 : decode b_M_scale 97 = .ok (.bipush 16, 2) := by decide +kernel
theorem d_M_scale_99 : decode b_M_scale 99 = .ok (.lshr, 1) := by decide +kernel
theorem d_M_scale_100 : decode b_M_scale 100 = .ok (.lstore 8, 2) := by decide +kernel
theorem d_M_scale_102 : decode b_M_scale 102 = .ok (.iinc 10 1, 3) := by decide +kernel
theorem d_M_scale_105 : decode b_M_scale 105 = .ok (.goto (-47), 3) := by decide +kernel
theorem d_M_scale_108 : decode b_M_scale 108 = .ok (.aload_n 0, 1) := by decide +kernel
theorem d_M_scale_109 : decode b_M_scale 109 = .ok (.getfield 19, 3) := by decide +kernel
theorem d_M_scale_112 : decode b_M_scale 112 = .ok (.iload 7, 2) := by decide +kernel
theorem d_M_scale_114 : decode b_M_scale 114 = .ok (.lload 8, 2) := by decide +kernel
theorem d_M_scale_116 : decode b_M_scale 116 = .ok (.ldc2_w 38, 3) := by decide +kernel
theorem d_M_scale_119 : decode b_M_scale 119 = .ok (.land, 1) := by decide +kernel
theorem d_M_scale_120 : decode b_M_scale 120 = .ok (.l2i, 1) := by decide +kernel
theorem d_M_scale_121 : decode b_M_scale 121 = .ok (.iastore, 1) := by decide +kernel
theorem d_M_scale_122 : decode b_M_scale 122 = .ok (.aload_n 0, 1) := by decide +kernel
theorem d_M_scale_123 : decode b_M_scale 123 = .ok (.getfield 19, 3) := by decide +kernel
theorem d_M_scale_126 : decode b_M_scale 126 = .ok (.iload 7, 2) := by decide +kernel
theorem d_M_scale_128 : decode b_M_scale 128 = .ok (.iconst 1, 1) := by decide +kernel
theorem d_M_scale_129 : decode b_M_scale 129 = .ok (.iadd, 1) := by decide +kernel
theorem d_M_scale_130 : decode b_M_scale 130 = .ok (.lload 8, 2) := by decide +kernel
theorem d_M_scale_132 : decode b_M_scale 132 = .ok (.bipush 16, 2) := by decide +kernel
theorem d_M_scale_134 : decode b_M_scale 134 = .ok (.lshr, 1) := by decide +kernel
theorem d_M_scale_135 : decode b_M_scale 135 = .ok (.l2i, 1) := by decide +kernel
theorem d_M_scale_136 : decode b_M_scale 136 = .ok (.iastore, 1) := by decide +kernel
theorem d_M_scale_137 : decode b_M_scale 137 = .ok (.aload_n 0, 1) := by decide +kernel
theorem d_M_scale_138 : decode b_M_scale 138 = .ok (.iload_n 1, 1) := by decide +kernel
theorem d_M_scale_139 : decode b_M_scale 139 = .ok (.iload 6, 2) := by decide +kernel
theorem d_M_scale_141 : decode b_M_scale 141 = .ok (.ifCond .ne 7, 3) := by decide +kernel
theorem d_M_scale_144 : decode b_M_scale 144 = .ok (.iconst 0, 1) := by decide +kernel
theorem d_M_scale_145 : decode b_M_scale 145 = .ok (.goto 7, 3) := by decide +kernel
theorem d_M_scale_148 : decode b_M_scale 148 = .ok (.iload 7, 2) := by decide +kernel
theorem d_M_scale_150 : decode b_M_scale 150 = .ok (.iconst 2, 1) := by decide +kernel
theorem d_M_scale_151 : decode b_M_scale 151 = .ok (.iadd, 1) := by decide +kernel
theorem d_M_scale_152 : decode b_M_scale 152 = .ok (.iload 6, 2) := by decide +kernel
theorem d_M_scale_154 : decode b_M_scale 154 = .ok (.invokevirtual 45, 3) := by decide +kernel
theorem d_M_scale_157 : decode b_M_scale 157 = .ok (.return_, 1) := by decide +kernel
theorem d_M_gain_0 : decode b_M_gain 0 = .ok (.aload_n 0, 1) := by decide +kernel
theorem d_M_gain_1 : decode b_M_gain 1 = .ok (.iload 4, 2) := by decide +kernel
theorem d_M_gain_3 : decode b_M_gain 3 = .ok (.iload_n 2, 1) := by decide +kernel
theorem d_M_gain_4 : decode b_M_gain 4 = .ok (.iload_n 3, 1) := by decide +kernel
theorem d_M_gain_5 : decode b_M_gain 5 = .ok (.invokevirtual 52, 3) := by decide +kernel
theorem d_M_gain_8 : decode b_M_gain 8 = .ok (.aload_n 0, 1) := by decide +kernel
theorem d_M_gain_9 : decode b_M_gain 9 = .ok (.iload_n 1, 1) := by decide +kernel
theorem d_M_gain_10 : decode b_M_gain 10 = .ok (.iload_n 1, 1) := by decide +kernel
theorem d_M_gain_11 : decode b_M_gain 11 = .ok (.iload 4, 2) := by decide +kernel
theorem d_M_gain_13 : decode b_M_gain 13 = .ok (.iconst 1, 1) := by decide +kernel
theorem d_M_gain_14 : decode b_M_gain 14 = .ok (.invokevirtual 55, 3) := by decide +kernel
theorem d_M_gain_17 : decode b_M_gain 17 = .ok (.return_, 1) := by decide +kernel
theorem d_M_join_0 : decode b_M_join 0 = .ok (.aload_n 0, 1) := by decide +kernel
theorem d_M_join_1 : decode b_M_join 1 = .ok (.iload 5, 2) := by decide +kernel
theorem d_M_join_3 : decode b_M_join 3 = .ok (.iload_n 2, 1) := by decide +kernel
theorem d_M_join_4 : decode b_M_join 4 = .ok (.iload_n 3, 1) := by decide +kernel
theorem d_M_join_5 : decode b_M_join 5 = .ok (.invokevirtual 59, 3) := by decide +kernel
theorem d_M_join_8 : decode b_M_join 8 = .ok (.aload_n 0, 1) := by decide +kernel
theorem d_M_join_9 : decode b_M_join 9 = .ok (.iload_n 1, 1) := by decide +kernel
theorem d_M_join_10 : decode b_M_join 10 = .ok (.iload_n 1, 1) := by decide +kernel
theorem d_M_join_11 : decode b_M_join 11 = .ok (.iload 5, 2) := by decide +kernel
theorem d_M_join_13 : decode b_M_join 13 = .ok (.iload 4, 2) := by decide +kernel
theorem d_M_join_15 : decode b_M_join 15 = .ok (.invokevirtual 55, 3) := by decide +kernel
theorem d_M_join_18 : decode b_M_join 18 = .ok (.return_, 1) := by decide +kernel
theorem d_M_takeOff_0 : decode b_M_takeOff 0 = .ok (.lconst 0, 1) := by decide +kernel
theorem d_M_takeOff_1 : decode b_M_takeOff 1 = .ok (.lstore 5, 2) := by decide +kernel
theorem d_M_takeOff_3 : decode b_M_takeOff 3 = .ok (.iconst 0, 1) := by decide +kernel
theorem d_M_takeOff_4 : decode b_M_takeOff 4 = .ok (.istore 7, 2) := by decide +kernel
theorem d_M_takeOff_6 : decode b_M_takeOff 6 = .ok (.iload 7, 2) := by decide +kernel
theorem d_M_takeOff_8 : decode b_M_takeOff 8 = .ok (.aload_n 0, 1) := by decide +kernel
theorem d_M_takeOff_9 : decode b_M_takeOff 9 = .ok (.getfield 13, 3) := by decide +kernel
theorem d_M_takeOff_12 : decode b_M_takeOff 12 = .ok (.iload_n 1, 1) := by decide +kernel
theorem d_M_takeOff_13 : decode b_M_takeOff 13 = .ok (.iaload, 1) := by decide +kernel
theorem d_M_takeOff_14 : decode b_M_takeOff 14 = .ok (.if_icmp .gt 58, 3) := by decide +kernel
theorem d_M_takeOff_17 : decode b_M_takeOff 17 = .ok (.aload_n 0, 1) := by decide +kernel
theorem d_M_takeOff_18 : decode b_M_takeOff 18 = .ok (.getfield 19, 3) := by decide +kernel
theorem d_M_takeOff_21 : decode b_M_takeOff 21 = .ok (.iload_n 2, 1) := by decide +kernel
theorem d_M_takeOff_22 : decode b_M_takeOff 22 = .ok (.iload 7, 2) := by decide +kernel
theorem d_M_takeOff_24 : decode b_M_takeOff 24 = .ok (.iadd, 1) := by decide +kernel
theorem d_M_takeOff_25 : decode b_M_takeOff 25 = .ok (.iaload, 1) := by decide +kernel
theorem d_M_takeOff_26 : decode b_M_takeOff 26 = .ok (.i2l, 1) := by decide +kernel
theorem d_M_takeOff_27 : decode b_M_takeOff 27 = .ok (.lload_n 3, 1) := by decide +kernel
theorem d_M_takeOff_28 : decode b_M_takeOff 28 = .ok (.aload_n 0, 1) := by decide +kernel
theorem d_M_takeOff_29 : decode b_M_takeOff 29 = .ok (.iload_n 1, 1) := by decide +kernel
theorem d_M_takeOff_30 : decode b_M_takeOff 30 = .ok (.iload 7, 2) := by decide +kernel
theorem d_M_takeOff_32 : decode b_M_takeOff 32 = .ok (.invokevirtual 40, 3) := by decide +kernel
theorem d_M_takeOff_35 : decode b_M_takeOff 35 = .ok (.i2l, 1) := by decide +kernel
theorem d_M_takeOff_36 : decode b_M_takeOff 36 = .ok (.lmul, 1) := by decide +kernel
theorem d_M_takeOff_37 : decode b_M_takeOff 37 = .ok (.lsub, 1) := by decide +kernel
theorem d_M_takeOff_38 : decode b_M_takeOff 38 = .ok (.lload 5, 2) := by decide +kernel
theorem d_M_takeOff_40 : decode b_M_takeOff 40 = .ok (.ladd, 1) := by decide +kernel
theorem d_M_takeOff_41 : decode b_M_takeOff 41 = .ok (.lstore 8, 2) := by decide +kernel
theorem d_M_takeOff_43 : decode b_M_takeOff 43 = .ok (.aload_n 0, 1) := by decide +kernel
theorem d_M_takeOff_44 : decode b_M_takeOff 44 = .ok (.getfield 19, 3) := by decide +kernel
theorem d_M_takeOff_47 : decode b_M_takeOff 47 = .ok (.iload_n 2, 1) := by decide +kernel
theorem d_M_takeOff_48 : decode b_M_takeOff 48 = .ok (.iload 7, 2) := by decide +kernel
theorem d_M_takeOff_50 : decode b_M_takeOff 50 = .ok (.iadd, 1) := by decide +kernel
theorem d_M_takeOff_51 : decode b_M_takeOff 51 = .ok (.lload 8, 2) := by decide +kernel
theorem d_M_takeOff_53 : decode b_M_takeOff 53 = .ok (.ldc2_w 38, 3) := by decide +kernel
theorem d_M_takeOff_56 : decode b_M_takeOff 56 = .ok (.land, 1) := by decide +kernel
theorem d_M_takeOff_57 : decode b_M_takeOff 57 = .ok (.l2i, 1) := by decide +kernel
theorem d_M_takeOff_58 : decode b_M_takeOff 58 = .ok (.iastore, 1) := by decide +kernel
theorem d_M_takeOff_59 : decode b_M_takeOff 59 = .ok (.lload 8, 2) := by decide +kernel
theorem d_M_takeOff_61 : decode b_M_takeOff 61 = .ok (.bipush 16, 2) := by decide +kernel
theorem d_M_takeOff_63 : decode b_M_takeOff 63 = .ok (.lshr, 1) := by decide +kernel
theorem d_M_takeOff_64 : decode b_M_takeOff 64 = .ok (.lstore 5, 2) := by decide +kernel
theorem d_M_takeOff_66 : decode b_M_takeOff 66 = .ok (.iinc 7 1, 3) := by decide +kernel
theorem d_M_takeOff_69 : decode b_M_takeOff 69 = .ok (.goto (-63), 3) := by decide +kernel
theorem d_M_takeOff_72 : decode b_M_takeOff 72 = .ok (.return_, 1) := by decide +kernel
theorem d_M_fits_0 : decode b_M_fits 0 = .ok (.aload_n 0, 1) := by decide +kernel
theorem d_M_fits_1 : decode b_M_fits 1 = .ok (.getfield 13, 3) := by decide +kernel
theorem d_M_fits_4 : decode b_M_fits 4 = .ok (.iload_n 1, 1) := by decide +kernel
theorem d_M_fits_5 : decode b_M_fits 5 = .ok (.iaload, 1) := by decide +kernel
theorem d_M_fits_6 : decode b_M_fits 6 = .ok (.istore_n 3, 1) := by decide +kernel
theorem d_M_fits_7 : decode b_M_fits 7 = .ok (.aload_n 0, 1) := by decide +kernel
theorem d_M_fits_8 : decode b_M_fits 8 = .ok (.getfield 19, 3) := by decide +kernel
theorem d_M_fits_11 : decode b_M_fits 11 = .ok (.iload_n 2, 1) := by decide +kernel
theorem d_M_fits_12 : decode b_M_fits 12 = .ok (.iload_n 3, 1) := by decide +kernel
theorem d_M_fits_13 : decode b_M_fits 13 = .ok (.iadd, 1) := by decide +kernel
theorem d_M_fits_14 : decode b_M_fits 14 = .ok (.iaload, 1) := by decide +kernel
theorem d_M_fits_15 : decode b_M_fits 15 = .ok (.ifCond .le 5, 3) := by decide +kernel
theorem d_M_fits_18 : decode b_M_fits 18 = .ok (.iconst 1, 1) := by decide +kernel
theorem d_M_fits_19 : decode b_M_fits 19 = .ok (.ireturn, 1) := by decide +kernel
theorem d_M_fits_20 : decode b_M_fits 20 = .ok (.iload_n 3, 1) := by decide +kernel
theorem d_M_fits_21 : decode b_M_fits 21 = .ok (.iconst 1, 1) := by decide +kernel
theorem d_M_fits_22 : decode b_M_fits 22 = .ok (.isub, 1) := by decide +kernel
theorem d_M_fits_23 : decode b_M_fits 23 = .ok (.istore 4, 2) := by decide +kernel
theorem d_M_fits_25 : decode b_M_fits 25 = .ok (.iload 4, 2) := by decide +kernel
theorem d_M_fits_27 : decode b_M_fits 27 = .ok (.ifCond .lt 44, 3) := by decide +kernel
theorem d_M_fits_30 : decode b_M_fits 30 = .ok (.aload_n 0, 1) := by decide +kernel
theorem d_M_fits_31 : decode b_M_fits 31 = .ok (.getfield 19, 3) := by decide +kernel
theorem d_M_fits_34 : decode b_M_fits 34 = .ok (.iload_n 2, 1) := by decide +kernel
theorem d_M_fits_35 : decode b_M_fits 35 = .ok (.iload 4, 2) := by decide +kernel
theorem d_M_fits_37 : decode b_M_fits 37 = .ok (.iadd, 1) := by decide +kernel
theorem d_M_fits_38 : decode b_M_fits 38 = .ok (.iaload, 1) := by decide +kernel
theorem d_M_fits_39 : decode b_M_fits 39 = .ok (.aload_n 0, 1) := by decide +kernel
theorem d_M_fits_40 : decode b_M_fits 40 = .ok (.iload_n 1, 1) := by decide +kernel
theorem d_M_fits_41 : decode b_M_fits 41 = .ok (.iload 4, 2) := by decide +kernel
theorem d_M_fits_43 : decode b_M_fits 43 = .ok (.invokevirtual 40, 3) := by decide +kernel
theorem d_M_fits_46 : decode b_M_fits 46 = .ok (.isub, 1) := by decide +kernel
theorem d_M_fits_47 : decode b_M_fits 47 = .ok (.istore 5, 2) := by decide +kernel
theorem d_M_fits_49 : decode b_M_fits 49 = .ok (.iload 5, 2) := by decide +kernel
theorem d_M_fits_51 : decode b_M_fits 51 = .ok (.ifCond .eq 14, 3) := by decide +kernel
theorem d_M_fits_54 : decode b_M_fits 54 = .ok (.iload 5, 2) := by decide +kernel
theorem d_M_fits_56 : decode b_M_fits 56 = .ok (.ifCond .le 7, 3) := by decide +kernel
theorem d_M_fits_59 : decode b_M_fits 59 = .ok (.iconst 1, 1) := by decide +kernel
theorem d_M_fits_60 : decode b_M_fits 60 = .ok (.goto 4, 3) := by decide +kernel
theorem d_M_fits_63 : decode b_M_fits 63 = .ok (.iconst 0, 1) := by decide +kernel
theorem d_M_fits_64 : decode b_M_fits 64 = .ok (.ireturn, 1) := by decide +kernel
theorem d_M_fits_65 : decode b_M_fits 65 = .ok (.iinc 4 (-1), 3) := by decide +kernel
theorem d_M_fits_68 : decode b_M_fits 68 = .ok (.goto (-43), 3) := by decide +kernel
theorem d_M_fits_71 : decode b_M_fits 71 = .ok (.iconst 1, 1) := by decide +kernel
theorem d_M_fits_72 : decode b_M_fits 72 = .ok (.ireturn, 1) := by decide +kernel
theorem d_M_split_0 : decode b_M_split 0 = .ok (.aload_n 0, 1) := by decide +kernel
theorem d_M_split_1 : decode b_M_split 1 = .ok (.getfield 13, 3) := by decide +kernel
theorem d_M_split_4 : decode b_M_split 4 = .ok (.iload_n 1, 1) := by decide +kernel
theorem d_M_split_5 : decode b_M_split 5 = .ok (.iaload, 1) := by decide +kernel
theorem d_M_split_6 : decode b_M_split 6 = .ok (.istore_n 3, 1) := by decide +kernel
theorem d_M_split_7 : decode b_M_split 7 = .ok (.aload_n 0, 1) := by decide +kernel
theorem d_M_split_8 : decode b_M_split 8 = .ok (.getfield 13, 3) := by decide +kernel
theorem d_M_split_11 : decode b_M_split 11 = .ok (.iload_n 2, 1) := by decide +kernel
theorem d_M_split_12 : decode b_M_split 12 = .ok (.iaload, 1) := by decide +kernel
theorem d_M_split_13 : decode b_M_split 13 = .ok (.istore 4, 2) := by decide +kernel
theorem d_M_split_15 : decode b_M_split 15 = .ok (.iconst 0, 1) := by decide +kernel
theorem d_M_split_16 : decode b_M_split 16 = .ok (.istore 5, 2) := by decide +kernel
theorem d_M_split_18 : decode b_M_split 18 = .ok (.iload 5, 2) := by decide +kernel
theorem d_M_split_20 : decode b_M_split 20 = .ok (.iload_n 3, 1) := by decide +kernel
theorem d_M_split_21 : decode b_M_split 21 = .ok (.iconst 3, 1) := by decide +kernel
theorem d_M_split_22 : decode b_M_split 22 = .ok (.iadd, 1) := by decide +kernel
theorem d_M_split_23 : decode b_M_split 23 = .ok (.if_icmp .ge 31, 3) := by decide +kernel
theorem d_M_split_26 : decode b_M_split 26 = .ok (.aload_n 0, 1) := by decide +kernel
theorem d_M_split_27 : decode b_M_split 27 = .ok (.getfield 19, 3) := by decide +kernel
theorem d_M_split_30 : decode b_M_split 30 = .ok (.iload 5, 2) := by decide +kernel
theorem d_M_split_32 : decode b_M_split 32 = .ok (.aload_n 0, 1) := by decide +kernel
theorem d_M_split_33 : decode b_M_split 33 = .ok (.iload_n 1, 1) := by decide +kernel
theorem d_M_split_34 : decode b_M_split 34 = .ok (.iload 5, 2) := by decide +kernel
theorem d_M_split_36 : decode b_M_split 36 = .ok (.invokevirtual 40, 3) := by decide +kernel
theorem d_M_split_39 : decode b_M_split 39 = .ok (.iastore, 1) := by decide +kernel
theorem d_M_split_40 : decode b_M_split 40 = .ok (.aload_n 0, 1) := by decide +kernel
theorem d_M_split_41 : decode b_M_split 41 = .ok (.getfield 22, 3) := by decide +kernel
theorem d_M_split_44 : decode b_M_split 44 = .ok (.iload 5, 2) := by decide +kernel
theorem d_M_split_46 : decode b_M_split 46 = .ok (.iconst 0, 1) := by decide +kernel
theorem d_M_split_47 : decode b_M_split 47 = .ok (.iastore, 1) := by decide +kernel
theorem d_M_split_48 : decode b_M_split 48 = .ok (.iinc 5 1, 3) := by decide +kernel
theorem d_M_split_51 : decode b_M_split 51 = .ok (.goto (-33), 3) := by decide +kernel
theorem d_M_split_54 : decode b_M_split 54 = .ok (.aload_n 0, 1) := by decide +kernel
theorem d_M_split_55 : decode b_M_split 55 = .ok (.iload_n 2, 1) := by decide +kernel
theorem d_M_split_56 : decode b_M_split 56 = .ok (.iload 4, 2) := by decide +kernel
theorem d_M_split_58 : decode b_M_split 58 = .ok (.iconst 1, 1) := by decide +kernel
theorem d_M_split_59 : decode b_M_split 59 = .ok (.isub, 1) := by decide +kernel
theorem d_M_split_60 : decode b_M_split 60 = .ok (.invokevirtual 40, 3) := by decide +kernel
theorem d_M_split_63 : decode b_M_split 63 = .ok (.i2l, 1) := by decide +kernel
theorem d_M_split_64 : decode b_M_split 64 = .ok (.ldc2_w 62, 3) := by decide +kernel
theorem d_M_split_67 : decode b_M_split 67 = .ok (.lmul, 1) := by decide +kernel
theorem d_M_split_68 : decode b_M_split 68 = .ok (.iload 4, 2) := by decide +kernel
theorem d_M_split_70 : decode b_M_split 70 = .ok (.iconst 1, 1) := by decide +kernel
theorem d_M_split_71 : decode b_M_split 71 = .ok (.if_icmp .le 15, 3) := by decide +kernel
theorem d_M_split_74 : decode b_M_split 74 = .ok (.aload_n 0, 1) := by decide +kernel
theorem d_M_split_75 : decode b_M_split 75 = .ok (.iload_n 2, 1) := by decide +kernel
theorem d_M_split_76 : decode b_M_split 76 = .ok (.iload 4, 2) := by decide +kernel
theorem d_M_split_78 : decode b_M_split 78 = .ok (.iconst 2, 1) := by decide +kernel
theorem d_M_split_79 : decode b_M_split 79 = .ok (.isub, 1) := by decide +kernel
theorem d_M_split_80 : decode b_M_split 80 = .ok (.invokevirtual 40, 3) := by decide +kernel
theorem d_M_split_83 : decode b_M_split 83 = .ok (.goto 4, 3) := by decide +kernel
theorem d_M_split_86 : decode b_M_split 86 = .ok (.iconst 0, 1) := by decide +kernel
theorem d_M_split_87 : decode b_M_split 87 = .ok (.i2l, 1) := by decide +kernel
theorem d_M_split_88 : decode b_M_split 88 = .ok (.ladd, 1) := by decide +kernel
theorem d_M_split_89 : decode b_M_split 89 = .ok (.lstore 5, 2) := by decide +kernel
theorem d_M_split_91 : decode b_M_split 91 = .ok (.iload_n 3, 1) := by decide +kernel
theorem d_M_split_92 : decode b_M_split 92 = .ok (.iload 4, 2) := by decide +kernel
theorem d_M_split_94 : decode b_M_split 94 = .ok (.isub, 1) := by decide +kernel
theorem d_M_split_95 : decode b_M_split 95 = .ok (.istore 7, 2) := by decide +kernel
theorem d_M_split_97 : decode b_M_split 97 = .ok (.iload 7, 2) := by decide +kernel
theorem d_M_split_99 : decode b_M_split 99 = .ok (.ifCond .lt 135, 3) := by decide +kernel
theorem d_M_split_102 : decode b_M_split 102 = .ok (.aload_n 0, 1) := by decide +kernel
theorem d_M_split_103 : decode b_M_split 103 = .ok (.iload_n 2, 1) := by decide +kernel
theorem d_M_split_104 : decode b_M_split 104 = .ok (.iload 7, 2) := by decide +kernel
theorem d_M_split_106 : decode b_M_split 106 = .ok (.invokevirtual 64, 3) := by decide +kernel
theorem d_M_split_109 : decode b_M_split 109 = .ok (.ifCond .eq 119, 3) := by decide +kernel
theorem d_M_split_112 : decode b_M_split 112 = .ok (.aload_n 0, 1) := by decide +kernel
theorem d_M_split_113 : decode b_M_split 113 = .ok (.getfield 19, 3) := by decide +kernel
theorem d_M_split_116 : decode b_M_split 116 = .ok (.iload 7, 2) := by decide +kernel
theorem d_M_split_118 : decode b_M_split 118 = .ok (.iload 4, 2) := by decide +kernel
theorem d_M_split_120 : decode b_M_split 120 = .ok (.iadd, 1) := by decide +kernel
theorem d_M_split_121 : decode b_M_split 121 = .ok (.iaload, 1) := by decide +kernel
theorem d_M_split_122 : decode b_M_split 122 = .ok (.i2l, 1) := by decide +kernel
theorem d_M_split_123 : decode b_M_split 123 = .ok (.ldc2_w 68, 3) := by decide +kernel
theorem d_M_split_126 : decode b_M_split 126 = .ok (.lmul, 1) := by decide +kernel
theorem d_M_split_127 : decode b_M_split 127 = .ok (.aload_n 0, 1) := by decide +kernel
theorem d_M_split_128 : decode b_M_split 128 = .ok (.getfield 19, 3) := by decide +kernel
theorem d_M_split_131 : decode b_M_split 131 = .ok (.iload 7, 2) := by decide +kernel
theorem d_M_split_133 : decode b_M_split 133 = .ok (.iload 4, 2) := by decide +kernel
theorem d_M_split_135 : decode b_M_split 135 = .ok (.iadd, 1) := by decide +kernel
theorem d_M_split_136 : decode b_M_split 136 = .ok (.iconst 1, 1) := by decide +kernel
theorem d_M_split_137 : decode b_M_split 137 = .ok (.isub, 1) := by decide +kernel
theorem d_M_split_138 : decode b_M_split 138 = .ok (.iaload, 1) := by decide +kernel
theorem d_M_split_139 : decode b_M_split 139 = .ok (.i2l, 1) := by decide +kernel
theorem d_M_split_140 : decode b_M_split 140 = .ok (.ldc2_w 62, 3) := by decide +kernel
theorem d_M_split_143 : decode b_M_split 143 = .ok (.lmul, 1) := by decide +kernel
theorem d_M_split_144 : decode b_M_split 144 = .ok (.ladd, 1) := by decide +kernel
theorem d_M_split_145 : decode b_M_split 145 = .ok (.iload 7, 2) := by decide +kernel
theorem d_M_split_147 : decode b_M_split 147 = .ok (.iload 4, 2) := by decide +kernel
theorem d_M_split_149 : decode b_M_split 149 = .ok (.iadd, 1) := by decide +kernel
theorem d_M_split_150 : decode b_M_split 150 = .ok (.iconst 1, 1) := by decide +kernel
theorem d_M_split_151 : decode b_M_split 151 = .ok (.if_icmp .le 18, 3) := by decide +kernel
theorem d_M_split_154 : decode b_M_split 154 = .ok (.aload_n 0, 1) := by decide +kernel
theorem d_M_split_155 : decode b_M_split 155 = .ok (.getfield 19, 3) := by decide +kernel
theorem d_M_split_158 : decode b_M_split 158 = .ok (.iload 7, 2) := by decide +kernel
theorem d_M_split_160 : decode b_M_split 160 = .ok (.iload 4, 2) := by decide +kernel
theorem d_M_split_162 : decode b_M_split 162 = .ok (.iadd, 1) := by decide +kernel
theorem d_M_split_163 : decode b_M_split 163 = .ok (.iconst 2, 1) := by decide +kernel
theorem d_M_split_164 : decode b_M_split 164 = .ok (.isub, 1) := by decide +kernel
theorem d_M_split_165 : decode b_M_split 165 = .ok (.iaload, 1) := by decide +kernel
theorem d_M_split_166 : decode b_M_split 166 = .ok (.goto 4, 3) := by decide +kernel
theorem d_M_split_169 : decode b_M_split 169 = .ok (.iconst 0, 1) := by decide +kernel
theorem d_M_split_170 : decode b_M_split 170 = .ok (.i2l, 1) := by decide +kernel
theorem d_M_split_171 : decode b_M_split 171 = .ok (.ladd, 1) := by decide +kernel
theorem d_M_split_172 : decode b_M_split 172 = .ok (.lstore 8, 2) := by decide +kernel
theorem d_M_split_174 : decode b_M_split 174 = .ok (.lload 8, 2) := by decide +kernel
theorem d_M_split_176 : decode b_M_split 176 = .ok (.lload 5, 2) := by decide +kernel
theorem d_M_split_178 : decode b_M_split 178 = .ok (.lconst 1, 1) := by decide +kernel
theorem d_M_split_179 : decode b_M_split 179 = .ok (.ladd, 1) := by decide +kernel
theorem d_M_split_180 : decode b_M_split 180 = .ok (.ldiv, 1) := by decide +kernel
theorem d_M_split_181 : decode b_M_split 181 = .ok (.lstore 10, 2) := by decide +kernel
theorem d_M_split_183 : decode b_M_split 183 = .ok (.lload 10, 2) := by decide +kernel
theorem d_M_split_185 : decode b_M_split 185 = .ok (.lconst 1, 1) := by decide +kernel
theorem d_M_split_186 : decode b_M_split 186 = .ok (.lcmp, 1) := by decide +kernel
theorem d_M_split_187 : decode b_M_split 187 = .ok (.ifCond .ge 7, 3) := by decide +kernel
theorem d_M_split_190 : decode b_M_split 190 = .ok (.lconst 1, 1) := by decide +kernel
theorem d_M_split_191 : decode b_M_split 191 = .ok (.goto 5, 3) := by decide +kernel
theorem d_M_split_194 : decode b_M_split 194 = .ok (.lload 10, 2) := by decide +kernel
theorem d_M_split_196 : decode b_M_split 196 = .ok (.lstore 10, 2) := by decide +kernel
theorem d_M_split_198 : decode b_M_split 198 = .ok (.aload_n 0, 1) := by decide +kernel
theorem d_M_split_199 : decode b_M_split 199 = .ok (.iload_n 2, 1) := by decide +kernel
theorem d_M_split_200 : decode b_M_split 200 = .ok (.iload 7, 2) := by decide +kernel
theorem d_M_split_202 : decode b_M_split 202 = .ok (.lload 10, 2) := by decide +kernel
theorem d_M_split_204 : decode b_M_split 204 = .ok (.invokevirtual 70, 3) := by decide +kernel
theorem d_M_split_207 : decode b_M_split 207 = .ok (.aload_n 0, 1) := by decide +kernel
theorem d_M_split_208 : decode b_M_split 208 = .ok (.getfield 22, 3) := by decide +kernel
theorem d_M_split_211 : decode b_M_split 211 = .ok (.iload 7, 2) := by decide +kernel
theorem d_M_split_213 : decode b_M_split 213 = .ok (.aload_n 0, 1) := by decide +kernel
theorem d_M_split_214 : decode b_M_split 214 = .ok (.getfield 22, 3) := by decide +kernel
theorem d_M_split_217 : decode b_M_split 217 = .ok (.iload 7, 2) := by decide +kernel
theorem d_M_split_219 : decode b_M_split 219 = .ok (.iaload, 1) := by decide +kernel
theorem d_M_split_220 : decode b_M_split 220 = .ok (.lload 10, 2) := by decide +kernel
theorem d_M_split_222 : decode b_M_split 222 = .ok (.l2i, 1) := by decide +kernel
theorem d_M_split_223 : decode b_M_split 223 = .ok (.iadd, 1) := by decide +kernel
theorem d_M_split_224 : decode b_M_split 224 = .ok (.iastore, 1) := by decide +kernel
theorem d_M_split_225 : decode b_M_split 225 = .ok (.goto (-123), 3) := by decide +kernel
theorem d_M_split_228 : decode b_M_split 228 = .ok (.iinc 7 (-1), 3) := by decide +kernel
theorem d_M_split_231 : decode b_M_split 231 = .ok (.goto (-134), 3) := by decide +kernel
theorem d_M_split_234 : decode b_M_split 234 = .ok (.return_, 1) := by decide +kernel
theorem d_M_remainder_0 : decode b_M_remainder 0 = .ok (.aload_n 0, 1) := by decide +kernel
theorem d_M_remainder_1 : decode b_M_remainder 1 = .ok (.iload_n 2, 1) := by decide +kernel
theorem d_M_remainder_2 : decode b_M_remainder 2 = .ok (.iload_n 3, 1) := by decide +kernel
theorem d_M_remainder_3 : decode b_M_remainder 3 = .ok (.invokevirtual 74, 3) := by decide +kernel
theorem d_M_remainder_6 : decode b_M_remainder 6 = .ok (.aload_n 0, 1) := by decide +kernel
theorem d_M_remainder_7 : decode b_M_remainder 7 = .ok (.iload_n 1, 1) := by decide +kernel
theorem d_M_remainder_8 : decode b_M_remainder 8 = .ok (.aload_n 0, 1) := by decide +kernel
theorem d_M_remainder_9 : decode b_M_remainder 9 = .ok (.getfield 13, 3) := by decide +kernel
theorem d_M_remainder_12 : decode b_M_remainder 12 = .ok (.iload_n 3, 1) := by decide +kernel
theorem d_M_remainder_13 : decode b_M_remainder 13 = .ok (.iaload, 1) := by decide +kernel
theorem d_M_remainder_14 : decode b_M_remainder 14 = .ok (.iconst 1, 1) := by decide +kernel
theorem d_M_remainder_15 : decode b_M_remainder 15 = .ok (.invokevirtual 45, 3) := by decide +kernel
theorem d_M_remainder_18 : decode b_M_remainder 18 = .ok (.return_, 1) := by decide +kernel
theorem d_M_part_0 : decode b_M_part 0 = .ok (.aload_n 0, 1) := by decide +kernel
theorem d_M_part_1 : decode b_M_part 1 = .ok (.iload_n 2, 1) := by decide +kernel
theorem d_M_part_2 : decode b_M_part 2 = .ok (.iload_n 3, 1) := by decide +kernel
theorem d_M_part_3 : decode b_M_part 3 = .ok (.invokevirtual 74, 3) := by decide +kernel
theorem d_M_part_6 : decode b_M_part 6 = .ok (.aload_n 0, 1) := by decide +kernel
theorem d_M_part_7 : decode b_M_part 7 = .ok (.getfield 13, 3) := by decide +kernel
theorem d_M_part_10 : decode b_M_part 10 = .ok (.iload_n 2, 1) := by decide +kernel
theorem d_M_part_11 : decode b_M_part 11 = .ok (.iaload, 1) := by decide +kernel
theorem d_M_part_12 : decode b_M_part 12 = .ok (.istore 4, 2) := by decide +kernel
theorem d_M_part_14 : decode b_M_part 14 = .ok (.aload_n 0, 1) := by decide +kernel
theorem d_M_part_15 : decode b_M_part 15 = .ok (.getfield 16, 3) := by decide +kernel
theorem d_M_part_18 : decode b_M_part 18 = .ok (.iload_n 2, 1) := by decide +kernel
theorem d_M_part_19 : decode b_M_part 19 = .ok (.iaload, 1) := by decide +kernel
theorem d_M_part_20 : decode b_M_part 20 = .ok (.aload_n 0, 1) := by decide +kernel
theorem d_M_part_21 : decode b_M_part 21 = .ok (.getfield 16, 3) := by decide +kernel
theorem d_M_part_24 : decode b_M_part 24 = .ok (.iload_n 3, 1) := by decide +kernel
theorem d_M_part_25 : decode b_M_part 25 = .ok (.iaload, 1) := by decide +kernel
theorem d_M_part_26 : decode b_M_part 26 = .ok (.imul, 1) := by decide +kernel
theorem d_M_part_27 : decode b_M_part 27 = .ok (.istore 5, 2) := by decide +kernel
theorem d_M_part_29 : decode b_M_part 29 = .ok (.iconst 0, 1) := by decide +kernel
theorem d_M_part_30 : decode b_M_part 30 = .ok (.istore 6, 2) := by decide +kernel
theorem d_M_part_32 : decode b_M_part 32 = .ok (.iload 6, 2) := by decide +kernel
theorem d_M_part_34 : decode b_M_part 34 = .ok (.iload 4, 2) := by decide +kernel
theorem d_M_part_36 : decode b_M_part 36 = .ok (.if_icmp .ge 23, 3) := by decide +kernel
theorem d_M_part_39 : decode b_M_part 39 = .ok (.aload_n 0, 1) := by decide +kernel
theorem d_M_part_40 : decode b_M_part 40 = .ok (.getfield 19, 3) := by decide +kernel
theorem d_M_part_43 : decode b_M_part 43 = .ok (.iload 6, 2) := by decide +kernel
theorem d_M_part_45 : decode b_M_part 45 = .ok (.aload_n 0, 1) := by decide +kernel
theorem d_M_part_46 : decode b_M_part 46 = .ok (.getfield 22, 3) := by decide +kernel
theorem d_M_part_49 : decode b_M_part 49 = .ok (.iload 6, 2) := by decide +kernel
theorem d_M_part_51 : decode b_M_part 51 = .ok (.iaload, 1) := by decide +kernel
theorem d_M_part_52 : decode b_M_part 52 = .ok (.iastore, 1) := by decide +kernel
theorem d_M_part_53 : decode b_M_part 53 = .ok (.iinc 6 1, 3) := by decide +kernel
theorem d_M_part_56 : decode b_M_part 56 = .ok (.goto (-24), 3) := by decide +kernel
theorem d_M_part_59 : decode b_M_part 59 = .ok (.aload_n 0, 1) := by decide +kernel
theorem d_M_part_60 : decode b_M_part 60 = .ok (.iload_n 1, 1) := by decide +kernel
theorem d_M_part_61 : decode b_M_part 61 = .ok (.iload 4, 2) := by decide +kernel
theorem d_M_part_63 : decode b_M_part 63 = .ok (.iload 5, 2) := by decide +kernel
theorem d_M_part_65 : decode b_M_part 65 = .ok (.invokevirtual 45, 3) := by decide +kernel
theorem d_M_part_68 : decode b_M_part 68 = .ok (.return_, 1) := by decide +kernel
theorem d_M_common_0 : decode b_M_common 0 = .ok (.aload_n 0, 1) := by decide +kernel
theorem d_M_common_1 : decode b_M_common 1 = .ok (.iload_n 3, 1) := by decide +kernel
theorem d_M_common_2 : decode b_M_common 2 = .ok (.iload_n 1, 1) := by decide +kernel
theorem d_M_common_3 : decode b_M_common 3 = .ok (.invokevirtual 78, 3) := by decide +kernel
theorem d_M_common_6 : decode b_M_common 6 = .ok (.aload_n 0, 1) := by decide +kernel
theorem d_M_common_7 : decode b_M_common 7 = .ok (.iload 4, 2) := by decide +kernel
theorem d_M_common_9 : decode b_M_common 9 = .ok (.iload_n 2, 1) := by decide +kernel
theorem d_M_common_10 : decode b_M_common 10 = .ok (.invokevirtual 78, 3) := by decide +kernel
theorem d_M_common_13 : decode b_M_common 13 = .ok (.aload_n 0, 1) := by decide +kernel
theorem d_M_common_14 : decode b_M_common 14 = .ok (.getfield 16, 3) := by decide +kernel
theorem d_M_common_17 : decode b_M_common 17 = .ok (.iload_n 3, 1) := by decide +kernel
theorem d_M_common_18 : decode b_M_common 18 = .ok (.aload_n 0, 1) := by decide +kernel
theorem d_M_common_19 : decode b_M_common 19 = .ok (.getfield 16, 3) := by decide +kernel
theorem d_M_common_22 : decode b_M_common 22 = .ok (.iload_n 3, 1) := by decide +kernel
theorem d_M_common_23 : decode b_M_common 23 = .ok (.iaload, 1) := by decide +kernel
theorem d_M_common_24 : decode b_M_common 24 = .ok (.aload_n 0, 1) := by decide +kernel
theorem d_M_common_25 : decode b_M_common 25 = .ok (.getfield 16, 3) := by decide +kernel
theorem d_M_common_28 : decode b_M_common 28 = .ok (.iload_n 3, 1) := by decide +kernel
theorem d_M_common_29 : decode b_M_common 29 = .ok (.iaload, 1) := by decide +kernel
theorem d_M_common_30 : decode b_M_common 30 = .ok (.imul, 1) := by decide +kernel
theorem d_M_common_31 : decode b_M_common 31 = .ok (.iastore, 1) := by decide +kernel
theorem d_M_common_32 : decode b_M_common 32 = .ok (.aload_n 0, 1) := by decide +kernel
theorem d_M_common_33 : decode b_M_common 33 = .ok (.getfield 16, 3) := by decide +kernel
theorem d_M_common_36 : decode b_M_common 36 = .ok (.iload 4, 2) := by decide +kernel
theorem d_M_common_38 : decode b_M_common 38 = .ok (.aload_n 0, 1) := by decide +kernel
theorem d_M_common_39 : decode b_M_common 39 = .ok (.getfield 16, 3) := by decide +kernel
theorem d_M_common_42 : decode b_M_common 42 = .ok (.iload 4, 2) := by decide +kernel
theorem d_M_common_44 : decode b_M_common 44 = .ok (.iaload, 1) := by decide +kernel
theorem d_M_common_45 : decode b_M_common 45 = .ok (.aload_n 0, 1) := by decide +kernel
theorem d_M_common_46 : decode b_M_common 46 = .ok (.getfield 16, 3) := by decide +kernel
theorem d_M_common_49 : decode b_M_common 49 = .ok (.iload 4, 2) := by decide +kernel
theorem d_M_common_51 : decode b_M_common 51 = .ok (.iaload, 1) := by decide +kernel
theorem d_M_common_52 : decode b_M_common 52 = .ok (.imul, 1) := by decide +kernel
theorem d_M_common_53 : decode b_M_common 53 = .ok (.iastore, 1) := by decide +kernel
theorem d_M_common_54 : decode b_M_common 54 = .ok (.aload_n 0, 1) := by decide +kernel
theorem d_M_common_55 : decode b_M_common 55 = .ok (.getfield 13, 3) := by decide +kernel
theorem d_M_common_58 : decode b_M_common 58 = .ok (.iload 4, 2) := by decide +kernel
theorem d_M_common_60 : decode b_M_common 60 = .ok (.iaload, 1) := by decide +kernel
theorem d_M_common_61 : decode b_M_common 61 = .ok (.ifCond .le 54, 3) := by decide +kernel
theorem d_M_common_64 : decode b_M_common 64 = .ok (.aload_n 0, 1) := by decide +kernel
theorem d_M_common_65 : decode b_M_common 65 = .ok (.iload_n 1, 1) := by decide +kernel
theorem d_M_common_66 : decode b_M_common 66 = .ok (.iload 4, 2) := by decide +kernel
theorem d_M_common_68 : decode b_M_common 68 = .ok (.invokevirtual 78, 3) := by decide +kernel
theorem d_M_common_71 : decode b_M_common 71 = .ok (.aload_n 0, 1) := by decide +kernel
theorem d_M_common_72 : decode b_M_common 72 = .ok (.getfield 13, 3) := by decide +kernel
theorem d_M_common_75 : decode b_M_common 75 = .ok (.iload_n 3, 1) := by decide +kernel
theorem d_M_common_76 : decode b_M_common 76 = .ok (.iaload, 1) := by decide +kernel
theorem d_M_common_77 : decode b_M_common 77 = .ok (.aload_n 0, 1) := by decide +kernel
theorem d_M_common_78 : decode b_M_common 78 = .ok (.getfield 13, 3) := by decide +kernel
theorem d_M_common_81 : decode b_M_common 81 = .ok (.iload 4, 2) := by decide +kernel
theorem d_M_common_83 : decode b_M_common 83 = .ok (.iaload, 1) := by decide +kernel
theorem d_M_common_84 : decode b_M_common 84 = .ok (.if_icmp .ge 13, 3) := by decide +kernel
theorem d_M_common_87 : decode b_M_common 87 = .ok (.aload_n 0, 1) := by decide +kernel
theorem d_M_common_88 : decode b_M_common 88 = .ok (.iload 4, 2) := by decide +kernel
theorem d_M_common_90 : decode b_M_common 90 = .ok (.iload_n 3, 1) := by decide +kernel
theorem d_M_common_91 : decode b_M_common 91 = .ok (.invokevirtual 78, 3) := by decide +kernel
theorem d_M_common_94 : decode b_M_common 94 = .ok (.goto 12, 3) := by decide +kernel
theorem d_M_common_97 : decode b_M_common 97 = .ok (.aload_n 0, 1) := by decide +kernel
theorem d_M_common_98 : decode b_M_common 98 = .ok (.iload 4, 2) := by decide +kernel
theorem d_M_common_100 : decode b_M_common 100 = .ok (.iload_n 3, 1) := by decide +kernel
theorem d_M_common_101 : decode b_M_common 101 = .ok (.iload 4, 2) := by decide +kernel
theorem d_M_common_103 : decode b_M_common 103 = .ok (.invokevirtual 81, 3) := by decide +kernel
theorem d_M_common_106 : decode b_M_common 106 = .ok (.aload_n 0, 1) := by decide +kernel
theorem d_M_common_107 : decode b_M_common 107 = .ok (.iload_n 3, 1) := by decide +kernel
theorem d_M_common_108 : decode b_M_common 108 = .ok (.iload_n 1, 1) := by decide +kernel
theorem d_M_common_109 : decode b_M_common 109 = .ok (.invokevirtual 78, 3) := by decide +kernel
theorem d_M_common_112 : decode b_M_common 112 = .ok (.goto (-58), 3) := by decide +kernel
theorem d_M_common_115 : decode b_M_common 115 = .ok (.aload_n 0, 1) := by decide +kernel
theorem d_M_common_116 : decode b_M_common 116 = .ok (.iload_n 1, 1) := by decide +kernel
theorem d_M_common_117 : decode b_M_common 117 = .ok (.iload_n 3, 1) := by decide +kernel
