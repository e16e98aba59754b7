/-! the printed decode rows -/
theorem dX5_init_0 : decode cX5_init 0 = .ok (.aload_n 0, 1) := by decide +kernel
theorem dX5_init_1 : decode cX5_init 1 = .ok (.invokespecial 3, 3) := by decide +kernel
theorem dX5_init_4 : decode cX5_init 4 = .ok (.aload_n 0, 1) := by decide +kernel
theorem dX5_init_5 : decode cX5_init 5 = .ok (.bipush 80, 2) := by decide +kernel
theorem dX5_init_7 : decode cX5_init 7 = .ok (.anewarray 11, 3) := by decide +kernel
theorem dX5_init_10 : decode cX5_init 10 = .ok (.putfield 13, 3) := by decide +kernel
theorem dX5_init_13 : decode cX5_init 13 = .ok (.aload_n 0, 1) := by decide +kernel
theorem dX5_init_14 : decode cX5_init 14 = .ok (.bipush 7, 2) := by decide +kernel
theorem dX5_init_16 : decode cX5_init 16 = .ok (.bipush 80, 2) := by decide +kernel
theorem dX5_init_18 : decode cX5_init 18 = .ok (.multianewarray 17 2, 4) := by decide +kernel
theorem dX5_init_22 : decode cX5_init 22 = .ok (.putfield 19, 3) := by decide +kernel
theorem dX5_init_25 : decode cX5_init 25 = .ok (.aload_n 0, 1) := by decide +kernel
theorem dX5_init_26 : decode cX5_init 26 = .ok (.bipush 7, 2) := by decide +kernel
theorem dX5_init_28 : decode cX5_init 28 = .ok (.newarray .int, 2) := by decide +kernel
theorem dX5_init_30 : decode cX5_init 30 = .ok (.putfield 22, 3) := by decide +kernel
theorem dX5_init_33 : decode cX5_init 33 = .ok (.aload_n 0, 1) := by decide +kernel
theorem dX5_init_34 : decode cX5_init 34 = .ok (.bipush 20, 2) := by decide +kernel
theorem dX5_init_36 : decode cX5_init 36 = .ok (.newarray .int, 2) := by decide +kernel
theorem dX5_init_38 : decode cX5_init 38 = .ok (.putfield 26, 3) := by decide +kernel
theorem dX5_init_41 : decode cX5_init 41 = .ok (.return_, 1) := by decide +kernel
theorem dX5_has_0 : decode cX5_has 0 = .ok (.iload_n 1, 1) := by decide +kernel
theorem dX5_has_1 : decode cX5_has 1 = .ok (.ifCond .lt 15, 3) := by decide +kernel
theorem dX5_has_4 : decode cX5_has 4 = .ok (.iload_n 1, 1) := by decide +kernel
theorem dX5_has_5 : decode cX5_has 5 = .ok (.aload_n 0, 1) := by decide +kernel
theorem dX5_has_6 : decode cX5_has 6 = .ok (.getfield 29, 3) := by decide +kernel
theorem dX5_has_9 : decode cX5_has 9 = .ok (.if_icmp .ge 7, 3) := by decide +kernel
theorem dX5_has_12 : decode cX5_has 12 = .ok (.iconst 1, 1) := by decide +kernel
theorem dX5_has_13 : decode cX5_has 13 = .ok (.goto 4, 3) := by decide +kernel
theorem dX5_has_16 : decode cX5_has 16 = .ok (.iconst 0, 1) := by decide +kernel
theorem dX5_has_17 : decode cX5_has 17 = .ok (.ireturn, 1) := by decide +kernel
theorem dX5_isFull_0 : decode cX5_isFull 0 = .ok (.aload_n 0, 1) := by decide +kernel
theorem dX5_isFull_1 : decode cX5_isFull 1 = .ok (.getfield 29, 3) := by decide +kernel
theorem dX5_isFull_4 : decode cX5_isFull 4 = .ok (.bipush 80, 2) := by decide +kernel
theorem dX5_isFull_6 : decode cX5_isFull 6 = .ok (.if_icmp .lt 7, 3) := by decide +kernel
theorem dX5_isFull_9 : decode cX5_isFull 9 = .ok (.iconst 1, 1) := by decide +kernel
theorem dX5_isFull_10 : decode cX5_isFull 10 = .ok (.goto 4, 3) := by decide +kernel
theorem dX5_isFull_13 : decode cX5_isFull 13 = .ok (.iconst 0, 1) := by decide +kernel
theorem dX5_isFull_14 : decode cX5_isFull 14 = .ok (.ireturn, 1) := by decide +kernel
theorem dX5_at_0 : decode cX5_at 0 = .ok (.aload_n 0, 1) := by decide +kernel
theorem dX5_at_1 : decode cX5_at 1 = .ok (.getfield 13, 3) := by decide +kernel
theorem dX5_at_4 : decode cX5_at 4 = .ok (.iload_n 1, 1) := by decide +kernel
theorem dX5_at_5 : decode cX5_at 5 = .ok (.aaload, 1) := by decide +kernel
theorem dX5_at_6 : decode cX5_at 6 = .ok (.areturn, 1) := by decide +kernel
theorem dX5_add_0 : decode cX5_add 0 = .ok (.aload_n 0, 1) := by decide +kernel
theorem dX5_add_1 : decode cX5_add 1 = .ok (.getfield 13, 3) := by decide +kernel
theorem dX5_add_4 : decode cX5_add 4 = .ok (.aload_n 0, 1) := by decide +kernel
theorem dX5_add_5 : decode cX5_add 5 = .ok (.getfield 29, 3) := by decide +kernel
theorem dX5_add_8 : decode cX5_add 8 = .ok (.aload_n 1, 1) := by decide +kernel
theorem dX5_add_9 : decode cX5_add 9 = .ok (.aastore, 1) := by decide +kernel
theorem dX5_add_10 : decode cX5_add 10 = .ok (.aload_n 0, 1) := by decide +kernel
theorem dX5_add_11 : decode cX5_add 11 = .ok (.dup, 1) := by decide +kernel
theorem dX5_add_12 : decode cX5_add 12 = .ok (.getfield 29, 3) := by decide +kernel
theorem dX5_add_15 : decode cX5_add 15 = .ok (.iconst 1, 1) := by decide +kernel
theorem dX5_add_16 : decode cX5_add 16 = .ok (.iadd, 1) := by decide +kernel
theorem dX5_add_17 : decode cX5_add 17 = .ok (.putfield 29, 3) := by decide +kernel
theorem dX5_add_20 : decode cX5_add 20 = .ok (.aload_n 0, 1) := by decide +kernel
theorem dX5_add_21 : decode cX5_add 21 = .ok (.getfield 29, 3) := by decide +kernel
theorem dX5_add_24 : decode cX5_add 24 = .ok (.iconst 1, 1) := by decide +kernel
theorem dX5_add_25 : decode cX5_add 25 = .ok (.isub, 1) := by decide +kernel
theorem dX5_add_26 : decode cX5_add 26 = .ok (.ireturn, 1) := by decide +kernel
theorem dX5_gather_0 : decode cX5_gather 0 = .ok (.aload_n 0, 1) := by decide +kernel
theorem dX5_gather_1 : decode cX5_gather 1 = .ok (.getfield 22, 3) := by decide +kernel
theorem dX5_gather_4 : decode cX5_gather 4 = .ok (.iconst 0, 1) := by decide +kernel
theorem dX5_gather_5 : decode cX5_gather 5 = .ok (.invokestatic 33, 3) := by decide +kernel
theorem dX5_gather_8 : decode cX5_gather 8 = .ok (.iconst 0, 1) := by decide +kernel
theorem dX5_gather_9 : decode cX5_gather 9 = .ok (.istore_n 3, 1) := by decide +kernel
theorem dX5_gather_10 : decode cX5_gather 10 = .ok (.iload_n 3, 1) := by decide +kernel
theorem dX5_gather_11 : decode cX5_gather 11 = .ok (.aload_n 0, 1) := by decide +kernel
theorem dX5_gather_12 : decode cX5_gather 12 = .ok (.getfield 29, 3) := by decide +kernel
theorem dX5_gather_15 : decode cX5_gather 15 = .ok (.if_icmp .ge 61, 3) := by decide +kernel
theorem dX5_gather_18 : decode cX5_gather 18 = .ok (.aload_n 0, 1) := by decide +kernel
theorem dX5_gather_19 : decode cX5_gather 19 = .ok (.getfield 13, 3) := by decide +kernel
theorem dX5_gather_22 : decode cX5_gather 22 = .ok (.iload_n 3, 1) := by decide +kernel
theorem dX5_gather_23 : decode cX5_gather 23 = .ok (.aaload, 1) := by decide +kernel
theorem dX5_gather_24 : decode cX5_gather 24 = .ok (.iload_n 1, 1) := by decide +kernel
theorem dX5_gather_25 : decode cX5_gather 25 = .ok (.iload_n 2, 1) := by decide +kernel
theorem dX5_gather_26 : decode cX5_gather 26 = .ok (.invokevirtual 39, 3) := by decide +kernel
theorem dX5_gather_29 : decode cX5_gather 29 = .ok (.ifCond .eq 41, 3) := by decide +kernel
theorem dX5_gather_32 : decode cX5_gather 32 = .ok (.aload_n 0, 1) := by decide +kernel
theorem dX5_gather_33 : decode cX5_gather 33 = .ok (.getfield 13, 3) := by decide +kernel
theorem dX5_gather_36 : decode cX5_gather 36 = .ok (.iload_n 3, 1) := by decide +kernel
theorem dX5_gather_37 : decode cX5_gather 37 = .ok (.aaload, 1) := by decide +kernel
theorem dX5_gather_38 : decode cX5_gather 38 = .ok (.invokevirtual 43, 3) := by decide +kernel
theorem dX5_gather_41 : decode cX5_gather 41 = .ok (.istore 4, 2) := by decide +kernel
theorem dX5_gather_43 : decode cX5_gather 43 = .ok (.aload_n 0, 1) := by decide +kernel
theorem dX5_gather_44 : decode cX5_gather 44 = .ok (.getfield 19, 3) := by decide +kernel
theorem dX5_gather_47 : decode cX5_gather 47 = .ok (.iload 4, 2) := by decide +kernel
theorem dX5_gather_49 : decode cX5_gather 49 = .ok (.aaload, 1) := by decide +kernel
theorem dX5_gather_50 : decode cX5_gather 50 = .ok (.aload_n 0, 1) := by decide +kernel
theorem dX5_gather_51 : decode cX5_gather 51 = .ok (.getfield 22, 3) := by decide +kernel
theorem dX5_gather_54 : decode cX5_gather 54 = .ok (.iload 4, 2) := by decide +kernel
theorem dX5_gather_56 : decode cX5_gather 56 = .ok (.iaload, 1) := by decide +kernel
theorem dX5_gather_57 : decode cX5_gather 57 = .ok (.iload_n 3, 1) := by decide +kernel
theorem dX5_gather_58 : decode cX5_gather 58 = .ok (.iastore, 1) := by decide +kernel
theorem dX5_gather_59 : decode cX5_gather 59 = .ok (.aload_n 0, 1) := by decide +kernel
theorem dX5_gather_60 : decode cX5_gather 60 = .ok (.getfield 22, 3) := by decide +kernel
theorem dX5_gather_63 : decode cX5_gather 63 = .ok (.iload 4, 2) := by decide +kernel
theorem dX5_gather_65 : decode cX5_gather 65 = .ok (.dup2, 1) := by decide +kernel
theorem dX5_gather_66 : decode cX5_gather 66 = .ok (.iaload, 1) := by decide +kernel
theorem dX5_gather_67 : decode cX5_gather 67 = .ok (.iconst 1, 1) := by decide +kernel
theorem dX5_gather_68 : decode cX5_gather 68 = .ok (.iadd, 1) := by decide +kernel
theorem dX5_gather_69 : decode cX5_gather 69 = .ok (.iastore, 1) := by decide +kernel
theorem dX5_gather_70 : decode cX5_gather 70 = .ok (.iinc 3 1, 3) := by decide +kernel
theorem dX5_gather_73 : decode cX5_gather 73 = .ok (.goto (-63), 3) := by decide +kernel
theorem dX5_gather_76 : decode cX5_gather 76 = .ok (.return_, 1) := by decide +kernel
theorem dX5_topWithout_0 : decode cX5_topWithout 0 = .ok (.iconst 0, 1) := by decide +kernel
theorem dX5_topWithout_1 : decode cX5_topWithout 1 = .ok (.istore 4, 2) := by decide +kernel
theorem dX5_topWithout_3 : decode cX5_topWithout 3 = .ok (.aload_n 0, 1) := by decide +kernel
theorem dX5_topWithout_4 : decode cX5_topWithout 4 = .ok (.getfield 19, 3) := by decide +kernel
theorem dX5_topWithout_7 : decode cX5_topWithout 7 = .ok (.iload_n 2, 1) := by decide +kernel
theorem dX5_topWithout_8 : decode cX5_topWithout 8 = .ok (.aaload, 1) := by decide +kernel
theorem dX5_topWithout_9 : decode cX5_topWithout 9 = .ok (.astore 5, 2) := by decide +kernel
theorem dX5_topWithout_11 : decode cX5_topWithout 11 = .ok (.iconst 0, 1) := by decide +kernel
theorem dX5_topWithout_12 : decode cX5_topWithout 12 = .ok (.istore 6, 2) := by decide +kernel
theorem dX5_topWithout_14 : decode cX5_topWithout 14 = .ok (.iload 6, 2) := by decide +kernel
theorem dX5_topWithout_16 : decode cX5_topWithout 16 = .ok (.aload_n 0, 1) := by decide +kernel
theorem dX5_topWithout_17 : decode cX5_topWithout 17 = .ok (.getfield 22, 3) := by decide +kernel
theorem dX5_topWithout_20 : decode cX5_topWithout 20 = .ok (.iload_n 2, 1) := by decide +kernel
theorem dX5_topWithout_21 : decode cX5_topWithout 21 = .ok (.iaload, 1) := by decide +kernel
theorem dX5_topWithout_22 : decode cX5_topWithout 22 = .ok (.if_icmp .ge 48, 3) := by decide +kernel
theorem dX5_topWithout_25 : decode cX5_topWithout 25 = .ok (.aload 5, 2) := by decide +kernel
theorem dX5_topWithout_27 : decode cX5_topWithout 27 = .ok (.iload 6, 2) := by decide +kernel
theorem dX5_topWithout_29 : decode cX5_topWithout 29 = .ok (.iaload, 1) := by decide +kernel
theorem dX5_topWithout_30 : decode cX5_topWithout 30 = .ok (.iload_n 1, 1) := by decide +kernel
theorem dX5_topWithout_31 : decode cX5_topWithout 31 = .ok (.if_icmp .eq 33, 3) := by decide +kernel
theorem dX5_topWithout_34 : decode cX5_topWithout 34 = .ok (.aload_n 0, 1) := by decide +kernel
theorem dX5_topWithout_35 : decode cX5_topWithout 35 = .ok (.getfield 13, 3) := by decide +kernel
theorem dX5_topWithout_38 : decode cX5_topWithout 38 = .ok (.aload 5, 2) := by decide +kernel
theorem dX5_topWithout_40 : decode cX5_topWithout 40 = .ok (.iload 6, 2) := by decide +kernel
theorem dX5_topWithout_42 : decode cX5_topWithout 42 = .ok (.iaload, 1) := by decide +kernel
theorem dX5_topWithout_43 : decode cX5_topWithout 43 = .ok (.aaload, 1) := by decide +kernel
theorem dX5_topWithout_44 : decode cX5_topWithout 44 = .ok (.astore 7, 2) := by decide +kernel
theorem dX5_topWithout_46 : decode cX5_topWithout 46 = .ok (.aload 7, 2) := by decide +kernel
theorem dX5_topWithout_48 : decode cX5_topWithout 48 = .ok (.getfield 47, 3) := by decide +kernel
theorem dX5_topWithout_51 : decode cX5_topWithout 51 = .ok (.iload 4, 2) := by decide +kernel
theorem dX5_topWithout_53 : decode cX5_topWithout 53 = .ok (.aload 7, 2) := by decide +kernel
theorem dX5_topWithout_55 : decode cX5_topWithout 55 = .ok (.getfield 51, 3) := by decide +kernel
theorem dX5_topWithout_58 : decode cX5_topWithout 58 = .ok (.iload_n 3, 1) := by decide +kernel
theorem dX5_topWithout_59 : decode cX5_topWithout 59 = .ok (.invokevirtual 54, 3) := by decide +kernel
theorem dX5_topWithout_62 : decode cX5_topWithout 62 = .ok (.istore 4, 2) := by decide +kernel
theorem dX5_topWithout_64 : decode cX5_topWithout 64 = .ok (.iinc 6 1, 3) := by decide +kernel
theorem dX5_topWithout_67 : decode cX5_topWithout 67 = .ok (.goto (-53), 3) := by decide +kernel
theorem dX5_topWithout_70 : decode cX5_topWithout 70 = .ok (.iload 4, 2) := by decide +kernel
theorem dX5_topWithout_72 : decode cX5_topWithout 72 = .ok (.ireturn, 1) := by decide +kernel
theorem dX5_top_0 : decode cX5_top 0 = .ok (.aload_n 0, 1) := by decide +kernel
theorem dX5_top_1 : decode cX5_top 1 = .ok (.iconst (-1), 1) := by decide +kernel
theorem dX5_top_2 : decode cX5_top 2 = .ok (.iload_n 1, 1) := by decide +kernel
theorem dX5_top_3 : decode cX5_top 3 = .ok (.iload_n 2, 1) := by decide +kernel
theorem dX5_top_4 : decode cX5_top 4 = .ok (.invokevirtual 60, 3) := by decide +kernel
theorem dX5_top_7 : decode cX5_top 7 = .ok (.ireturn, 1) := by decide +kernel
theorem dX5_answerOf_0 : decode cX5_answerOf 0 = .ok (.aload_n 0, 1) := by decide +kernel
theorem dX5_answerOf_1 : decode cX5_answerOf 1 = .ok (.iload_n 3, 1) := by decide +kernel
theorem dX5_answerOf_2 : decode cX5_answerOf 2 = .ok (.iload 4, 2) := by decide +kernel
theorem dX5_answerOf_4 : decode cX5_answerOf 4 = .ok (.invokevirtual 63, 3) := by decide +kernel
theorem dX5_answerOf_7 : decode cX5_answerOf 7 = .ok (.aload_n 0, 1) := by decide +kernel
theorem dX5_answerOf_8 : decode cX5_answerOf 8 = .ok (.iconst (-1), 1) := by decide +kernel
theorem dX5_answerOf_9 : decode cX5_answerOf 9 = .ok (.iload_n 1, 1) := by decide +kernel
theorem dX5_answerOf_10 : decode cX5_answerOf 10 = .ok (.iload_n 2, 1) := by decide +kernel
theorem dX5_answerOf_11 : decode cX5_answerOf 11 = .ok (.invokevirtual 60, 3) := by decide +kernel
theorem dX5_answerOf_14 : decode cX5_answerOf 14 = .ok (.invokestatic 67, 3) := by decide +kernel
theorem dX5_answerOf_17 : decode cX5_answerOf 17 = .ok (.ireturn, 1) := by decide +kernel
theorem dX5_giver_0 : decode cX5_giver 0 = .ok (.aload_n 0, 1) := by decide +kernel
theorem dX5_giver_1 : decode cX5_giver 1 = .ok (.iload_n 3, 1) := by decide +kernel
theorem dX5_giver_2 : decode cX5_giver 2 = .ok (.iload 4, 2) := by decide +kernel
theorem dX5_giver_4 : decode cX5_giver 4 = .ok (.invokevirtual 63, 3) := by decide +kernel
theorem dX5_giver_7 : decode cX5_giver 7 = .ok (.aload_n 0, 1) := by decide +kernel
theorem dX5_giver_8 : decode cX5_giver 8 = .ok (.iload_n 1, 1) := by decide +kernel
theorem dX5_giver_9 : decode cX5_giver 9 = .ok (.iload_n 2, 1) := by decide +kernel
theorem dX5_giver_10 : decode cX5_giver 10 = .ok (.invokevirtual 71, 3) := by decide +kernel
theorem dX5_giver_13 : decode cX5_giver 13 = .ok (.invokestatic 75, 3) := by decide +kernel
theorem dX5_giver_16 : decode cX5_giver 16 = .ok (.istore 6, 2) := by decide +kernel
theorem dX5_giver_18 : decode cX5_giver 18 = .ok (.iconst 0, 1) := by decide +kernel
theorem dX5_giver_19 : decode cX5_giver 19 = .ok (.istore 7, 2) := by decide +kernel
theorem dX5_giver_21 : decode cX5_giver 21 = .ok (.iconst 0, 1) := by decide +kernel
theorem dX5_giver_22 : decode cX5_giver 22 = .ok (.istore 8, 2) := by decide +kernel
theorem dX5_giver_24 : decode cX5_giver 24 = .ok (.iload 8, 2) := by decide +kernel
theorem dX5_giver_26 : decode cX5_giver 26 = .ok (.aload_n 0, 1) := by decide +kernel
theorem dX5_giver_27 : decode cX5_giver 27 = .ok (.getfield 22, 3) := by decide +kernel
theorem dX5_giver_30 : decode cX5_giver 30 = .ok (.iload_n 1, 1) := by decide +kernel
theorem dX5_giver_31 : decode cX5_giver 31 = .ok (.iaload, 1) := by decide +kernel
theorem dX5_giver_32 : decode cX5_giver 32 = .ok (.if_icmp .ge 68, 3) := by decide +kernel
theorem dX5_giver_35 : decode cX5_giver 35 = .ok (.aload_n 0, 1) := by decide +kernel
theorem dX5_giver_36 : decode cX5_giver 36 = .ok (.getfield 19, 3) := by decide +kernel
theorem dX5_giver_39 : decode cX5_giver 39 = .ok (.iload_n 1, 1) := by decide +kernel
theorem dX5_giver_40 : decode cX5_giver 40 = .ok (.aaload, 1) := by decide +kernel
theorem dX5_giver_41 : decode cX5_giver 41 = .ok (.iload 8, 2) := by decide +kernel
theorem dX5_giver_43 : decode cX5_giver 43 = .ok (.iaload, 1) := by decide +kernel
theorem dX5_giver_44 : decode cX5_giver 44 = .ok (.istore 9, 2) := by decide +kernel
theorem dX5_giver_46 : decode cX5_giver 46 = .ok (.aload_n 0, 1) := by decide +kernel
theorem dX5_giver_47 : decode cX5_giver 47 = .ok (.getfield 13, 3) := by decide +kernel
theorem dX5_giver_50 : decode cX5_giver 50 = .ok (.iload 9, 2) := by decide +kernel
theorem dX5_giver_52 : decode cX5_giver 52 = .ok (.aaload, 1) := by decide +kernel
theorem dX5_giver_53 : decode cX5_giver 53 = .ok (.getfield 51, 3) := by decide +kernel
theorem dX5_giver_56 : decode cX5_giver 56 = .ok (.iload 6, 2) := by decide +kernel
theorem dX5_giver_58 : decode cX5_giver 58 = .ok (.if_icmp .ne 36, 3) := by decide +kernel
theorem dX5_giver_61 : decode cX5_giver 61 = .ok (.aload_n 0, 1) := by decide +kernel
theorem dX5_giver_62 : decode cX5_giver 62 = .ok (.getfield 13, 3) := by decide +kernel
theorem dX5_giver_65 : decode cX5_giver 65 = .ok (.iload 9, 2) := by decide +kernel
theorem dX5_giver_67 : decode cX5_giver 67 = .ok (.aaload, 1) := by decide +kernel
theorem dX5_giver_68 : decode cX5_giver 68 = .ok (.getfield 47, 3) := by decide +kernel
theorem dX5_giver_71 : decode cX5_giver 71 = .ok (.getfield 78, 3) := by decide +kernel
theorem dX5_giver_74 : decode cX5_giver 74 = .ok (.iload_n 2, 1) := by decide +kernel
theorem dX5_giver_75 : decode cX5_giver 75 = .ok (.invokevirtual 82, 3) := by decide +kernel
theorem dX5_giver_78 : decode cX5_giver 78 = .ok (.ifCond .eq 16, 3) := by decide +kernel
theorem dX5_giver_81 : decode cX5_giver 81 = .ok (.iload 7, 2) := by decide +kernel
theorem dX5_giver_83 : decode cX5_giver 83 = .ok (.iload 5, 2) := by decide +kernel
theorem dX5_giver_85 : decode cX5_giver 85 = .ok (.if_icmp .ne 6, 3) := by decide +kernel
theorem dX5_giver_88 : decode cX5_giver 88 = .ok (.iload 9, 2) := by decide +kernel
theorem dX5_giver_90 : decode cX5_giver 90 = .ok (.ireturn, 1) := by decide +kernel
theorem dX5_giver_91 : decode cX5_giver 91 = .ok (.iinc 7 1, 3) := by decide +kernel
theorem dX5_giver_94 : decode cX5_giver 94 = .ok (.iinc 8 1, 3) := by decide +kernel
theorem dX5_giver_97 : decode cX5_giver 97 = .ok (.goto (-73), 3) := by decide +kernel
theorem dX5_giver_100 : decode cX5_giver 100 = .ok (.iconst (-1), 1) := by decide +kernel
theorem dX5_giver_101 : decode cX5_giver 101 = .ok (.ireturn, 1) := by decide +kernel
theorem dX5_findUnlike_0 : decode cX5_findUnlike 0 = .ok (.aload_n 0, 1) := by decide +kernel
theorem dX5_findUnlike_1 : decode cX5_findUnlike 1 = .ok (.iload 4, 2) := by decide +kernel
theorem dX5_findUnlike_3 : decode cX5_findUnlike 3 = .ok (.iload 4, 2) := by decide +kernel
theorem dX5_findUnlike_5 : decode cX5_findUnlike 5 = .ok (.invokevirtual 63, 3) := by decide +kernel
theorem dX5_findUnlike_8 : decode cX5_findUnlike 8 = .ok (.aload_n 1, 1) := by decide +kernel
theorem dX5_findUnlike_9 : decode cX5_findUnlike 9 = .ok (.invokevirtual 88, 3) := by decide +kernel
theorem dX5_findUnlike_12 : decode cX5_findUnlike 12 = .ok (.iconst 0, 1) := by decide +kernel
theorem dX5_findUnlike_13 : decode cX5_findUnlike 13 = .ok (.istore 5, 2) := by decide +kernel
theorem dX5_findUnlike_15 : decode cX5_findUnlike 15 = .ok (.iload 5, 2) := by decide +kernel
theorem dX5_findUnlike_17 : decode cX5_findUnlike 17 = .ok (.sipush 1536, 3) := by decide +kernel
theorem dX5_findUnlike_20 : decode cX5_findUnlike 20 = .ok (.if_icmp .ge 38, 3) := by decide +kernel
theorem dX5_findUnlike_23 : decode cX5_findUnlike 23 = .ok (.aload_n 0, 1) := by decide +kernel
theorem dX5_findUnlike_24 : decode cX5_findUnlike 24 = .ok (.iload_n 2, 1) := by decide +kernel
theorem dX5_findUnlike_25 : decode cX5_findUnlike 25 = .ok (.iload 5, 2) := by decide +kernel
theorem dX5_findUnlike_27 : decode cX5_findUnlike 27 = .ok (.invokevirtual 71, 3) := by decide +kernel
theorem dX5_findUnlike_30 : decode cX5_findUnlike 30 = .ok (.invokestatic 67, 3) := by decide +kernel
theorem dX5_findUnlike_33 : decode cX5_findUnlike 33 = .ok (.aload_n 0, 1) := by decide +kernel
theorem dX5_findUnlike_34 : decode cX5_findUnlike 34 = .ok (.iload_n 3, 1) := by decide +kernel
theorem dX5_findUnlike_35 : decode cX5_findUnlike 35 = .ok (.iload 5, 2) := by decide +kernel
theorem dX5_findUnlike_37 : decode cX5_findUnlike 37 = .ok (.invokevirtual 71, 3) := by decide +kernel
theorem dX5_findUnlike_40 : decode cX5_findUnlike 40 = .ok (.invokestatic 67, 3) := by decide +kernel
theorem dX5_findUnlike_43 : decode cX5_findUnlike 43 = .ok (.if_icmp .eq 9, 3) := by decide +kernel
theorem dX5_findUnlike_46 : decode cX5_findUnlike 46 = .ok (.aload_n 1, 1) := by decide +kernel
theorem dX5_findUnlike_47 : decode cX5_findUnlike 47 = .ok (.iload 5, 2) := by decide +kernel
theorem dX5_findUnlike_49 : decode cX5_findUnlike 49 = .ok (.invokevirtual 91, 3) := by decide +kernel
theorem dX5_findUnlike_52 : decode cX5_findUnlike 52 = .ok (.iinc 5 1, 3) := by decide +kernel
theorem dX5_findUnlike_55 : decode cX5_findUnlike 55 = .ok (.goto (-40), 3) := by decide +kernel
theorem dX5_findUnlike_58 : decode cX5_findUnlike 58 = .ok (.return_, 1) := by decide +kernel
theorem dX5_findAnswered_0 : decode cX5_findAnswered 0 = .ok (.aload_n 0, 1) := by decide +kernel
theorem dX5_findAnswered_1 : decode cX5_findAnswered 1 = .ok (.iload 4, 2) := by decide +kernel
theorem dX5_findAnswered_3 : decode cX5_findAnswered 3 = .ok (.iload 4, 2) := by decide +kernel
theorem dX5_findAnswered_5 : decode cX5_findAnswered 5 = .ok (.invokevirtual 63, 3) := by decide +kernel
theorem dX5_findAnswered_8 : decode cX5_findAnswered 8 = .ok (.aload_n 1, 1) := by decide +kernel
theorem dX5_findAnswered_9 : decode cX5_findAnswered 9 = .ok (.invokevirtual 88, 3) := by decide +kernel
theorem dX5_findAnswered_12 : decode cX5_findAnswered 12 = .ok (.iconst 0, 1) := by decide +kernel
theorem dX5_findAnswered_13 : decode cX5_findAnswered 13 = .ok (.istore 5, 2) := by decide +kernel
theorem dX5_findAnswered_15 : decode cX5_findAnswered 15 = .ok (.iload 5, 2) := by decide +kernel
theorem dX5_findAnswered_17 : decode cX5_findAnswered 17 = .ok (.sipush 1536, 3) := by decide +kernel
theorem dX5_findAnswered_20 : decode cX5_findAnswered 20 = .ok (.if_icmp .ge 29, 3) := by decide +kernel
theorem dX5_findAnswered_23 : decode cX5_findAnswered 23 = .ok (.aload_n 0, 1) := by decide +kernel
theorem dX5_findAnswered_24 : decode cX5_findAnswered 24 = .ok (.iload_n 2, 1) := by decide +kernel
theorem dX5_findAnswered_25 : decode cX5_findAnswered 25 = .ok (.iload 5, 2) := by decide +kernel
theorem dX5_findAnswered_27 : decode cX5_findAnswered 27 = .ok (.invokevirtual 71, 3) := by decide +kernel
theorem dX5_findAnswered_30 : decode cX5_findAnswered 30 = .ok (.invokestatic 67, 3) := by decide +kernel
theorem dX5_findAnswered_33 : decode cX5_findAnswered 33 = .ok (.iload_n 3, 1) := by decide +kernel
theorem dX5_findAnswered_34 : decode cX5_findAnswered 34 = .ok (.if_icmp .ne 9, 3) := by decide +kernel
theorem dX5_findAnswered_37 : decode cX5_findAnswered 37 = .ok (.aload_n 1, 1) := by decide +kernel
theorem dX5_findAnswered_38 : decode cX5_findAnswered 38 = .ok (.iload 5, 2) := by decide +kernel
theorem dX5_findAnswered_40 : decode cX5_findAnswered 40 = .ok (.invokevirtual 91, 3) := by decide +kernel
theorem dX5_findAnswered_43 : decode cX5_findAnswered 43 = .ok (.iinc 5 1, 3) := by decide +kernel
theorem dX5_findAnswered_46 : decode cX5_findAnswered 46 = .ok (.goto (-31), 3) := by decide +kernel
theorem dX5_findAnswered_49 : decode cX5_findAnswered 49 = .ok (.return_, 1) := by decide +kernel
theorem dX5_findMoved_0 : decode cX5_findMoved 0 = .ok (.aload_n 0, 1) := by decide +kernel
theorem dX5_findMoved_1 : decode cX5_findMoved 1 = .ok (.iload 4, 2) := by decide +kernel
theorem dX5_findMoved_3 : decode cX5_findMoved 3 = .ok (.iload 4, 2) := by decide +kernel
theorem dX5_findMoved_5 : decode cX5_findMoved 5 = .ok (.invokevirtual 63, 3) := by decide +kernel
theorem dX5_findMoved_8 : decode cX5_findMoved 8 = .ok (.aload_n 1, 1) := by decide +kernel
theorem dX5_findMoved_9 : decode cX5_findMoved 9 = .ok (.invokevirtual 88, 3) := by decide +kernel
theorem dX5_findMoved_12 : decode cX5_findMoved 12 = .ok (.aload_n 0, 1) := by decide +kernel
theorem dX5_findMoved_13 : decode cX5_findMoved 13 = .ok (.getfield 13, 3) := by decide +kernel
theorem dX5_findMoved_16 : decode cX5_findMoved 16 = .ok (.iload_n 2, 1) := by decide +kernel
theorem dX5_findMoved_17 : decode cX5_findMoved 17 = .ok (.aaload, 1) := by decide +kernel
theorem dX5_findMoved_18 : decode cX5_findMoved 18 = .ok (.astore 5, 2) := by decide +kernel
theorem dX5_findMoved_20 : decode cX5_findMoved 20 = .ok (.aload 5, 2) := by decide +kernel
theorem dX5_findMoved_22 : decode cX5_findMoved 22 = .ok (.iload 4, 2) := by decide +kernel
theorem dX5_findMoved_24 : decode cX5_findMoved 24 = .ok (.iload 4, 2) := by decide +kernel
theorem dX5_findMoved_26 : decode cX5_findMoved 26 = .ok (.invokevirtual 39, 3) := by decide +kernel
theorem dX5_findMoved_29 : decode cX5_findMoved 29 = .ok (.ifCond .ne 4, 3) := by decide +kernel
theorem dX5_findMoved_32 : decode cX5_findMoved 32 = .ok (.return_, 1) := by decide +kernel
theorem dX5_findMoved_33 : decode cX5_findMoved 33 = .ok (.iconst 0, 1) := by decide +kernel
theorem dX5_findMoved_34 : decode cX5_findMoved 34 = .ok (.istore 6, 2) := by decide +kernel
theorem dX5_findMoved_36 : decode cX5_findMoved 36 = .ok (.iload 6, 2) := by decide +kernel
theorem dX5_findMoved_38 : decode cX5_findMoved 38 = .ok (.sipush 1536, 3) := by decide +kernel
theorem dX5_findMoved_41 : decode cX5_findMoved 41 = .ok (.if_icmp .ge 76, 3) := by decide +kernel
theorem dX5_findMoved_44 : decode cX5_findMoved 44 = .ok (.aload_n 0, 1) := by decide +kernel
theorem dX5_findMoved_45 : decode cX5_findMoved 45 = .ok (.iload_n 2, 1) := by decide +kernel
theorem dX5_findMoved_46 : decode cX5_findMoved 46 = .ok (.aload 5, 2) := by decide +kernel
theorem dX5_findMoved_48 : decode cX5_findMoved 48 = .ok (.invokevirtual 43, 3) := by decide +kernel
theorem dX5_findMoved_51 : decode cX5_findMoved 51 = .ok (.iload 6, 2) := by decide +kernel
theorem dX5_findMoved_53 : decode cX5_findMoved 53 = .ok (.invokevirtual 60, 3) := by decide +kernel
theorem dX5_findMoved_56 : decode cX5_findMoved 56 = .ok (.istore 7, 2) := by decide +kernel
theorem dX5_findMoved_58 : decode cX5_findMoved 58 = .ok (.aload 5, 2) := by decide +kernel
theorem dX5_findMoved_60 : decode cX5_findMoved 60 = .ok (.getfield 47, 3) := by decide +kernel
theorem dX5_findMoved_63 : decode cX5_findMoved 63 = .ok (.iload 7, 2) := by decide +kernel
theorem dX5_findMoved_65 : decode cX5_findMoved 65 = .ok (.aload 5, 2) := by decide +kernel
theorem dX5_findMoved_67 : decode cX5_findMoved 67 = .ok (.getfield 51, 3) := by decide +kernel
theorem dX5_findMoved_70 : decode cX5_findMoved 70 = .ok (.iload 6, 2) := by decide +kernel
theorem dX5_findMoved_72 : decode cX5_findMoved 72 = .ok (.invokevirtual 54, 3) := by decide +kernel
theorem dX5_findMoved_75 : decode cX5_findMoved 75 = .ok (.istore 8, 2) := by decide +kernel
theorem dX5_findMoved_77 : decode cX5_findMoved 77 = .ok (.aload_n 3, 1) := by decide +kernel
theorem dX5_findMoved_78 : decode cX5_findMoved 78 = .ok (.iload 7, 2) := by decide +kernel
theorem dX5_findMoved_80 : decode cX5_findMoved 80 = .ok (.aload 5, 2) := by decide +kernel
theorem dX5_findMoved_82 : decode cX5_findMoved 82 = .ok (.getfield 51, 3) := by decide +kernel
theorem dX5_findMoved_85 : decode cX5_findMoved 85 = .ok (.iload 6, 2) := by decide +kernel
theorem dX5_findMoved_87 : decode cX5_findMoved 87 = .ok (.invokevirtual 54, 3) := by decide +kernel
theorem dX5_findMoved_90 : decode cX5_findMoved 90 = .ok (.istore 9, 2) := by decide +kernel
theorem dX5_findMoved_92 : decode cX5_findMoved 92 = .ok (.iload 8, 2) := by decide +kernel
theorem dX5_findMoved_94 : decode cX5_findMoved 94 = .ok (.invokestatic 67, 3) := by decide +kernel
theorem dX5_findMoved_97 : decode cX5_findMoved 97 = .ok (.iload 9, 2) := by decide +kernel
theorem dX5_findMoved_99 : decode cX5_findMoved 99 = .ok (.invokestatic 67, 3) := by decide +kernel
theorem dX5_findMoved_102 : decode cX5_findMoved 102 = .ok (.if_icmp .eq 9, 3) := by decide +kernel
theorem dX5_findMoved_105 : decode cX5_findMoved 105 = .ok (.aload_n 1, 1) := by decide +kernel
theorem dX5_findMoved_106 : decode cX5_findMoved 106 = .ok (.iload 6, 2) := by decide +kernel
theorem dX5_findMoved_108 : decode cX5_findMoved 108 = .ok (.invokevirtual 91, 3) := by decide +kernel
theorem dX5_findMoved_111 : decode cX5_findMoved 111 = .ok (.iinc 6 1, 3) := by decide +kernel
theorem dX5_findMoved_114 : decode cX5_findMoved 114 = .ok (.goto (-78), 3) := by decide +kernel
theorem dX5_findMoved_117 : decode cX5_findMoved 117 = .ok (.return_, 1) := by decide +kernel
theorem dX5_clearTrace_0 : decode cX5_clearTrace 0 = .ok (.aload_n 0, 1) := by decide +kernel
theorem dX5_clearTrace_1 : decode cX5_clearTrace 1 = .ok (.iconst 0, 1) := by decide +kernel
theorem dX5_clearTrace_2 : decode cX5_clearTrace 2 = .ok (.putfield 95, 3) := by decide +kernel
theorem dX5_clearTrace_5 : decode cX5_clearTrace 5 = .ok (.return_, 1) := by decide +kernel
theorem dX5_bodyRun_0 : decode cX5_bodyRun 0 = .ok (.iload_n 1, 1) := by decide +kernel
theorem dX5_bodyRun_1 : decode cX5_bodyRun 1 = .ok (.ifCond .lt 26, 3) := by decide +kernel
theorem dX5_bodyRun_4 : decode cX5_bodyRun 4 = .ok (.iload_n 1, 1) := by decide +kernel
theorem dX5_bodyRun_5 : decode cX5_bodyRun 5 = .ok (.aload_n 0, 1) := by decide +kernel
theorem dX5_bodyRun_6 : decode cX5_bodyRun 6 = .ok (.getfield 95, 3) := by decide +kernel
theorem dX5_bodyRun_9 : decode cX5_bodyRun 9 = .ok (.if_icmp .ge 18, 3) := by decide +kernel
theorem dX5_bodyRun_12 : decode cX5_bodyRun 12 = .ok (.iload_n 1, 1) := by decide +kernel
theorem dX5_bodyRun_13 : decode cX5_bodyRun 13 = .ok (.bipush 20, 2) := by decide +kernel
theorem dX5_bodyRun_15 : decode cX5_bodyRun 15 = .ok (.if_icmp .ge 12, 3) := by decide +kernel
theorem dX5_bodyRun_18 : decode cX5_bodyRun 18 = .ok (.aload_n 0, 1) := by decide +kernel
theorem dX5_bodyRun_19 : decode cX5_bodyRun 19 = .ok (.getfield 26, 3) := by decide +kernel
theorem dX5_bodyRun_22 : decode cX5_bodyRun 22 = .ok (.iload_n 1, 1) := by decide +kernel
theorem dX5_bodyRun_23 : decode cX5_bodyRun 23 = .ok (.iaload, 1) := by decide +kernel
theorem dX5_bodyRun_24 : decode cX5_bodyRun 24 = .ok (.goto 4, 3) := by decide +kernel
theorem dX5_bodyRun_27 : decode cX5_bodyRun 27 = .ok (.iconst (-1), 1) := by decide +kernel
theorem dX5_bodyRun_28 : decode cX5_bodyRun 28 = .ok (.ireturn, 1) := by decide +kernel
theorem dX5_begin_0 : decode cX5_begin 0 = .ok (.aload_n 0, 1) := by decide +kernel
theorem dX5_begin_1 : decode cX5_begin 1 = .ok (.getfield 95, 3) := by decide +kernel
theorem dX5_begin_4 : decode cX5_begin 4 = .ok (.bipush 20, 2) := by decide +kernel
theorem dX5_begin_6 : decode cX5_begin 6 = .ok (.if_icmp .ge 13, 3) := by decide +kernel
theorem dX5_begin_9 : decode cX5_begin 9 = .ok (.aload_n 0, 1) := by decide +kernel
theorem dX5_begin_10 : decode cX5_begin 10 = .ok (.getfield 26, 3) := by decide +kernel
theorem dX5_begin_13 : decode cX5_begin 13 = .ok (.aload_n 0, 1) := by decide +kernel
theorem dX5_begin_14 : decode cX5_begin 14 = .ok (.getfield 95, 3) := by decide +kernel
theorem dX5_begin_17 : decode cX5_begin 17 = .ok (.iload_n 1, 1) := by decide +kernel
theorem dX5_begin_18 : decode cX5_begin 18 = .ok (.iastore, 1) := by decide +kernel
theorem dX5_begin_19 : decode cX5_begin 19 = .ok (.aload_n 0, 1) := by decide +kernel
theorem dX5_begin_20 : decode cX5_begin 20 = .ok (.dup, 1) := by decide +kernel
theorem dX5_begin_21 : decode cX5_begin 21 = .ok (.getfield 95, 3) := by decide +kernel
theorem dX5_begin_24 : decode cX5_begin 24 = .ok (.iconst 1, 1) := by decide +kernel
theorem dX5_begin_25 : decode cX5_begin 25 = .ok (.iadd, 1) := by decide +kernel
theorem dX5_begin_26 : decode cX5_begin 26 = .ok (.putfield 95, 3) := by decide +kernel
theorem dX5_begin_29 : decode cX5_begin 29 = .ok (.return_, 1) := by decide +kernel
theorem dX5_runHolds_0 : decode cX5_runHolds 0 = .ok (.aload_n 1, 1) := by decide +kernel
theorem dX5_runHolds_1 : decode cX5_runHolds 1 = .ok (.getfield 98, 3) := by decide +kernel
theorem dX5_runHolds_4 : decode cX5_runHolds 4 = .ok (.iconst 4, 1) := by decide +kernel
theorem dX5_runHolds_5 : decode cX5_runHolds 5 = .ok (.invokestatic 101, 3) := by decide +kernel
theorem dX5_runHolds_8 : decode cX5_runHolds 8 = .ok (.istore 4, 2) := by decide +kernel
theorem dX5_runHolds_10 : decode cX5_runHolds 10 = .ok (.aload_n 1, 1) := by decide +kernel
theorem dX5_runHolds_11 : decode cX5_runHolds 11 = .ok (.getfield 98, 3) := by decide +kernel
theorem dX5_runHolds_14 : decode cX5_runHolds 14 = .ok (.iconst 2, 1) := by decide +kernel
theorem dX5_runHolds_15 : decode cX5_runHolds 15 = .ok (.if_icmp .ne 9, 3) := by decide +kernel
theorem dX5_runHolds_18 : decode cX5_runHolds 18 = .ok (.aload_n 0, 1) := by decide +kernel
theorem dX5_runHolds_19 : decode cX5_runHolds 19 = .ok (.bipush 30, 2) := by decide +kernel
theorem dX5_runHolds_21 : decode cX5_runHolds 21 = .ok (.invokevirtual 104, 3) := by decide +kernel
theorem dX5_runHolds_24 : decode cX5_runHolds 24 = .ok (.iload 4, 2) := by decide +kernel
theorem dX5_runHolds_26 : decode cX5_runHolds 26 = .ok (.ifCond .eq 9, 3) := by decide +kernel
theorem dX5_runHolds_29 : decode cX5_runHolds 29 = .ok (.aload_n 0, 1) := by decide +kernel
theorem dX5_runHolds_30 : decode cX5_runHolds 30 = .ok (.bipush 50, 2) := by decide +kernel
theorem dX5_runHolds_32 : decode cX5_runHolds 32 = .ok (.invokevirtual 104, 3) := by decide +kernel
theorem dX5_runHolds_35 : decode cX5_runHolds 35 = .ok (.aload_n 0, 1) := by decide +kernel
theorem dX5_runHolds_36 : decode cX5_runHolds 36 = .ok (.bipush 10, 2) := by decide +kernel
theorem dX5_runHolds_38 : decode cX5_runHolds 38 = .ok (.invokevirtual 104, 3) := by decide +kernel
theorem dX5_runHolds_41 : decode cX5_runHolds 41 = .ok (.iload_n 3, 1) := by decide +kernel
theorem dX5_runHolds_42 : decode cX5_runHolds 42 = .ok (.aload_n 1, 1) := by decide +kernel
theorem dX5_runHolds_43 : decode cX5_runHolds 43 = .ok (.getfield 51, 3) := by decide +kernel
theorem dX5_runHolds_46 : decode cX5_runHolds 46 = .ok (.iadd, 1) := by decide +kernel
theorem dX5_runHolds_47 : decode cX5_runHolds 47 = .ok (.istore 5, 2) := by decide +kernel
theorem dX5_runHolds_49 : decode cX5_runHolds 49 = .ok (.aload_n 1, 1) := by decide +kernel
theorem dX5_runHolds_50 : decode cX5_runHolds 50 = .ok (.getfield 98, 3) := by decide +kernel
theorem dX5_runHolds_53 : decode cX5_runHolds 53 = .ok (.iconst 2, 1) := by decide +kernel
theorem dX5_runHolds_54 : decode cX5_runHolds 54 = .ok (.if_icmp .ne 8, 3) := by decide +kernel
theorem dX5_runHolds_57 : decode cX5_runHolds 57 = .ok (.iload 5, 2) := by decide +kernel
theorem dX5_runHolds_59 : decode cX5_runHolds 59 = .ok (.iconst 3, 1) := by decide +kernel
theorem dX5_runHolds_60 : decode cX5_runHolds 60 = .ok (.imul, 1) := by decide +kernel
theorem dX5_runHolds_61 : decode cX5_runHolds 61 = .ok (.ireturn, 1) := by decide +kernel
theorem dX5_runHolds_62 : decode cX5_runHolds 62 = .ok (.iload 4, 2) := by decide +kernel
theorem dX5_runHolds_64 : decode cX5_runHolds 64 = .ok (.ifCond .eq 10, 3) := by decide +kernel
theorem dX5_runHolds_67 : decode cX5_runHolds 67 = .ok (.iload 5, 2) := by decide +kernel
theorem dX5_runHolds_69 : decode cX5_runHolds 69 = .ok (.iload_n 2, 1) := by decide +kernel
theorem dX5_runHolds_70 : decode cX5_runHolds 70 = .ok (.ixor, 1) := by decide +kernel
theorem dX5_runHolds_71 : decode cX5_runHolds 71 = .ok (.goto 5, 3) := by decide +kernel
theorem dX5_runHolds_74 : decode cX5_runHolds 74 = .ok (.iload 5, 2) := by decide +kernel
theorem dX5_runHolds_76 : decode cX5_runHolds 76 = .ok (.ireturn, 1) := by decide +kernel
theorem dX5_runHangs_0 : decode cX5_runHangs 0 = .ok (.aload_n 1, 1) := by decide +kernel
theorem dX5_runHangs_1 : decode cX5_runHangs 1 = .ok (.getfield 98, 3) := by decide +kernel
theorem dX5_runHangs_4 : decode cX5_runHangs 4 = .ok (.iconst 5, 1) := by decide +kernel
theorem dX5_runHangs_5 : decode cX5_runHangs 5 = .ok (.if_icmp .ne 7, 3) := by decide +kernel
theorem dX5_runHangs_8 : decode cX5_runHangs 8 = .ok (.iconst 1, 1) := by decide +kernel
theorem dX5_runHangs_9 : decode cX5_runHangs 9 = .ok (.goto 4, 3) := by decide +kernel
theorem dX5_runHangs_12 : decode cX5_runHangs 12 = .ok (.iconst 0, 1) := by decide +kernel
theorem dX5_runHangs_13 : decode cX5_runHangs 13 = .ok (.istore 4, 2) := by decide +kernel
theorem dX5_runHangs_15 : decode cX5_runHangs 15 = .ok (.aload_n 1, 1) := by decide +kernel
theorem dX5_runHangs_16 : decode cX5_runHangs 16 = .ok (.getfield 98, 3) := by decide +kernel
theorem dX5_runHangs_19 : decode cX5_runHangs 19 = .ok (.iconst 1, 1) := by decide +kernel
theorem dX5_runHangs_20 : decode cX5_runHangs 20 = .ok (.invokestatic 101, 3) := by decide +kernel
theorem dX5_runHangs_23 : decode cX5_runHangs 23 = .ok (.istore 5, 2) := by decide +kernel
theorem dX5_runHangs_25 : decode cX5_runHangs 25 = .ok (.iload 4, 2) := by decide +kernel
theorem dX5_runHangs_27 : decode cX5_runHangs 27 = .ok (.ifCond .eq 9, 3) := by decide +kernel
theorem dX5_runHangs_30 : decode cX5_runHangs 30 = .ok (.aload_n 0, 1) := by decide +kernel
theorem dX5_runHangs_31 : decode cX5_runHangs 31 = .ok (.bipush 61, 2) := by decide +kernel
theorem dX5_runHangs_33 : decode cX5_runHangs 33 = .ok (.invokevirtual 104, 3) := by decide +kernel
theorem dX5_runHangs_36 : decode cX5_runHangs 36 = .ok (.iload 5, 2) := by decide +kernel
theorem dX5_runHangs_38 : decode cX5_runHangs 38 = .ok (.ifCond .eq 9, 3) := by decide +kernel
theorem dX5_runHangs_41 : decode cX5_runHangs 41 = .ok (.aload_n 0, 1) := by decide +kernel
theorem dX5_runHangs_42 : decode cX5_runHangs 42 = .ok (.bipush 20, 2) := by decide +kernel
theorem dX5_runHangs_44 : decode cX5_runHangs 44 = .ok (.invokevirtual 104, 3) := by decide +kernel
theorem dX5_runHangs_47 : decode cX5_runHangs 47 = .ok (.aload_n 0, 1) := by decide +kernel
theorem dX5_runHangs_48 : decode cX5_runHangs 48 = .ok (.bipush 11, 2) := by decide +kernel
theorem dX5_runHangs_50 : decode cX5_runHangs 50 = .ok (.invokevirtual 104, 3) := by decide +kernel
theorem dX5_runHangs_53 : decode cX5_runHangs 53 = .ok (.aload_n 0, 1) := by decide +kernel
theorem dX5_runHangs_54 : decode cX5_runHangs 54 = .ok (.aload_n 1, 1) := by decide +kernel
theorem dX5_runHangs_55 : decode cX5_runHangs 55 = .ok (.iload_n 2, 1) := by decide +kernel
theorem dX5_runHangs_56 : decode cX5_runHangs 56 = .ok (.iload 4, 2) := by decide +kernel
theorem dX5_runHangs_58 : decode cX5_runHangs 58 = .ok (.ifCond .eq 9, 3) := by decide +kernel
theorem dX5_runHangs_61 : decode cX5_runHangs 61 = .ok (.iload_n 3, 1) := by decide +kernel
theorem dX5_runHangs_62 : decode cX5_runHangs 62 = .ok (.iload_n 2, 1) := by decide +kernel
theorem dX5_runHangs_63 : decode cX5_runHangs 63 = .ok (.isub, 1) := by decide +kernel
theorem dX5_runHangs_64 : decode cX5_runHangs 64 = .ok (.goto 4, 3) := by decide +kernel
theorem dX5_runHangs_67 : decode cX5_runHangs 67 = .ok (.iload_n 3, 1) := by decide +kernel
theorem dX5_runHangs_68 : decode cX5_runHangs 68 = .ok (.invokevirtual 107, 3) := by decide +kernel
theorem dX5_runHangs_71 : decode cX5_runHangs 71 = .ok (.iconst 2, 1) := by decide +kernel
theorem dX5_runHangs_72 : decode cX5_runHangs 72 = .ok (.imul, 1) := by decide +kernel
theorem dX5_runHangs_73 : decode cX5_runHangs 73 = .ok (.istore 6, 2) := by decide +kernel
theorem dX5_runHangs_75 : decode cX5_runHangs 75 = .ok (.iload 5, 2) := by decide +kernel
theorem dX5_runHangs_77 : decode cX5_runHangs 77 = .ok (.ifCond .eq 13, 3) := by decide +kernel
theorem dX5_runHangs_80 : decode cX5_runHangs 80 = .ok (.iload 6, 2) := by decide +kernel
theorem dX5_runHangs_82 : decode cX5_runHangs 82 = .ok (.aload_n 1, 1) := by decide +kernel
theorem dX5_runHangs_83 : decode cX5_runHangs 83 = .ok (.getfield 51, 3) := by decide +kernel
theorem dX5_runHangs_86 : decode cX5_runHangs 86 = .ok (.isub, 1) := by decide +kernel
theorem dX5_runHangs_87 : decode cX5_runHangs 87 = .ok (.goto 5, 3) := by decide +kernel
theorem dX5_runHangs_90 : decode cX5_runHangs 90 = .ok (.iload 6, 2) := by decide +kernel
theorem dX5_runHangs_92 : decode cX5_runHangs 92 = .ok (.ireturn, 1) := by decide +kernel
theorem dX5_runSaves_0 : decode cX5_runSaves 0 = .ok (.aload_n 1, 1) := by decide +kernel
theorem dX5_runSaves_1 : decode cX5_runSaves 1 = .ok (.getfield 98, 3) := by decide +kernel
theorem dX5_runSaves_4 : decode cX5_runSaves 4 = .ok (.iconst 5, 1) := by decide +kernel
theorem dX5_runSaves_5 : decode cX5_runSaves 5 = .ok (.if_icmp .ne 7, 3) := by decide +kernel
theorem dX5_runSaves_8 : decode cX5_runSaves 8 = .ok (.iconst 1, 1) := by decide +kernel
theorem dX5_runSaves_9 : decode cX5_runSaves 9 = .ok (.goto 4, 3) := by decide +kernel
theorem dX5_runSaves_12 : decode cX5_runSaves 12 = .ok (.iconst 0, 1) := by decide +kernel
theorem dX5_runSaves_13 : decode cX5_runSaves 13 = .ok (.istore 4, 2) := by decide +kernel
theorem dX5_runSaves_15 : decode cX5_runSaves 15 = .ok (.aload_n 1, 1) := by decide +kernel
theorem dX5_runSaves_16 : decode cX5_runSaves 16 = .ok (.getfield 98, 3) := by decide +kernel
theorem dX5_runSaves_19 : decode cX5_runSaves 19 = .ok (.iconst 3, 1) := by decide +kernel
theorem dX5_runSaves_20 : decode cX5_runSaves 20 = .ok (.if_icmp .ne 7, 3) := by decide +kernel
theorem dX5_runSaves_23 : decode cX5_runSaves 23 = .ok (.iconst 1, 1) := by decide +kernel
theorem dX5_runSaves_24 : decode cX5_runSaves 24 = .ok (.goto 4, 3) := by decide +kernel
theorem dX5_runSaves_27 : decode cX5_runSaves 27 = .ok (.iconst 0, 1) := by decide +kernel
theorem dX5_runSaves_28 : decode cX5_runSaves 28 = .ok (.istore 5, 2) := by decide +kernel
theorem dX5_runSaves_30 : decode cX5_runSaves 30 = .ok (.iload 4, 2) := by decide +kernel
theorem dX5_runSaves_32 : decode cX5_runSaves 32 = .ok (.ifCond .eq 9, 3) := by decide +kernel
theorem dX5_runSaves_35 : decode cX5_runSaves 35 = .ok (.aload_n 0, 1) := by decide +kernel
theorem dX5_runSaves_36 : decode cX5_runSaves 36 = .ok (.bipush 60, 2) := by decide +kernel
theorem dX5_runSaves_38 : decode cX5_runSaves 38 = .ok (.invokevirtual 104, 3) := by decide +kernel
theorem dX5_runSaves_41 : decode cX5_runSaves 41 = .ok (.iload 5, 2) := by decide +kernel
theorem dX5_runSaves_43 : decode cX5_runSaves 43 = .ok (.ifCond .eq 9, 3) := by decide +kernel
theorem dX5_runSaves_46 : decode cX5_runSaves 46 = .ok (.aload_n 0, 1) := by decide +kernel
theorem dX5_runSaves_47 : decode cX5_runSaves 47 = .ok (.bipush 40, 2) := by decide +kernel
theorem dX5_runSaves_49 : decode cX5_runSaves 49 = .ok (.invokevirtual 104, 3) := by decide +kernel
theorem dX5_runSaves_52 : decode cX5_runSaves 52 = .ok (.aload_n 0, 1) := by decide +kernel
theorem dX5_runSaves_53 : decode cX5_runSaves 53 = .ok (.bipush 12, 2) := by decide +kernel
theorem dX5_runSaves_55 : decode cX5_runSaves 55 = .ok (.invokevirtual 104, 3) := by decide +kernel
theorem dX5_runSaves_58 : decode cX5_runSaves 58 = .ok (.iload 5, 2) := by decide +kernel
theorem dX5_runSaves_60 : decode cX5_runSaves 60 = .ok (.ifCond .eq 9, 3) := by decide +kernel
theorem dX5_runSaves_63 : decode cX5_runSaves 63 = .ok (.iload_n 3, 1) := by decide +kernel
theorem dX5_runSaves_64 : decode cX5_runSaves 64 = .ok (.iconst 1, 1) := by decide +kernel
theorem dX5_runSaves_65 : decode cX5_runSaves 65 = .ok (.iadd, 1) := by decide +kernel
theorem dX5_runSaves_66 : decode cX5_runSaves 66 = .ok (.goto 4, 3) := by decide +kernel
theorem dX5_runSaves_69 : decode cX5_runSaves 69 = .ok (.iload_n 3, 1) := by decide +kernel
theorem dX5_runSaves_70 : decode cX5_runSaves 70 = .ok (.istore 6, 2) := by decide +kernel
theorem dX5_runSaves_72 : decode cX5_runSaves 72 = .ok (.aload_n 0, 1) := by decide +kernel
theorem dX5_runSaves_73 : decode cX5_runSaves 73 = .ok (.aload_n 1, 1) := by decide +kernel
theorem dX5_runSaves_74 : decode cX5_runSaves 74 = .ok (.iload_n 2, 1) := by decide +kernel
theorem dX5_runSaves_75 : decode cX5_runSaves 75 = .ok (.iload 6, 2) := by decide +kernel
theorem dX5_runSaves_77 : decode cX5_runSaves 77 = .ok (.invokevirtual 111, 3) := by decide +kernel
theorem dX5_runSaves_80 : decode cX5_runSaves 80 = .ok (.istore 7, 2) := by decide +kernel
theorem dX5_runSaves_82 : decode cX5_runSaves 82 = .ok (.iload 7, 2) := by decide +kernel
theorem dX5_runSaves_84 : decode cX5_runSaves 84 = .ok (.aload_n 0, 1) := by decide +kernel
theorem dX5_runSaves_85 : decode cX5_runSaves 85 = .ok (.aload_n 1, 1) := by decide +kernel
theorem dX5_runSaves_86 : decode cX5_runSaves 86 = .ok (.iload_n 2, 1) := by decide +kernel
theorem dX5_runSaves_87 : decode cX5_runSaves 87 = .ok (.iload 6, 2) := by decide +kernel
theorem dX5_runSaves_89 : decode cX5_runSaves 89 = .ok (.iload_n 2, 1) := by decide +kernel
theorem dX5_runSaves_90 : decode cX5_runSaves 90 = .ok (.iadd, 1) := by decide +kernel
theorem dX5_runSaves_91 : decode cX5_runSaves 91 = .ok (.invokevirtual 107, 3) := by decide +kernel
theorem dX5_runSaves_94 : decode cX5_runSaves 94 = .ok (.ixor, 1) := by decide +kernel
theorem dX5_runSaves_95 : decode cX5_runSaves 95 = .ok (.istore 8, 2) := by decide +kernel
theorem dX5_runSaves_97 : decode cX5_runSaves 97 = .ok (.iload 4, 2) := by decide +kernel
theorem dX5_runSaves_99 : decode cX5_runSaves 99 = .ok (.ifCond .eq 10, 3) := by decide +kernel
theorem dX5_runSaves_102 : decode cX5_runSaves 102 = .ok (.iload 8, 2) := by decide +kernel
theorem dX5_runSaves_104 : decode cX5_runSaves 104 = .ok (.iconst 4, 1) := by decide +kernel
theorem dX5_runSaves_105 : decode cX5_runSaves 105 = .ok (.iadd, 1) := by decide +kernel
theorem dX5_runSaves_106 : decode cX5_runSaves 106 = .ok (.goto 5, 3) := by decide +kernel
theorem dX5_runSaves_109 : decode cX5_runSaves 109 = .ok (.iload 8, 2) := by decide +kernel
theorem dX5_runSaves_111 : decode cX5_runSaves 111 = .ok (.ireturn, 1) := by decide +kernel
theorem dX6_init_0 : decode cX6_init 0 = .ok (.aload_n 0, 1) := by decide +kernel
theorem dX6_init_1 : decode cX6_init 1 = .ok (.invokespecial 3, 3) := by decide +kernel
theorem dX6_init_4 : decode cX6_init 4 = .ok (.aload_n 0, 1) := by decide +kernel
theorem dX6_init_5 : decode cX6_init 5 = .ok (.iconst 3, 1) := by decide +kernel
theorem dX6_init_6 : decode cX6_init 6 = .ok (.bipush 40, 2) := by decide +kernel
theorem dX6_init_8 : decode cX6_init 8 = .ok (.multianewarray 11 2, 4) := by decide +kernel
theorem dX6_init_12 : decode cX6_init 12 = .ok (.putfield 13, 3) := by decide +kernel
theorem dX6_init_15 : decode cX6_init 15 = .ok (.aload_n 0, 1) := by decide +kernel
theorem dX6_init_16 : decode cX6_init 16 = .ok (.iconst 3, 1) := by decide +kernel
theorem dX6_init_17 : decode cX6_init 17 = .ok (.newarray .int, 2) := by decide +kernel
theorem dX6_init_19 : decode cX6_init 19 = .ok (.putfield 16, 3) := by decide +kernel
theorem dX6_init_22 : decode cX6_init 22 = .ok (.aload_n 0, 1) := by decide +kernel
theorem dX6_init_23 : decode cX6_init 23 = .ok (.iconst 3, 1) := by decide +kernel
theorem dX6_init_24 : decode cX6_init 24 = .ok (.newarray .int, 2) := by decide +kernel
theorem dX6_init_26 : decode cX6_init 26 = .ok (.putfield 20, 3) := by decide +kernel
theorem dX6_init_29 : decode cX6_init 29 = .ok (.aload_n 0, 1) := by decide +kernel
theorem dX6_init_30 : decode cX6_init 30 = .ok (.getfield 16, 3) := by decide +kernel
theorem dX6_init_33 : decode cX6_init 33 = .ok (.iconst (-1), 1) := by decide +kernel
theorem dX6_init_34 : decode cX6_init 34 = .ok (.invokestatic 23, 3) := by decide +kernel
theorem dX6_init_37 : decode cX6_init 37 = .ok (.return_, 1) := by decide +kernel
theorem dX6_has_0 : decode cX6_has 0 = .ok (.iload_n 1, 1) := by decide +kernel
theorem dX6_has_1 : decode cX6_has 1 = .ok (.ifCond .lt 12, 3) := by decide +kernel
theorem dX6_has_4 : decode cX6_has 4 = .ok (.iload_n 1, 1) := by decide +kernel
theorem dX6_has_5 : decode cX6_has 5 = .ok (.iconst 3, 1) := by decide +kernel
theorem dX6_has_6 : decode cX6_has 6 = .ok (.if_icmp .ge 7, 3) := by decide +kernel
theorem dX6_has_9 : decode cX6_has 9 = .ok (.iconst 1, 1) := by decide +kernel
theorem dX6_has_10 : decode cX6_has 10 = .ok (.goto 4, 3) := by decide +kernel
theorem dX6_has_13 : decode cX6_has 13 = .ok (.iconst 0, 1) := by decide +kernel
theorem dX6_has_14 : decode cX6_has 14 = .ok (.ireturn, 1) := by decide +kernel
theorem dX6_isSort_0 : decode cX6_isSort 0 = .ok (.iload_n 1, 1) := by decide +kernel
theorem dX6_isSort_1 : decode cX6_isSort 1 = .ok (.ifCond .lt 12, 3) := by decide +kernel
theorem dX6_isSort_4 : decode cX6_isSort 4 = .ok (.iload_n 1, 1) := by decide +kernel
theorem dX6_isSort_5 : decode cX6_isSort 5 = .ok (.iconst 2, 1) := by decide +kernel
theorem dX6_isSort_6 : decode cX6_isSort 6 = .ok (.if_icmp .gt 7, 3) := by decide +kernel
theorem dX6_isSort_9 : decode cX6_isSort 9 = .ok (.iconst 1, 1) := by decide +kernel
theorem dX6_isSort_10 : decode cX6_isSort 10 = .ok (.goto 4, 3) := by decide +kernel
theorem dX6_isSort_13 : decode cX6_isSort 13 = .ok (.iconst 0, 1) := by decide +kernel
theorem dX6_isSort_14 : decode cX6_isSort 14 = .ok (.ireturn, 1) := by decide +kernel
theorem dX6_isMissing_0 : decode cX6_isMissing 0 = .ok (.aload_n 0, 1) := by decide +kernel
theorem dX6_isMissing_1 : decode cX6_isMissing 1 = .ok (.getfield 16, 3) := by decide +kernel
theorem dX6_isMissing_4 : decode cX6_isMissing 4 = .ok (.iload_n 1, 1) := by decide +kernel
theorem dX6_isMissing_5 : decode cX6_isMissing 5 = .ok (.iaload, 1) := by decide +kernel
theorem dX6_isMissing_6 : decode cX6_isMissing 6 = .ok (.iconst (-1), 1) := by decide +kernel
theorem dX6_isMissing_7 : decode cX6_isMissing 7 = .ok (.if_icmp .ne 7, 3) := by decide +kernel
theorem dX6_isMissing_10 : decode cX6_isMissing 10 = .ok (.iconst 1, 1) := by decide +kernel
theorem dX6_isMissing_11 : decode cX6_isMissing 11 = .ok (.goto 4, 3) := by decide +kernel
theorem dX6_isMissing_14 : decode cX6_isMissing 14 = .ok (.iconst 0, 1) := by decide +kernel
theorem dX6_isMissing_15 : decode cX6_isMissing 15 = .ok (.ireturn, 1) := by decide +kernel
theorem dX6_remove_0 : decode cX6_remove 0 = .ok (.aload_n 0, 1) := by decide +kernel
theorem dX6_remove_1 : decode cX6_remove 1 = .ok (.getfield 16, 3) := by decide +kernel
theorem dX6_remove_4 : decode cX6_remove 4 = .ok (.iload_n 1, 1) := by decide +kernel
theorem dX6_remove_5 : decode cX6_remove 5 = .ok (.iconst (-1), 1) := by decide +kernel
theorem dX6_remove_6 : decode cX6_remove 6 = .ok (.iastore, 1) := by decide +kernel
theorem dX6_remove_7 : decode cX6_remove 7 = .ok (.aload_n 0, 1) := by decide +kernel
theorem dX6_remove_8 : decode cX6_remove 8 = .ok (.getfield 20, 3) := by decide +kernel
theorem dX6_remove_11 : decode cX6_remove 11 = .ok (.iload_n 1, 1) := by decide +kernel
theorem dX6_remove_12 : decode cX6_remove 12 = .ok (.iconst 0, 1) := by decide +kernel
theorem dX6_remove_13 : decode cX6_remove 13 = .ok (.iastore, 1) := by decide +kernel
theorem dX6_remove_14 : decode cX6_remove 14 = .ok (.return_, 1) := by decide +kernel
theorem dX6_lay_0 : decode cX6_lay 0 = .ok (.aload_n 0, 1) := by decide +kernel
theorem dX6_lay_1 : decode cX6_lay 1 = .ok (.getfield 16, 3) := by decide +kernel
theorem dX6_lay_4 : decode cX6_lay 4 = .ok (.iload_n 1, 1) := by decide +kernel
theorem dX6_lay_5 : decode cX6_lay 5 = .ok (.iload_n 2, 1) := by decide +kernel
theorem dX6_lay_6 : decode cX6_lay 6 = .ok (.iastore, 1) := by decide +kernel
theorem dX6_lay_7 : decode cX6_lay 7 = .ok (.aload_n 0, 1) := by decide +kernel
theorem dX6_lay_8 : decode cX6_lay 8 = .ok (.getfield 20, 3) := by decide +kernel
theorem dX6_lay_11 : decode cX6_lay 11 = .ok (.iload_n 1, 1) := by decide +kernel
theorem dX6_lay_12 : decode cX6_lay 12 = .ok (.iload_n 3, 1) := by decide +kernel
theorem dX6_lay_13 : decode cX6_lay 13 = .ok (.iastore, 1) := by decide +kernel
theorem dX6_lay_14 : decode cX6_lay 14 = .ok (.aload_n 0, 1) := by decide +kernel
theorem dX6_lay_15 : decode cX6_lay 15 = .ok (.getfield 13, 3) := by decide +kernel
theorem dX6_lay_18 : decode cX6_lay 18 = .ok (.iload_n 1, 1) := by decide +kernel
theorem dX6_lay_19 : decode cX6_lay 19 = .ok (.aaload, 1) := by decide +kernel
theorem dX6_lay_20 : decode cX6_lay 20 = .ok (.iconst 0, 1) := by decide +kernel
theorem dX6_lay_21 : decode cX6_lay 21 = .ok (.invokestatic 23, 3) := by decide +kernel
theorem dX6_lay_24 : decode cX6_lay 24 = .ok (.return_, 1) := by decide +kernel
theorem dX6_spans_0 : decode cX6_spans 0 = .ok (.iload_n 2, 1) := by decide +kernel
theorem dX6_spans_1 : decode cX6_spans 1 = .ok (.ifCond .lt 23, 3) := by decide +kernel
theorem dX6_spans_4 : decode cX6_spans 4 = .ok (.iload_n 3, 1) := by decide +kernel
theorem dX6_spans_5 : decode cX6_spans 5 = .ok (.ifCond .lt 19, 3) := by decide +kernel
theorem dX6_spans_8 : decode cX6_spans 8 = .ok (.iload_n 2, 1) := by decide +kernel
theorem dX6_spans_9 : decode cX6_spans 9 = .ok (.aload_n 0, 1) := by decide +kernel
theorem dX6_spans_10 : decode cX6_spans 10 = .ok (.getfield 20, 3) := by decide +kernel
theorem dX6_spans_13 : decode cX6_spans 13 = .ok (.iload_n 1, 1) := by decide +kernel
theorem dX6_spans_14 : decode cX6_spans 14 = .ok (.iaload, 1) := by decide +kernel
theorem dX6_spans_15 : decode cX6_spans 15 = .ok (.iload_n 3, 1) := by decide +kernel
theorem dX6_spans_16 : decode cX6_spans 16 = .ok (.isub, 1) := by decide +kernel
theorem dX6_spans_17 : decode cX6_spans 17 = .ok (.if_icmp .gt 7, 3) := by decide +kernel
theorem dX6_spans_20 : decode cX6_spans 20 = .ok (.iconst 1, 1) := by decide +kernel
theorem dX6_spans_21 : decode cX6_spans 21 = .ok (.goto 4, 3) := by decide +kernel
theorem dX6_spans_24 : decode cX6_spans 24 = .ok (.iconst 0, 1) := by decide +kernel
theorem dX6_spans_25 : decode cX6_spans 25 = .ok (.ireturn, 1) := by decide +kernel
theorem dX6_item_0 : decode cX6_item 0 = .ok (.aload_n 0, 1) := by decide +kernel
theorem dX6_item_1 : decode cX6_item 1 = .ok (.getfield 13, 3) := by decide +kernel
theorem dX6_item_4 : decode cX6_item 4 = .ok (.iload_n 1, 1) := by decide +kernel
theorem dX6_item_5 : decode cX6_item 5 = .ok (.aaload, 1) := by decide +kernel
theorem dX6_item_6 : decode cX6_item 6 = .ok (.iload_n 2, 1) := by decide +kernel
theorem dX6_item_7 : decode cX6_item 7 = .ok (.iaload, 1) := by decide +kernel
theorem dX6_item_8 : decode cX6_item 8 = .ok (.ireturn, 1) := by decide +kernel
theorem dX6_put_0 : decode cX6_put 0 = .ok (.aload_n 0, 1) := by decide +kernel
theorem dX6_put_1 : decode cX6_put 1 = .ok (.getfield 16, 3) := by decide +kernel
theorem dX6_put_4 : decode cX6_put 4 = .ok (.iload_n 1, 1) := by decide +kernel
theorem dX6_put_5 : decode cX6_put 5 = .ok (.iaload, 1) := by decide +kernel
theorem dX6_put_6 : decode cX6_put 6 = .ok (.lookupswitch 52 #[(0, 26), (1, 39)], 26) := by decide +kernel
theorem dX6_put_32 : decode cX6_put 32 = .ok (.aload_n 0, 1) := by decide +kernel
theorem dX6_put_33 : decode cX6_put 33 = .ok (.getfield 13, 3) := by decide +kernel
theorem dX6_put_36 : decode cX6_put 36 = .ok (.iload_n 1, 1) := by decide +kernel
theorem dX6_put_37 : decode cX6_put 37 = .ok (.aaload, 1) := by decide +kernel
theorem dX6_put_38 : decode cX6_put 38 = .ok (.iload_n 2, 1) := by decide +kernel
theorem dX6_put_39 : decode cX6_put 39 = .ok (.iload_n 3, 1) := by decide +kernel
theorem dX6_put_40 : decode cX6_put 40 = .ok (.i2b, 1) := by decide +kernel
theorem dX6_put_41 : decode cX6_put 41 = .ok (.iastore, 1) := by decide +kernel
theorem dX6_put_42 : decode cX6_put 42 = .ok (.goto 25, 3) := by decide +kernel
theorem dX6_put_45 : decode cX6_put 45 = .ok (.aload_n 0, 1) := by decide +kernel
theorem dX6_put_46 : decode cX6_put 46 = .ok (.getfield 13, 3) := by decide +kernel
theorem dX6_put_49 : decode cX6_put 49 = .ok (.iload_n 1, 1) := by decide +kernel
theorem dX6_put_50 : decode cX6_put 50 = .ok (.aaload, 1) := by decide +kernel
theorem dX6_put_51 : decode cX6_put 51 = .ok (.iload_n 2, 1) := by decide +kernel
theorem dX6_put_52 : decode cX6_put 52 = .ok (.iload_n 3, 1) := by decide +kernel
theorem dX6_put_53 : decode cX6_put 53 = .ok (.i2s, 1) := by decide +kernel
theorem dX6_put_54 : decode cX6_put 54 = .ok (.iastore, 1) := by decide +kernel
theorem dX6_put_55 : decode cX6_put 55 = .ok (.goto 12, 3) := by decide +kernel
theorem dX6_put_58 : decode cX6_put 58 = .ok (.aload_n 0, 1) := by decide +kernel
theorem dX6_put_59 : decode cX6_put 59 = .ok (.getfield 13, 3) := by decide +kernel
theorem dX6_put_62 : decode cX6_put 62 = .ok (.iload_n 1, 1) := by decide +kernel
theorem dX6_put_63 : decode cX6_put 63 = .ok (.aaload, 1) := by decide +kernel
theorem dX6_put_64 : decode cX6_put 64 = .ok (.iload_n 2, 1) := by decide +kernel
theorem dX6_put_65 : decode cX6_put 65 = .ok (.iload_n 3, 1) := by decide +kernel
theorem dX6_put_66 : decode cX6_put 66 = .ok (.iastore, 1) := by decide +kernel
theorem dX6_put_67 : decode cX6_put 67 = .ok (.return_, 1) := by decide +kernel
theorem dX6_factsFrom_0 : decode cX6_factsFrom 0 = .ok (.iconst 0, 1) := by decide +kernel
theorem dX6_factsFrom_1 : decode cX6_factsFrom 1 = .ok (.istore_n 3, 1) := by decide +kernel
theorem dX6_factsFrom_2 : decode cX6_factsFrom 2 = .ok (.iconst 0, 1) := by decide +kernel
theorem dX6_factsFrom_3 : decode cX6_factsFrom 3 = .ok (.istore 4, 2) := by decide +kernel
theorem dX6_factsFrom_5 : decode cX6_factsFrom 5 = .ok (.iload 4, 2) := by decide +kernel
theorem dX6_factsFrom_7 : decode cX6_factsFrom 7 = .ok (.bipush 6, 2) := by decide +kernel
theorem dX6_factsFrom_9 : decode cX6_factsFrom 9 = .ok (.if_icmp .ge 50, 3) := by decide +kernel
theorem dX6_factsFrom_12 : decode cX6_factsFrom 12 = .ok (.aload_n 0, 1) := by decide +kernel
theorem dX6_factsFrom_13 : decode cX6_factsFrom 13 = .ok (.getfield 13, 3) := by decide +kernel
theorem dX6_factsFrom_16 : decode cX6_factsFrom 16 = .ok (.iload_n 1, 1) := by decide +kernel
theorem dX6_factsFrom_17 : decode cX6_factsFrom 17 = .ok (.aaload, 1) := by decide +kernel
theorem dX6_factsFrom_18 : decode cX6_factsFrom 18 = .ok (.iload_n 2, 1) := by decide +kernel
theorem dX6_factsFrom_19 : decode cX6_factsFrom 19 = .ok (.iload 4, 2) := by decide +kernel
theorem dX6_factsFrom_21 : decode cX6_factsFrom 21 = .ok (.iadd, 1) := by decide +kernel
theorem dX6_factsFrom_22 : decode cX6_factsFrom 22 = .ok (.iaload, 1) := by decide +kernel
theorem dX6_factsFrom_23 : decode cX6_factsFrom 23 = .ok (.istore 5, 2) := by decide +kernel
theorem dX6_factsFrom_25 : decode cX6_factsFrom 25 = .ok (.iload 5, 2) := by decide +kernel
theorem dX6_factsFrom_27 : decode cX6_factsFrom 27 = .ok (.ifCond .lt 13, 3) := by decide +kernel
theorem dX6_factsFrom_30 : decode cX6_factsFrom 30 = .ok (.iload 5, 2) := by decide +kernel
theorem dX6_factsFrom_32 : decode cX6_factsFrom 32 = .ok (.iload 4, 2) := by decide +kernel
theorem dX6_factsFrom_34 : decode cX6_factsFrom 34 = .ok (.invokestatic 29, 3) := by decide +kernel
theorem dX6_factsFrom_37 : decode cX6_factsFrom 37 = .ok (.if_icmp .lt 5, 3) := by decide +kernel
theorem dX6_factsFrom_40 : decode cX6_factsFrom 40 = .ok (.iconst (-1), 1) := by decide +kernel
theorem dX6_factsFrom_41 : decode cX6_factsFrom 41 = .ok (.ireturn, 1) := by decide +kernel
theorem dX6_factsFrom_42 : decode cX6_factsFrom 42 = .ok (.iload_n 3, 1) := by decide +kernel
theorem dX6_factsFrom_43 : decode cX6_factsFrom 43 = .ok (.iload 4, 2) := by decide +kernel
theorem dX6_factsFrom_45 : decode cX6_factsFrom 45 = .ok (.invokestatic 29, 3) := by decide +kernel
theorem dX6_factsFrom_48 : decode cX6_factsFrom 48 = .ok (.imul, 1) := by decide +kernel
theorem dX6_factsFrom_49 : decode cX6_factsFrom 49 = .ok (.iload 5, 2) := by decide +kernel
theorem dX6_factsFrom_51 : decode cX6_factsFrom 51 = .ok (.iadd, 1) := by decide +kernel
theorem dX6_factsFrom_52 : decode cX6_factsFrom 52 = .ok (.istore_n 3, 1) := by decide +kernel
theorem dX6_factsFrom_53 : decode cX6_factsFrom 53 = .ok (.iinc 4 1, 3) := by decide +kernel
theorem dX6_factsFrom_56 : decode cX6_factsFrom 56 = .ok (.goto (-51), 3) := by decide +kernel
theorem dX6_factsFrom_59 : decode cX6_factsFrom 59 = .ok (.iload_n 3, 1) := by decide +kernel
theorem dX6_factsFrom_60 : decode cX6_factsFrom 60 = .ok (.ireturn, 1) := by decide +kernel
theorem dX7_init_0 : decode cX7_init 0 = .ok (.aload_n 0, 1) := by decide +kernel
theorem dX7_init_1 : decode cX7_init 1 = .ok (.invokespecial 3, 3) := by decide +kernel
theorem dX7_init_4 : decode cX7_init 4 = .ok (.aload_n 0, 1) := by decide +kernel
theorem dX7_init_5 : decode cX7_init 5 = .ok (.bipush 24, 2) := by decide +kernel
theorem dX7_init_7 : decode cX7_init 7 = .ok (.newarray .long, 2) := by decide +kernel
theorem dX7_init_9 : decode cX7_init 9 = .ok (.putfield 9, 3) := by decide +kernel
theorem dX7_init_12 : decode cX7_init 12 = .ok (.return_, 1) := by decide +kernel
theorem dX7_clear_0 : decode cX7_clear 0 = .ok (.aload_n 0, 1) := by decide +kernel
theorem dX7_clear_1 : decode cX7_clear 1 = .ok (.getfield 9, 3) := by decide +kernel
theorem dX7_clear_4 : decode cX7_clear 4 = .ok (.lconst 0, 1) := by decide +kernel
theorem dX7_clear_5 : decode cX7_clear 5 = .ok (.invokestatic 15, 3) := by decide +kernel
theorem dX7_clear_8 : decode cX7_clear 8 = .ok (.return_, 1) := by decide +kernel
theorem dX7_put_0 : decode cX7_put 0 = .ok (.iload_n 1, 1) := by decide +kernel
theorem dX7_put_1 : decode cX7_put 1 = .ok (.ifCond .lt 28, 3) := by decide +kernel
theorem dX7_put_4 : decode cX7_put 4 = .ok (.iload_n 1, 1) := by decide +kernel
theorem dX7_put_5 : decode cX7_put 5 = .ok (.sipush 1536, 3) := by decide +kernel
theorem dX7_put_8 : decode cX7_put 8 = .ok (.if_icmp .ge 21, 3) := by decide +kernel
theorem dX7_put_11 : decode cX7_put 11 = .ok (.aload_n 0, 1) := by decide +kernel
theorem dX7_put_12 : decode cX7_put 12 = .ok (.getfield 9, 3) := by decide +kernel
theorem dX7_put_15 : decode cX7_put 15 = .ok (.iload_n 1, 1) := by decide +kernel
theorem dX7_put_16 : decode cX7_put 16 = .ok (.bipush 6, 2) := by decide +kernel
theorem dX7_put_18 : decode cX7_put 18 = .ok (.ishr, 1) := by decide +kernel
theorem dX7_put_19 : decode cX7_put 19 = .ok (.dup2, 1) := by decide +kernel
theorem dX7_put_20 : decode cX7_put 20 = .ok (.laload, 1) := by decide +kernel
theorem dX7_put_21 : decode cX7_put 21 = .ok (.lconst 1, 1) := by decide +kernel
theorem dX7_put_22 : decode cX7_put 22 = .ok (.iload_n 1, 1) := by decide +kernel
theorem dX7_put_23 : decode cX7_put 23 = .ok (.bipush 63, 2) := by decide +kernel
theorem dX7_put_25 : decode cX7_put 25 = .ok (.iand, 1) := by decide +kernel
theorem dX7_put_26 : decode cX7_put 26 = .ok (.lshl, 1) := by decide +kernel
theorem dX7_put_27 : decode cX7_put 27 = .ok (.lor, 1) := by decide +kernel
theorem dX7_put_28 : decode cX7_put 28 = .ok (.lastore, 1) := by decide +kernel
theorem dX7_put_29 : decode cX7_put 29 = .ok (.return_, 1) := by decide +kernel
theorem dX7_has_0 : decode cX7_has 0 = .ok (.iload_n 1, 1) := by decide +kernel
theorem dX7_has_1 : decode cX7_has 1 = .ok (.ifCond .lt 35, 3) := by decide +kernel
theorem dX7_has_4 : decode cX7_has 4 = .ok (.iload_n 1, 1) := by decide +kernel
theorem dX7_has_5 : decode cX7_has 5 = .ok (.sipush 1536, 3) := by decide +kernel
theorem dX7_has_8 : decode cX7_has 8 = .ok (.if_icmp .ge 28, 3) := by decide +kernel
theorem dX7_has_11 : decode cX7_has 11 = .ok (.aload_n 0, 1) := by decide +kernel
theorem dX7_has_12 : decode cX7_has 12 = .ok (.getfield 9, 3) := by decide +kernel
theorem dX7_has_15 : decode cX7_has 15 = .ok (.iload_n 1, 1) := by decide +kernel
theorem dX7_has_16 : decode cX7_has 16 = .ok (.bipush 6, 2) := by decide +kernel
theorem dX7_has_18 : decode cX7_has 18 = .ok (.ishr, 1) := by decide +kernel
theorem dX7_has_19 : decode cX7_has 19 = .ok (.laload, 1) := by decide +kernel
theorem dX7_has_20 : decode cX7_has 20 = .ok (.iload_n 1, 1) := by decide +kernel
theorem dX7_has_21 : decode cX7_has 21 = .ok (.bipush 63, 2) := by decide +kernel
theorem dX7_has_23 : decode cX7_has 23 = .ok (.iand, 1) := by decide +kernel
theorem dX7_has_24 : decode cX7_has 24 = .ok (.lushr, 1) := by decide +kernel
theorem dX7_has_25 : decode cX7_has 25 = .ok (.lconst 1, 1) := by decide +kernel
theorem dX7_has_26 : decode cX7_has 26 = .ok (.land, 1) := by decide +kernel
theorem dX7_has_27 : decode cX7_has 27 = .ok (.lconst 0, 1) := by decide +kernel
theorem dX7_has_28 : decode cX7_has 28 = .ok (.lcmp, 1) := by decide +kernel
theorem dX7_has_29 : decode cX7_has 29 = .ok (.ifCond .eq 7, 3) := by decide +kernel
theorem dX7_has_32 : decode cX7_has 32 = .ok (.iconst 1, 1) := by decide +kernel
theorem dX7_has_33 : decode cX7_has 33 = .ok (.goto 4, 3) := by decide +kernel
theorem dX7_has_36 : decode cX7_has 36 = .ok (.iconst 0, 1) := by decide +kernel
theorem dX7_has_37 : decode cX7_has 37 = .ok (.ireturn, 1) := by decide +kernel
theorem dX7_size_0 : decode cX7_size 0 = .ok (.iconst 0, 1) := by decide +kernel
theorem dX7_size_1 : decode cX7_size 1 = .ok (.istore_n 1, 1) := by decide +kernel
theorem dX7_size_2 : decode cX7_size 2 = .ok (.iconst 0, 1) := by decide +kernel
theorem dX7_size_3 : decode cX7_size 3 = .ok (.istore_n 2, 1) := by decide +kernel
theorem dX7_size_4 : decode cX7_size 4 = .ok (.iload_n 2, 1) := by decide +kernel
theorem dX7_size_5 : decode cX7_size 5 = .ok (.aload_n 0, 1) := by decide +kernel
theorem dX7_size_6 : decode cX7_size 6 = .ok (.getfield 9, 3) := by decide +kernel
theorem dX7_size_9 : decode cX7_size 9 = .ok (.arraylength, 1) := by decide +kernel
theorem dX7_size_10 : decode cX7_size 10 = .ok (.if_icmp .ge 21, 3) := by decide +kernel
theorem dX7_size_13 : decode cX7_size 13 = .ok (.iload_n 1, 1) := by decide +kernel
theorem dX7_size_14 : decode cX7_size 14 = .ok (.aload_n 0, 1) := by decide +kernel
theorem dX7_size_15 : decode cX7_size 15 = .ok (.getfield 9, 3) := by decide +kernel
theorem dX7_size_18 : decode cX7_size 18 = .ok (.iload_n 2, 1) := by decide +kernel
theorem dX7_size_19 : decode cX7_size 19 = .ok (.laload, 1) := by decide +kernel
theorem dX7_size_20 : decode cX7_size 20 = .ok (.invokestatic 21, 3) := by decide +kernel
theorem dX7_size_23 : decode cX7_size 23 = .ok (.iadd, 1) := by decide +kernel
theorem dX7_size_24 : decode cX7_size 24 = .ok (.istore_n 1, 1) := by decide +kernel
theorem dX7_size_25 : decode cX7_size 25 = .ok (.iinc 2 1, 3) := by decide +kernel
theorem dX7_size_28 : decode cX7_size 28 = .ok (.goto (-24), 3) := by decide +kernel
theorem dX7_size_31 : decode cX7_size 31 = .ok (.iload_n 1, 1) := by decide +kernel
theorem dX7_size_32 : decode cX7_size 32 = .ok (.ireturn, 1) := by decide +kernel
theorem dX7_lowest_0 : decode cX7_lowest 0 = .ok (.iconst 0, 1) := by decide +kernel
theorem dX7_lowest_1 : decode cX7_lowest 1 = .ok (.istore_n 1, 1) := by decide +kernel
theorem dX7_lowest_2 : decode cX7_lowest 2 = .ok (.iload_n 1, 1) := by decide +kernel
theorem dX7_lowest_3 : decode cX7_lowest 3 = .ok (.sipush 1536, 3) := by decide +kernel
theorem dX7_lowest_6 : decode cX7_lowest 6 = .ok (.if_icmp .ge 19, 3) := by decide +kernel
theorem dX7_lowest_9 : decode cX7_lowest 9 = .ok (.aload_n 0, 1) := by decide +kernel
theorem dX7_lowest_10 : decode cX7_lowest 10 = .ok (.iload_n 1, 1) := by decide +kernel
theorem dX7_lowest_11 : decode cX7_lowest 11 = .ok (.invokevirtual 27, 3) := by decide +kernel
theorem dX7_lowest_14 : decode cX7_lowest 14 = .ok (.ifCond .eq 5, 3) := by decide +kernel
theorem dX7_lowest_17 : decode cX7_lowest 17 = .ok (.iload_n 1, 1) := by decide +kernel
theorem dX7_lowest_18 : decode cX7_lowest 18 = .ok (.ireturn, 1) := by decide +kernel
theorem dX7_lowest_19 : decode cX7_lowest 19 = .ok (.iinc 1 1, 3) := by decide +kernel
theorem dX7_lowest_22 : decode cX7_lowest 22 = .ok (.goto (-20), 3) := by decide +kernel
theorem dX7_lowest_25 : decode cX7_lowest 25 = .ok (.iconst (-1), 1) := by decide +kernel
theorem dX7_lowest_26 : decode cX7_lowest 26 = .ok (.ireturn, 1) := by decide +kernel
theorem dX7_fieldsThatShow_0 : decode cX7_fieldsThatShow 0 = .ok (.aload_n 0, 1) := by decide +kernel
theorem dX7_fieldsThatShow_1 : decode cX7_fieldsThatShow 1 = .ok (.invokevirtual 31, 3) := by decide +kernel
theorem dX7_fieldsThatShow_4 : decode cX7_fieldsThatShow 4 = .ok (.istore_n 1, 1) := by decide +kernel
theorem dX7_fieldsThatShow_5 : decode cX7_fieldsThatShow 5 = .ok (.iload_n 1, 1) := by decide +kernel
theorem dX7_fieldsThatShow_6 : decode cX7_fieldsThatShow 6 = .ok (.ifCond .ge 5, 3) := by decide +kernel
theorem dX7_fieldsThatShow_9 : decode cX7_fieldsThatShow 9 = .ok (.iconst (-1), 1) := by decide +kernel
theorem dX7_fieldsThatShow_10 : decode cX7_fieldsThatShow 10 = .ok (.ireturn, 1) := by decide +kernel
theorem dX7_fieldsThatShow_11 : decode cX7_fieldsThatShow 11 = .ok (.lconst 0, 1) := by decide +kernel
theorem dX7_fieldsThatShow_12 : decode cX7_fieldsThatShow 12 = .ok (.lstore_n 2, 1) := by decide +kernel
theorem dX7_fieldsThatShow_13 : decode cX7_fieldsThatShow 13 = .ok (.iconst 0, 1) := by decide +kernel
theorem dX7_fieldsThatShow_14 : decode cX7_fieldsThatShow 14 = .ok (.istore 4, 2) := by decide +kernel
theorem dX7_fieldsThatShow_16 : decode cX7_fieldsThatShow 16 = .ok (.iload 4, 2) := by decide +kernel
theorem dX7_fieldsThatShow_18 : decode cX7_fieldsThatShow 18 = .ok (.sipush 1536, 3) := by decide +kernel
theorem dX7_fieldsThatShow_21 : decode cX7_fieldsThatShow 21 = .ok (.if_icmp .ge 29, 3) := by decide +kernel
theorem dX7_fieldsThatShow_24 : decode cX7_fieldsThatShow 24 = .ok (.aload_n 0, 1) := by decide +kernel
theorem dX7_fieldsThatShow_25 : decode cX7_fieldsThatShow 25 = .ok (.iload 4, 2) := by decide +kernel
theorem dX7_fieldsThatShow_27 : decode cX7_fieldsThatShow 27 = .ok (.invokevirtual 27, 3) := by decide +kernel
theorem dX7_fieldsThatShow_30 : decode cX7_fieldsThatShow 30 = .ok (.ifCond .ne 14, 3) := by decide +kernel
theorem dX7_fieldsThatShow_33 : decode cX7_fieldsThatShow 33 = .ok (.lload_n 2, 1) := by decide +kernel
theorem dX7_fieldsThatShow_34 : decode cX7_fieldsThatShow 34 = .ok (.lconst 1, 1) := by decide +kernel
theorem dX7_fieldsThatShow_35 : decode cX7_fieldsThatShow 35 = .ok (.iload_n 1, 1) := by decide +kernel
theorem dX7_fieldsThatShow_36 : decode cX7_fieldsThatShow 36 = .ok (.iload 4, 2) := by decide +kernel
theorem dX7_fieldsThatShow_38 : decode cX7_fieldsThatShow 38 = .ok (.invokestatic 35, 3) := by decide +kernel
theorem dX7_fieldsThatShow_41 : decode cX7_fieldsThatShow 41 = .ok (.lshl, 1) := by decide +kernel
theorem dX7_fieldsThatShow_42 : decode cX7_fieldsThatShow 42 = .ok (.lor, 1) := by decide +kernel
theorem dX7_fieldsThatShow_43 : decode cX7_fieldsThatShow 43 = .ok (.lstore_n 2, 1) := by decide +kernel
theorem dX7_fieldsThatShow_44 : decode cX7_fieldsThatShow 44 = .ok (.iinc 4 1, 3) := by decide +kernel
theorem dX7_fieldsThatShow_47 : decode cX7_fieldsThatShow 47 = .ok (.goto (-31), 3) := by decide +kernel
theorem dX7_fieldsThatShow_50 : decode cX7_fieldsThatShow 50 = .ok (.bipush 63, 2) := by decide +kernel
theorem dX7_fieldsThatShow_52 : decode cX7_fieldsThatShow 52 = .ok (.istore 4, 2) := by decide +kernel
theorem dX7_fieldsThatShow_54 : decode cX7_fieldsThatShow 54 = .ok (.iconst 0, 1) := by decide +kernel
theorem dX7_fieldsThatShow_55 : decode cX7_fieldsThatShow 55 = .ok (.istore 5, 2) := by decide +kernel
theorem dX7_fieldsThatShow_57 : decode cX7_fieldsThatShow 57 = .ok (.iload 5, 2) := by decide +kernel
theorem dX7_fieldsThatShow_59 : decode cX7_fieldsThatShow 59 = .ok (.bipush 63, 2) := by decide +kernel
theorem dX7_fieldsThatShow_61 : decode cX7_fieldsThatShow 61 = .ok (.if_icmp .ge 47, 3) := by decide +kernel
theorem dX7_fieldsThatShow_64 : decode cX7_fieldsThatShow 64 = .ok (.iload 5, 2) := by decide +kernel
theorem dX7_fieldsThatShow_66 : decode cX7_fieldsThatShow 66 = .ok (.invokestatic 39, 3) := by decide +kernel
theorem dX7_fieldsThatShow_69 : decode cX7_fieldsThatShow 69 = .ok (.iload 4, 2) := by decide +kernel
theorem dX7_fieldsThatShow_71 : decode cX7_fieldsThatShow 71 = .ok (.invokestatic 39, 3) := by decide +kernel
theorem dX7_fieldsThatShow_74 : decode cX7_fieldsThatShow 74 = .ok (.if_icmp .ge 7, 3) := by decide +kernel
theorem dX7_fieldsThatShow_77 : decode cX7_fieldsThatShow 77 = .ok (.iconst 1, 1) := by decide +kernel
theorem dX7_fieldsThatShow_78 : decode cX7_fieldsThatShow 78 = .ok (.goto 4, 3) := by decide +kernel
theorem dX7_fieldsThatShow_81 : decode cX7_fieldsThatShow 81 = .ok (.iconst 0, 1) := by decide +kernel
theorem dX7_fieldsThatShow_82 : decode cX7_fieldsThatShow 82 = .ok (.istore 6, 2) := by decide +kernel
theorem dX7_fieldsThatShow_84 : decode cX7_fieldsThatShow 84 = .ok (.iload 6, 2) := by decide +kernel
theorem dX7_fieldsThatShow_86 : decode cX7_fieldsThatShow 86 = .ok (.ifCond .eq 16, 3) := by decide +kernel
theorem dX7_fieldsThatShow_89 : decode cX7_fieldsThatShow 89 = .ok (.iload 5, 2) := by decide +kernel
theorem dX7_fieldsThatShow_91 : decode cX7_fieldsThatShow 91 = .ok (.lload_n 2, 1) := by decide +kernel
theorem dX7_fieldsThatShow_92 : decode cX7_fieldsThatShow 92 = .ok (.invokestatic 44, 3) := by decide +kernel
theorem dX7_fieldsThatShow_95 : decode cX7_fieldsThatShow 95 = .ok (.ifCond .eq 7, 3) := by decide +kernel
theorem dX7_fieldsThatShow_98 : decode cX7_fieldsThatShow 98 = .ok (.iload 5, 2) := by decide +kernel
theorem dX7_fieldsThatShow_100 : decode cX7_fieldsThatShow 100 = .ok (.istore 4, 2) := by decide +kernel
theorem dX7_fieldsThatShow_102 : decode cX7_fieldsThatShow 102 = .ok (.iinc 5 1, 3) := by decide +kernel
theorem dX7_fieldsThatShow_105 : decode cX7_fieldsThatShow 105 = .ok (.goto (-48), 3) := by decide +kernel
theorem dX7_fieldsThatShow_108 : decode cX7_fieldsThatShow 108 = .ok (.iload 4, 2) := by decide +kernel
theorem dX7_fieldsThatShow_110 : decode cX7_fieldsThatShow 110 = .ok (.ireturn, 1) := by decide +kernel
theorem dX7_unlikeFields_0 : decode cX7_unlikeFields 0 = .ok (.iconst 0, 1) := by decide +kernel
theorem dX7_unlikeFields_1 : decode cX7_unlikeFields 1 = .ok (.istore_n 2, 1) := by decide +kernel
theorem dX7_unlikeFields_2 : decode cX7_unlikeFields 2 = .ok (.iconst 0, 1) := by decide +kernel
theorem dX7_unlikeFields_3 : decode cX7_unlikeFields 3 = .ok (.istore_n 3, 1) := by decide +kernel
theorem dX7_unlikeFields_4 : decode cX7_unlikeFields 4 = .ok (.iload_n 3, 1) := by decide +kernel
theorem dX7_unlikeFields_5 : decode cX7_unlikeFields 5 = .ok (.bipush 6, 2) := by decide +kernel
theorem dX7_unlikeFields_7 : decode cX7_unlikeFields 7 = .ok (.if_icmp .ge 28, 3) := by decide +kernel
theorem dX7_unlikeFields_10 : decode cX7_unlikeFields 10 = .ok (.iload_n 0, 1) := by decide +kernel
theorem dX7_unlikeFields_11 : decode cX7_unlikeFields 11 = .ok (.iload_n 3, 1) := by decide +kernel
theorem dX7_unlikeFields_12 : decode cX7_unlikeFields 12 = .ok (.invokestatic 48, 3) := by decide +kernel
theorem dX7_unlikeFields_15 : decode cX7_unlikeFields 15 = .ok (.iload_n 1, 1) := by decide +kernel
theorem dX7_unlikeFields_16 : decode cX7_unlikeFields 16 = .ok (.iload_n 3, 1) := by decide +kernel
theorem dX7_unlikeFields_17 : decode cX7_unlikeFields 17 = .ok (.invokestatic 48, 3) := by decide +kernel
theorem dX7_unlikeFields_20 : decode cX7_unlikeFields 20 = .ok (.if_icmp .eq 9, 3) := by decide +kernel
theorem dX7_unlikeFields_23 : decode cX7_unlikeFields 23 = .ok (.iload_n 2, 1) := by decide +kernel
theorem dX7_unlikeFields_24 : decode cX7_unlikeFields 24 = .ok (.iconst 1, 1) := by decide +kernel
theorem dX7_unlikeFields_25 : decode cX7_unlikeFields 25 = .ok (.iload_n 3, 1) := by decide +kernel
theorem dX7_unlikeFields_26 : decode cX7_unlikeFields 26 = .ok (.ishl, 1) := by decide +kernel
theorem dX7_unlikeFields_27 : decode cX7_unlikeFields 27 = .ok (.ior, 1) := by decide +kernel
theorem dX7_unlikeFields_28 : decode cX7_unlikeFields 28 = .ok (.istore_n 2, 1) := by decide +kernel
theorem dX7_unlikeFields_29 : decode cX7_unlikeFields 29 = .ok (.iinc 3 1, 3) := by decide +kernel
theorem dX7_unlikeFields_32 : decode cX7_unlikeFields 32 = .ok (.goto (-28), 3) := by decide +kernel
theorem dX7_unlikeFields_35 : decode cX7_unlikeFields 35 = .ok (.iload_n 2, 1) := by decide +kernel
theorem dX7_unlikeFields_36 : decode cX7_unlikeFields 36 = .ok (.ireturn, 1) := by decide +kernel
theorem dX7_meetsAll_0 : decode cX7_meetsAll 0 = .ok (.iconst 0, 1) := by decide +kernel
theorem dX7_meetsAll_1 : decode cX7_meetsAll 1 = .ok (.istore_n 3, 1) := by decide +kernel
theorem dX7_meetsAll_2 : decode cX7_meetsAll 2 = .ok (.iload_n 3, 1) := by decide +kernel
theorem dX7_meetsAll_3 : decode cX7_meetsAll 3 = .ok (.bipush 63, 2) := by decide +kernel
theorem dX7_meetsAll_5 : decode cX7_meetsAll 5 = .ok (.if_icmp .gt 27, 3) := by decide +kernel
theorem dX7_meetsAll_8 : decode cX7_meetsAll 8 = .ok (.lload_n 1, 1) := by decide +kernel
theorem dX7_meetsAll_9 : decode cX7_meetsAll 9 = .ok (.iload_n 3, 1) := by decide +kernel
theorem dX7_meetsAll_10 : decode cX7_meetsAll 10 = .ok (.lushr, 1) := by decide +kernel
theorem dX7_meetsAll_11 : decode cX7_meetsAll 11 = .ok (.lconst 1, 1) := by decide +kernel
theorem dX7_meetsAll_12 : decode cX7_meetsAll 12 = .ok (.land, 1) := by decide +kernel
theorem dX7_meetsAll_13 : decode cX7_meetsAll 13 = .ok (.lconst 0, 1) := by decide +kernel
theorem dX7_meetsAll_14 : decode cX7_meetsAll 14 = .ok (.lcmp, 1) := by decide +kernel
theorem dX7_meetsAll_15 : decode cX7_meetsAll 15 = .ok (.ifCond .eq 11, 3) := by decide +kernel
theorem dX7_meetsAll_18 : decode cX7_meetsAll 18 = .ok (.iload_n 3, 1) := by decide +kernel
theorem dX7_meetsAll_19 : decode cX7_meetsAll 19 = .ok (.iload_n 0, 1) := by decide +kernel
theorem dX7_meetsAll_20 : decode cX7_meetsAll 20 = .ok (.iand, 1) := by decide +kernel
theorem dX7_meetsAll_21 : decode cX7_meetsAll 21 = .ok (.ifCond .ne 5, 3) := by decide +kernel
theorem dX7_meetsAll_24 : decode cX7_meetsAll 24 = .ok (.iconst 0, 1) := by decide +kernel
theorem dX7_meetsAll_25 : decode cX7_meetsAll 25 = .ok (.ireturn, 1) := by decide +kernel
theorem dX7_meetsAll_26 : decode cX7_meetsAll 26 = .ok (.iinc 3 1, 3) := by decide +kernel
theorem dX7_meetsAll_29 : decode cX7_meetsAll 29 = .ok (.goto (-27), 3) := by decide +kernel
theorem dX7_meetsAll_32 : decode cX7_meetsAll 32 = .ok (.iconst 1, 1) := by decide +kernel
theorem dX7_meetsAll_33 : decode cX7_meetsAll 33 = .ok (.ireturn, 1) := by decide +kernel
theorem dX8_init_0 : decode cX8_init 0 = .ok (.aload_n 0, 1) := by decide +kernel
theorem dX8_init_1 : decode cX8_init 1 = .ok (.invokespecial 1, 3) := by decide +kernel
theorem dX8_init_4 : decode cX8_init 4 = .ok (.aload_n 0, 1) := by decide +kernel
theorem dX8_init_5 : decode cX8_init 5 = .ok (.bipush 7, 2) := by decide +kernel
theorem dX8_init_7 : decode cX8_init 7 = .ok (.newarray .int, 2) := by decide +kernel
theorem dX8_init_9 : decode cX8_init 9 = .ok (.putfield 9, 3) := by decide +kernel
theorem dX8_init_12 : decode cX8_init 12 = .ok (.aload_n 0, 1) := by decide +kernel
theorem dX8_init_13 : decode cX8_init 13 = .ok (.bipush 9, 2) := by decide +kernel
theorem dX8_init_15 : decode cX8_init 15 = .ok (.bipush 7, 2) := by decide +kernel
theorem dX8_init_17 : decode cX8_init 17 = .ok (.multianewarray 13 2, 4) := by decide +kernel
theorem dX8_init_21 : decode cX8_init 21 = .ok (.putfield 15, 3) := by decide +kernel
theorem dX8_init_24 : decode cX8_init 24 = .ok (.return_, 1) := by decide +kernel
theorem dX8_isFullOfLines_0 : decode cX8_isFullOfLines 0 = .ok (.aload_n 0, 1) := by decide +kernel
theorem dX8_isFullOfLines_1 : decode cX8_isFullOfLines 1 = .ok (.getfield 18, 3) := by decide +kernel
theorem dX8_isFullOfLines_4 : decode cX8_isFullOfLines 4 = .ok (.bipush 7, 2) := by decide +kernel
theorem dX8_isFullOfLines_6 : decode cX8_isFullOfLines 6 = .ok (.if_icmp .lt 7, 3) := by decide +kernel
theorem dX8_isFullOfLines_9 : decode cX8_isFullOfLines 9 = .ok (.iconst 1, 1) := by decide +kernel
theorem dX8_isFullOfLines_10 : decode cX8_isFullOfLines 10 = .ok (.goto 4, 3) := by decide +kernel
theorem dX8_isFullOfLines_13 : decode cX8_isFullOfLines 13 = .ok (.iconst 0, 1) := by decide +kernel
theorem dX8_isFullOfLines_14 : decode cX8_isFullOfLines 14 = .ok (.ireturn, 1) := by decide +kernel
theorem dX8_addLine_0 : decode cX8_addLine 0 = .ok (.aload_n 0, 1) := by decide +kernel
theorem dX8_addLine_1 : decode cX8_addLine 1 = .ok (.getfield 9, 3) := by decide +kernel
theorem dX8_addLine_4 : decode cX8_addLine 4 = .ok (.aload_n 0, 1) := by decide +kernel
theorem dX8_addLine_5 : decode cX8_addLine 5 = .ok (.getfield 18, 3) := by decide +kernel
theorem dX8_addLine_8 : decode cX8_addLine 8 = .ok (.iload_n 1, 1) := by decide +kernel
theorem dX8_addLine_9 : decode cX8_addLine 9 = .ok (.iastore, 1) := by decide +kernel
theorem dX8_addLine_10 : decode cX8_addLine 10 = .ok (.aload_n 0, 1) := by decide +kernel
theorem dX8_addLine_11 : decode cX8_addLine 11 = .ok (.dup, 1) := by decide +kernel
theorem dX8_addLine_12 : decode cX8_addLine 12 = .ok (.getfield 18, 3) := by decide +kernel
theorem dX8_addLine_15 : decode cX8_addLine 15 = .ok (.iconst 1, 1) := by decide +kernel
theorem dX8_addLine_16 : decode cX8_addLine 16 = .ok (.iadd, 1) := by decide +kernel
theorem dX8_addLine_17 : decode cX8_addLine 17 = .ok (.putfield 18, 3) := by decide +kernel
theorem dX8_addLine_20 : decode cX8_addLine 20 = .ok (.aload_n 0, 1) := by decide +kernel
theorem dX8_addLine_21 : decode cX8_addLine 21 = .ok (.getfield 18, 3) := by decide +kernel
theorem dX8_addLine_24 : decode cX8_addLine 24 = .ok (.iconst 1, 1) := by decide +kernel
theorem dX8_addLine_25 : decode cX8_addLine 25 = .ok (.isub, 1) := by decide +kernel
theorem dX8_addLine_26 : decode cX8_addLine 26 = .ok (.ireturn, 1) := by decide +kernel
theorem dX8_isFullOfSections_0 : decode cX8_isFullOfSections 0 = .ok (.aload_n 0, 1) := by decide +kernel
theorem dX8_isFullOfSections_1 : decode cX8_isFullOfSections 1 = .ok (.getfield 22, 3) := by decide +kernel
theorem dX8_isFullOfSections_4 : decode cX8_isFullOfSections 4 = .ok (.bipush 9, 2) := by decide +kernel
theorem dX8_isFullOfSections_6 : decode cX8_isFullOfSections 6 = .ok (.if_icmp .lt 7, 3) := by decide +kernel
theorem dX8_isFullOfSections_9 : decode cX8_isFullOfSections 9 = .ok (.iconst 1, 1) := by decide +kernel
theorem dX8_isFullOfSections_10 : decode cX8_isFullOfSections 10 = .ok (.goto 4, 3) := by decide +kernel
theorem dX8_isFullOfSections_13 : decode cX8_isFullOfSections 13 = .ok (.iconst 0, 1) := by decide +kernel
theorem dX8_isFullOfSections_14 : decode cX8_isFullOfSections 14 = .ok (.ireturn, 1) := by decide +kernel
theorem dX8_addSection_0 : decode cX8_addSection 0 = .ok (.aload_n 0, 1) := by decide +kernel
theorem dX8_addSection_1 : decode cX8_addSection 1 = .ok (.dup, 1) := by decide +kernel
theorem dX8_addSection_2 : decode cX8_addSection 2 = .ok (.getfield 22, 3) := by decide +kernel
theorem dX8_addSection_5 : decode cX8_addSection 5 = .ok (.iconst 1, 1) := by decide +kernel
theorem dX8_addSection_6 : decode cX8_addSection 6 = .ok (.iadd, 1) := by decide +kernel
theorem dX8_addSection_7 : decode cX8_addSection 7 = .ok (.putfield 22, 3) := by decide +kernel
theorem dX8_addSection_10 : decode cX8_addSection 10 = .ok (.aload_n 0, 1) := by decide +kernel
theorem dX8_addSection_11 : decode cX8_addSection 11 = .ok (.getfield 22, 3) := by decide +kernel
theorem dX8_addSection_14 : decode cX8_addSection 14 = .ok (.iconst 1, 1) := by decide +kernel
theorem dX8_addSection_15 : decode cX8_addSection 15 = .ok (.isub, 1) := by decide +kernel
theorem dX8_addSection_16 : decode cX8_addSection 16 = .ok (.ireturn, 1) := by decide +kernel
theorem dX8_isSet_0 : decode cX8_isSet 0 = .ok (.iload_n 1, 1) := by decide +kernel
theorem dX8_isSet_1 : decode cX8_isSet 1 = .ok (.ifCond .lt 16, 3) := by decide +kernel
theorem dX8_isSet_4 : decode cX8_isSet 4 = .ok (.iload_n 1, 1) := by decide +kernel
theorem dX8_isSet_5 : decode cX8_isSet 5 = .ok (.aload_n 0, 1) := by decide +kernel
theorem dX8_isSet_6 : decode cX8_isSet 6 = .ok (.getfield 18, 3) := by decide +kernel
theorem dX8_isSet_9 : decode cX8_isSet 9 = .ok (.ishr, 1) := by decide +kernel
theorem dX8_isSet_10 : decode cX8_isSet 10 = .ok (.ifCond .ne 7, 3) := by decide +kernel
theorem dX8_isSet_13 : decode cX8_isSet 13 = .ok (.iconst 1, 1) := by decide +kernel
theorem dX8_isSet_14 : decode cX8_isSet 14 = .ok (.goto 4, 3) := by decide +kernel
theorem dX8_isSet_17 : decode cX8_isSet 17 = .ok (.iconst 0, 1) := by decide +kernel
theorem dX8_isSet_18 : decode cX8_isSet 18 = .ok (.ireturn, 1) := by decide +kernel
theorem dX8_sectionsFor_0 : decode cX8_sectionsFor 0 = .ok (.iconst 0, 1) := by decide +kernel
theorem dX8_sectionsFor_1 : decode cX8_sectionsFor 1 = .ok (.istore_n 2, 1) := by decide +kernel
theorem dX8_sectionsFor_2 : decode cX8_sectionsFor 2 = .ok (.iconst 0, 1) := by decide +kernel
theorem dX8_sectionsFor_3 : decode cX8_sectionsFor 3 = .ok (.istore_n 3, 1) := by decide +kernel
theorem dX8_sectionsFor_4 : decode cX8_sectionsFor 4 = .ok (.iload_n 3, 1) := by decide +kernel
theorem dX8_sectionsFor_5 : decode cX8_sectionsFor 5 = .ok (.aload_n 0, 1) := by decide +kernel
theorem dX8_sectionsFor_6 : decode cX8_sectionsFor 6 = .ok (.getfield 22, 3) := by decide +kernel
theorem dX8_sectionsFor_9 : decode cX8_sectionsFor 9 = .ok (.if_icmp .ge 21, 3) := by decide +kernel
theorem dX8_sectionsFor_12 : decode cX8_sectionsFor 12 = .ok (.aload_n 0, 1) := by decide +kernel
theorem dX8_sectionsFor_13 : decode cX8_sectionsFor 13 = .ok (.iload_n 3, 1) := by decide +kernel
theorem dX8_sectionsFor_14 : decode cX8_sectionsFor 14 = .ok (.iload_n 1, 1) := by decide +kernel
theorem dX8_sectionsFor_15 : decode cX8_sectionsFor 15 = .ok (.invokevirtual 25, 3) := by decide +kernel
theorem dX8_sectionsFor_18 : decode cX8_sectionsFor 18 = .ok (.ifCond .lt 6, 3) := by decide +kernel
theorem dX8_sectionsFor_21 : decode cX8_sectionsFor 21 = .ok (.iinc 2 1, 3) := by decide +kernel
theorem dX8_sectionsFor_24 : decode cX8_sectionsFor 24 = .ok (.iinc 3 1, 3) := by decide +kernel
theorem dX8_sectionsFor_27 : decode cX8_sectionsFor 27 = .ok (.goto (-23), 3) := by decide +kernel
theorem dX8_sectionsFor_30 : decode cX8_sectionsFor 30 = .ok (.iload_n 2, 1) := by decide +kernel
theorem dX8_sectionsFor_31 : decode cX8_sectionsFor 31 = .ok (.ireturn, 1) := by decide +kernel
theorem dX8_leastYielding_0 : decode cX8_leastYielding 0 = .ok (.iconst (-1), 1) := by decide +kernel
theorem dX8_leastYielding_1 : decode cX8_leastYielding 1 = .ok (.istore_n 1, 1) := by decide +kernel
theorem dX8_leastYielding_2 : decode cX8_leastYielding 2 = .ok (.iconst 0, 1) := by decide +kernel
theorem dX8_leastYielding_3 : decode cX8_leastYielding 3 = .ok (.istore_n 2, 1) := by decide +kernel
theorem dX8_leastYielding_4 : decode cX8_leastYielding 4 = .ok (.iload_n 2, 1) := by decide +kernel
theorem dX8_leastYielding_5 : decode cX8_leastYielding 5 = .ok (.iconst 1, 1) := by decide +kernel
theorem dX8_leastYielding_6 : decode cX8_leastYielding 6 = .ok (.aload_n 0, 1) := by decide +kernel
theorem dX8_leastYielding_7 : decode cX8_leastYielding 7 = .ok (.getfield 18, 3) := by decide +kernel
theorem dX8_leastYielding_10 : decode cX8_leastYielding 10 = .ok (.ishl, 1) := by decide +kernel
theorem dX8_leastYielding_11 : decode cX8_leastYielding 11 = .ok (.if_icmp .ge 48, 3) := by decide +kernel
theorem dX8_leastYielding_14 : decode cX8_leastYielding 14 = .ok (.aload_n 0, 1) := by decide +kernel
theorem dX8_leastYielding_15 : decode cX8_leastYielding 15 = .ok (.iload_n 2, 1) := by decide +kernel
theorem dX8_leastYielding_16 : decode cX8_leastYielding 16 = .ok (.invokevirtual 29, 3) := by decide +kernel
theorem dX8_leastYielding_19 : decode cX8_leastYielding 19 = .ok (.iconst 2, 1) := by decide +kernel
theorem dX8_leastYielding_20 : decode cX8_leastYielding 20 = .ok (.imul, 1) := by decide +kernel
theorem dX8_leastYielding_21 : decode cX8_leastYielding 21 = .ok (.aload_n 0, 1) := by decide +kernel
theorem dX8_leastYielding_22 : decode cX8_leastYielding 22 = .ok (.getfield 22, 3) := by decide +kernel
theorem dX8_leastYielding_25 : decode cX8_leastYielding 25 = .ok (.if_icmp .le 7, 3) := by decide +kernel
theorem dX8_leastYielding_28 : decode cX8_leastYielding 28 = .ok (.iconst 1, 1) := by decide +kernel
theorem dX8_leastYielding_29 : decode cX8_leastYielding 29 = .ok (.goto 4, 3) := by decide +kernel
theorem dX8_leastYielding_32 : decode cX8_leastYielding 32 = .ok (.iconst 0, 1) := by decide +kernel
theorem dX8_leastYielding_33 : decode cX8_leastYielding 33 = .ok (.istore_n 3, 1) := by decide +kernel
theorem dX8_leastYielding_34 : decode cX8_leastYielding 34 = .ok (.iload_n 3, 1) := by decide +kernel
theorem dX8_leastYielding_35 : decode cX8_leastYielding 35 = .ok (.ifCond .eq 18, 3) := by decide +kernel
theorem dX8_leastYielding_38 : decode cX8_leastYielding 38 = .ok (.iload_n 1, 1) := by decide +kernel
theorem dX8_leastYielding_39 : decode cX8_leastYielding 39 = .ok (.ifCond .lt 12, 3) := by decide +kernel
theorem dX8_leastYielding_42 : decode cX8_leastYielding 42 = .ok (.aload_n 0, 1) := by decide +kernel
theorem dX8_leastYielding_43 : decode cX8_leastYielding 43 = .ok (.iload_n 2, 1) := by decide +kernel
theorem dX8_leastYielding_44 : decode cX8_leastYielding 44 = .ok (.iload_n 1, 1) := by decide +kernel
theorem dX8_leastYielding_45 : decode cX8_leastYielding 45 = .ok (.invokevirtual 33, 3) := by decide +kernel
theorem dX8_leastYielding_48 : decode cX8_leastYielding 48 = .ok (.ifCond .eq 5, 3) := by decide +kernel
theorem dX8_leastYielding_51 : decode cX8_leastYielding 51 = .ok (.iload_n 2, 1) := by decide +kernel
theorem dX8_leastYielding_52 : decode cX8_leastYielding 52 = .ok (.istore_n 1, 1) := by decide +kernel
theorem dX8_leastYielding_53 : decode cX8_leastYielding 53 = .ok (.iinc 2 1, 3) := by decide +kernel
theorem dX8_leastYielding_56 : decode cX8_leastYielding 56 = .ok (.goto (-52), 3) := by decide +kernel
theorem dX8_leastYielding_59 : decode cX8_leastYielding 59 = .ok (.iload_n 1, 1) := by decide +kernel
theorem dX8_leastYielding_60 : decode cX8_leastYielding 60 = .ok (.ireturn, 1) := by decide +kernel
theorem dX8_costOf_0 : decode cX8_costOf 0 = .ok (.iconst 0, 1) := by decide +kernel
theorem dX8_costOf_1 : decode cX8_costOf 1 = .ok (.istore_n 2, 1) := by decide +kernel
theorem dX8_costOf_2 : decode cX8_costOf 2 = .ok (.iconst 0, 1) := by decide +kernel
theorem dX8_costOf_3 : decode cX8_costOf 3 = .ok (.istore_n 3, 1) := by decide +kernel
theorem dX8_costOf_4 : decode cX8_costOf 4 = .ok (.iload_n 3, 1) := by decide +kernel
theorem dX8_costOf_5 : decode cX8_costOf 5 = .ok (.aload_n 0, 1) := by decide +kernel
theorem dX8_costOf_6 : decode cX8_costOf 6 = .ok (.getfield 18, 3) := by decide +kernel
theorem dX8_costOf_9 : decode cX8_costOf 9 = .ok (.if_icmp .ge 26, 3) := by decide +kernel
theorem dX8_costOf_12 : decode cX8_costOf 12 = .ok (.iload_n 1, 1) := by decide +kernel
theorem dX8_costOf_13 : decode cX8_costOf 13 = .ok (.iload_n 3, 1) := by decide +kernel
theorem dX8_costOf_14 : decode cX8_costOf 14 = .ok (.ishr, 1) := by decide +kernel
theorem dX8_costOf_15 : decode cX8_costOf 15 = .ok (.iconst 1, 1) := by decide +kernel
theorem dX8_costOf_16 : decode cX8_costOf 16 = .ok (.iand, 1) := by decide +kernel
theorem dX8_costOf_17 : decode cX8_costOf 17 = .ok (.ifCond .eq 12, 3) := by decide +kernel
theorem dX8_costOf_20 : decode cX8_costOf 20 = .ok (.iload_n 2, 1) := by decide +kernel
theorem dX8_costOf_21 : decode cX8_costOf 21 = .ok (.aload_n 0, 1) := by decide +kernel
theorem dX8_costOf_22 : decode cX8_costOf 22 = .ok (.getfield 9, 3) := by decide +kernel
theorem dX8_costOf_25 : decode cX8_costOf 25 = .ok (.iload_n 3, 1) := by decide +kernel
theorem dX8_costOf_26 : decode cX8_costOf 26 = .ok (.iaload, 1) := by decide +kernel
theorem dX8_costOf_27 : decode cX8_costOf 27 = .ok (.iadd, 1) := by decide +kernel
theorem dX8_costOf_28 : decode cX8_costOf 28 = .ok (.istore_n 2, 1) := by decide +kernel
theorem dX8_costOf_29 : decode cX8_costOf 29 = .ok (.iinc 3 1, 3) := by decide +kernel
theorem dX8_costOf_32 : decode cX8_costOf 32 = .ok (.goto (-28), 3) := by decide +kernel
theorem dX8_costOf_35 : decode cX8_costOf 35 = .ok (.iload_n 2, 1) := by decide +kernel
theorem dX8_costOf_36 : decode cX8_costOf 36 = .ok (.ireturn, 1) := by decide +kernel
theorem dX8_yieldsLess_0 : decode cX8_yieldsLess 0 = .ok (.aload_n 0, 1) := by decide +kernel
theorem dX8_yieldsLess_1 : decode cX8_yieldsLess 1 = .ok (.iload_n 1, 1) := by decide +kernel
theorem dX8_yieldsLess_2 : decode cX8_yieldsLess 2 = .ok (.invokevirtual 37, 3) := by decide +kernel
theorem dX8_yieldsLess_5 : decode cX8_yieldsLess 5 = .ok (.istore_n 3, 1) := by decide +kernel
theorem dX8_yieldsLess_6 : decode cX8_yieldsLess 6 = .ok (.aload_n 0, 1) := by decide +kernel
theorem dX8_yieldsLess_7 : decode cX8_yieldsLess 7 = .ok (.iload_n 2, 1) := by decide +kernel
theorem dX8_yieldsLess_8 : decode cX8_yieldsLess 8 = .ok (.invokevirtual 37, 3) := by decide +kernel
theorem dX8_yieldsLess_11 : decode cX8_yieldsLess 11 = .ok (.istore 4, 2) := by decide +kernel
theorem dX8_yieldsLess_13 : decode cX8_yieldsLess 13 = .ok (.iload_n 3, 1) := by decide +kernel
theorem dX8_yieldsLess_14 : decode cX8_yieldsLess 14 = .ok (.iload 4, 2) := by decide +kernel
theorem dX8_yieldsLess_16 : decode cX8_yieldsLess 16 = .ok (.if_icmp .lt 20, 3) := by decide +kernel
theorem dX8_yieldsLess_19 : decode cX8_yieldsLess 19 = .ok (.iload_n 3, 1) := by decide +kernel
theorem dX8_yieldsLess_20 : decode cX8_yieldsLess 20 = .ok (.iload 4, 2) := by decide +kernel
theorem dX8_yieldsLess_22 : decode cX8_yieldsLess 22 = .ok (.if_icmp .ne 18, 3) := by decide +kernel
theorem dX8_yieldsLess_25 : decode cX8_yieldsLess 25 = .ok (.iload_n 1, 1) := by decide +kernel
theorem dX8_yieldsLess_26 : decode cX8_yieldsLess 26 = .ok (.invokestatic 40, 3) := by decide +kernel
theorem dX8_yieldsLess_29 : decode cX8_yieldsLess 29 = .ok (.iload_n 2, 1) := by decide +kernel
theorem dX8_yieldsLess_30 : decode cX8_yieldsLess 30 = .ok (.invokestatic 40, 3) := by decide +kernel
theorem dX8_yieldsLess_33 : decode cX8_yieldsLess 33 = .ok (.if_icmp .ge 7, 3) := by decide +kernel
theorem dX8_yieldsLess_36 : decode cX8_yieldsLess 36 = .ok (.iconst 1, 1) := by decide +kernel
theorem dX8_yieldsLess_37 : decode cX8_yieldsLess 37 = .ok (.goto 4, 3) := by decide +kernel
theorem dX8_yieldsLess_40 : decode cX8_yieldsLess 40 = .ok (.iconst 0, 1) := by decide +kernel
theorem dX8_yieldsLess_41 : decode cX8_yieldsLess 41 = .ok (.ireturn, 1) := by decide +kernel
theorem dX8_likingOf_0 : decode cX8_likingOf 0 = .ok (.iconst 0, 1) := by decide +kernel
theorem dX8_likingOf_1 : decode cX8_likingOf 1 = .ok (.istore_n 3, 1) := by decide +kernel
theorem dX8_likingOf_2 : decode cX8_likingOf 2 = .ok (.iconst 0, 1) := by decide +kernel
theorem dX8_likingOf_3 : decode cX8_likingOf 3 = .ok (.istore 4, 2) := by decide +kernel
theorem dX8_likingOf_5 : decode cX8_likingOf 5 = .ok (.iload 4, 2) := by decide +kernel
theorem dX8_likingOf_7 : decode cX8_likingOf 7 = .ok (.aload_n 0, 1) := by decide +kernel
theorem dX8_likingOf_8 : decode cX8_likingOf 8 = .ok (.getfield 18, 3) := by decide +kernel
theorem dX8_likingOf_11 : decode cX8_likingOf 11 = .ok (.if_icmp .ge 30, 3) := by decide +kernel
theorem dX8_likingOf_14 : decode cX8_likingOf 14 = .ok (.iload_n 2, 1) := by decide +kernel
theorem dX8_likingOf_15 : decode cX8_likingOf 15 = .ok (.iload 4, 2) := by decide +kernel
theorem dX8_likingOf_17 : decode cX8_likingOf 17 = .ok (.ishr, 1) := by decide +kernel
theorem dX8_likingOf_18 : decode cX8_likingOf 18 = .ok (.iconst 1, 1) := by decide +kernel
theorem dX8_likingOf_19 : decode cX8_likingOf 19 = .ok (.iand, 1) := by decide +kernel
theorem dX8_likingOf_20 : decode cX8_likingOf 20 = .ok (.ifCond .ne 15, 3) := by decide +kernel
theorem dX8_likingOf_23 : decode cX8_likingOf 23 = .ok (.iload_n 3, 1) := by decide +kernel
theorem dX8_likingOf_24 : decode cX8_likingOf 24 = .ok (.aload_n 0, 1) := by decide +kernel
theorem dX8_likingOf_25 : decode cX8_likingOf 25 = .ok (.getfield 15, 3) := by decide +kernel
theorem dX8_likingOf_28 : decode cX8_likingOf 28 = .ok (.iload_n 1, 1) := by decide +kernel
theorem dX8_likingOf_29 : decode cX8_likingOf 29 = .ok (.aaload, 1) := by decide +kernel
theorem dX8_likingOf_30 : decode cX8_likingOf 30 = .ok (.iload 4, 2) := by decide +kernel
theorem dX8_likingOf_32 : decode cX8_likingOf 32 = .ok (.iaload, 1) := by decide +kernel
theorem dX8_likingOf_33 : decode cX8_likingOf 33 = .ok (.iadd, 1) := by decide +kernel
theorem dX8_likingOf_34 : decode cX8_likingOf 34 = .ok (.istore_n 3, 1) := by decide +kernel
theorem dX8_likingOf_35 : decode cX8_likingOf 35 = .ok (.iinc 4 1, 3) := by decide +kernel
theorem dX8_likingOf_38 : decode cX8_likingOf 38 = .ok (.goto (-33), 3) := by decide +kernel
theorem dX8_likingOf_41 : decode cX8_likingOf 41 = .ok (.iload_n 3, 1) := by decide +kernel
theorem dX8_likingOf_42 : decode cX8_likingOf 42 = .ok (.ireturn, 1) := by decide +kernel
theorem dX9_init_0 : decode cX9_init 0 = .ok (.aload_n 0, 1) := by decide +kernel
theorem dX9_init_1 : decode cX9_init 1 = .ok (.invokespecial 3, 3) := by decide +kernel
theorem dX9_init_4 : decode cX9_init 4 = .ok (.aload_n 0, 1) := by decide +kernel
theorem dX9_init_5 : decode cX9_init 5 = .ok (.iconst 5, 1) := by decide +kernel
theorem dX9_init_6 : decode cX9_init 6 = .ok (.newarray .int, 2) := by decide +kernel
theorem dX9_init_8 : decode cX9_init 8 = .ok (.putfield 11, 3) := by decide +kernel
theorem dX9_init_11 : decode cX9_init 11 = .ok (.aload_n 0, 1) := by decide +kernel
theorem dX9_init_12 : decode cX9_init 12 = .ok (.iconst 5, 1) := by decide +kernel
theorem dX9_init_13 : decode cX9_init 13 = .ok (.newarray .int, 2) := by decide +kernel
theorem dX9_init_15 : decode cX9_init 15 = .ok (.putfield 15, 3) := by decide +kernel
theorem dX9_init_18 : decode cX9_init 18 = .ok (.aload_n 0, 1) := by decide +kernel
theorem dX9_init_19 : decode cX9_init 19 = .ok (.iconst 5, 1) := by decide +kernel
theorem dX9_init_20 : decode cX9_init 20 = .ok (.newarray .boolean, 2) := by decide +kernel
theorem dX9_init_22 : decode cX9_init 22 = .ok (.putfield 18, 3) := by decide +kernel
theorem dX9_init_25 : decode cX9_init 25 = .ok (.aload_n 0, 1) := by decide +kernel
theorem dX9_init_26 : decode cX9_init 26 = .ok (.new 22, 3) := by decide +kernel
theorem dX9_init_29 : decode cX9_init 29 = .ok (.dup, 1) := by decide +kernel
theorem dX9_init_30 : decode cX9_init 30 = .ok (.invokespecial 24, 3) := by decide +kernel
theorem dX9_init_33 : decode cX9_init 33 = .ok (.putfield 25, 3) := by decide +kernel
theorem dX9_init_36 : decode cX9_init 36 = .ok (.aload_n 0, 1) := by decide +kernel
theorem dX9_init_37 : decode cX9_init 37 = .ok (.aload_n 1, 1) := by decide +kernel
theorem dX9_init_38 : decode cX9_init 38 = .ok (.putfield 29, 3) := by decide +kernel
theorem dX9_init_41 : decode cX9_init 41 = .ok (.return_, 1) := by decide +kernel
theorem dX9_readTape_0 : decode cX9_readTape 0 = .ok (.aload_n 0, 1) := by decide +kernel
theorem dX9_readTape_1 : decode cX9_readTape 1 = .ok (.iload_n 1, 1) := by decide +kernel
theorem dX9_readTape_2 : decode cX9_readTape 2 = .ok (.aload_n 0, 1) := by decide +kernel
theorem dX9_readTape_3 : decode cX9_readTape 3 = .ok (.getfield 29, 3) := by decide +kernel
theorem dX9_readTape_6 : decode cX9_readTape 6 = .ok (.arraylength, 1) := by decide +kernel
theorem dX9_readTape_7 : decode cX9_readTape 7 = .ok (.invokestatic 32, 3) := by decide +kernel
theorem dX9_readTape_10 : decode cX9_readTape 10 = .ok (.putfield 38, 3) := by decide +kernel
theorem dX9_readTape_13 : decode cX9_readTape 13 = .ok (.aload_n 0, 1) := by decide +kernel
theorem dX9_readTape_14 : decode cX9_readTape 14 = .ok (.iconst 0, 1) := by decide +kernel
theorem dX9_readTape_15 : decode cX9_readTape 15 = .ok (.putfield 42, 3) := by decide +kernel
theorem dX9_readTape_18 : decode cX9_readTape 18 = .ok (.aload_n 0, 1) := by decide +kernel
theorem dX9_readTape_19 : decode cX9_readTape 19 = .ok (.iconst 0, 1) := by decide +kernel
theorem dX9_readTape_20 : decode cX9_readTape 20 = .ok (.putfield 45, 3) := by decide +kernel
theorem dX9_readTape_23 : decode cX9_readTape 23 = .ok (.aload_n 0, 1) := by decide +kernel
theorem dX9_readTape_24 : decode cX9_readTape 24 = .ok (.iconst 0, 1) := by decide +kernel
theorem dX9_readTape_25 : decode cX9_readTape 25 = .ok (.putfield 48, 3) := by decide +kernel
theorem dX9_readTape_28 : decode cX9_readTape 28 = .ok (.aload_n 0, 1) := by decide +kernel
theorem dX9_readTape_29 : decode cX9_readTape 29 = .ok (.invokevirtual 52, 3) := by decide +kernel
theorem dX9_readTape_32 : decode cX9_readTape 32 = .ok (.ifCond .eq 21, 3) := by decide +kernel
theorem dX9_readTape_35 : decode cX9_readTape 35 = .ok (.aload_n 0, 1) := by decide +kernel
theorem dX9_readTape_36 : decode cX9_readTape 36 = .ok (.getfield 42, 3) := by decide +kernel
theorem dX9_readTape_39 : decode cX9_readTape 39 = .ok (.aload_n 0, 1) := by decide +kernel
theorem dX9_readTape_40 : decode cX9_readTape 40 = .ok (.getfield 38, 3) := by decide +kernel
theorem dX9_readTape_43 : decode cX9_readTape 43 = .ok (.if_icmp .ge 15, 3) := by decide +kernel
theorem dX9_readTape_46 : decode cX9_readTape 46 = .ok (.aload_n 0, 1) := by decide +kernel
theorem dX9_readTape_47 : decode cX9_readTape 47 = .ok (.invokevirtual 56, 3) := by decide +kernel
theorem dX9_readTape_50 : decode cX9_readTape 50 = .ok (.ifCond .ne 8, 3) := by decide +kernel
theorem dX9_readTape_53 : decode cX9_readTape 53 = .ok (.aload_n 0, 1) := by decide +kernel
theorem dX9_readTape_54 : decode cX9_readTape 54 = .ok (.getfield 42, 3) := by decide +kernel
theorem dX9_readTape_57 : decode cX9_readTape 57 = .ok (.ireturn, 1) := by decide +kernel
theorem dX9_readTape_58 : decode cX9_readTape 58 = .ok (.aload_n 0, 1) := by decide +kernel
theorem dX9_readTape_59 : decode cX9_readTape 59 = .ok (.invokevirtual 59, 3) := by decide +kernel
theorem dX9_readTape_62 : decode cX9_readTape 62 = .ok (.iconst (-1), 1) := by decide +kernel
theorem dX9_readTape_63 : decode cX9_readTape 63 = .ok (.ireturn, 1) := by decide +kernel
theorem dX9_addTo_0 : decode cX9_addTo 0 = .ok (.aload_n 0, 1) := by decide +kernel
theorem dX9_addTo_1 : decode cX9_addTo 1 = .ok (.getfield 25, 3) := by decide +kernel
theorem dX9_addTo_4 : decode cX9_addTo 4 = .ok (.iload_n 3, 1) := by decide +kernel
theorem dX9_addTo_5 : decode cX9_addTo 5 = .ok (.invokevirtual 62, 3) := by decide +kernel
theorem dX9_addTo_8 : decode cX9_addTo 8 = .ok (.ifCond .eq 15, 3) := by decide +kernel
theorem dX9_addTo_11 : decode cX9_addTo 11 = .ok (.iload_n 1, 1) := by decide +kernel
theorem dX9_addTo_12 : decode cX9_addTo 12 = .ok (.iload_n 2, 1) := by decide +kernel
theorem dX9_addTo_13 : decode cX9_addTo 13 = .ok (.aload_n 0, 1) := by decide +kernel
theorem dX9_addTo_14 : decode cX9_addTo 14 = .ok (.getfield 66, 3) := by decide +kernel
theorem dX9_addTo_17 : decode cX9_addTo 17 = .ok (.invokestatic 69, 3) := by decide +kernel
theorem dX9_addTo_20 : decode cX9_addTo 20 = .ok (.goto 4, 3) := by decide +kernel
theorem dX9_addTo_23 : decode cX9_addTo 23 = .ok (.iload_n 1, 1) := by decide +kernel
theorem dX9_addTo_24 : decode cX9_addTo 24 = .ok (.ireturn, 1) := by decide +kernel
theorem dX9_readEnd_0 : decode cX9_readEnd 0 = .ok (.aload_n 0, 1) := by decide +kernel
theorem dX9_readEnd_1 : decode cX9_readEnd 1 = .ok (.invokevirtual 73, 3) := by decide +kernel
theorem dX9_readEnd_4 : decode cX9_readEnd 4 = .ok (.lookupswitch 112 #[(104, 56), (111, 68), (116, 90), (118, 44)], 44) := by decide +kernel
theorem dX9_readEnd_48 : decode cX9_readEnd 48 = .ok (.aload_n 0, 1) := by decide +kernel
theorem dX9_readEnd_49 : decode cX9_readEnd 49 = .ok (.iconst 0, 1) := by decide +kernel
theorem dX9_readEnd_50 : decode cX9_readEnd 50 = .ok (.putfield 66, 3) := by decide +kernel
theorem dX9_readEnd_53 : decode cX9_readEnd 53 = .ok (.aload_n 0, 1) := by decide +kernel
theorem dX9_readEnd_54 : decode cX9_readEnd 54 = .ok (.ldc 77, 2) := by decide +kernel
theorem dX9_readEnd_56 : decode cX9_readEnd 56 = .ok (.invokevirtual 79, 3) := by decide +kernel
theorem dX9_readEnd_59 : decode cX9_readEnd 59 = .ok (.ireturn, 1) := by decide +kernel
theorem dX9_readEnd_60 : decode cX9_readEnd 60 = .ok (.aload_n 0, 1) := by decide +kernel
theorem dX9_readEnd_61 : decode cX9_readEnd 61 = .ok (.iconst 1, 1) := by decide +kernel
theorem dX9_readEnd_62 : decode cX9_readEnd 62 = .ok (.putfield 66, 3) := by decide +kernel
theorem dX9_readEnd_65 : decode cX9_readEnd 65 = .ok (.aload_n 0, 1) := by decide +kernel
theorem dX9_readEnd_66 : decode cX9_readEnd 66 = .ok (.ldc 83, 2) := by decide +kernel
theorem dX9_readEnd_68 : decode cX9_readEnd 68 = .ok (.invokevirtual 79, 3) := by decide +kernel
theorem dX9_readEnd_71 : decode cX9_readEnd 71 = .ok (.ireturn, 1) := by decide +kernel
theorem dX9_readEnd_72 : decode cX9_readEnd 72 = .ok (.aload_n 0, 1) := by decide +kernel
theorem dX9_readEnd_73 : decode cX9_readEnd 73 = .ok (.ldc 85, 2) := by decide +kernel
theorem dX9_readEnd_75 : decode cX9_readEnd 75 = .ok (.invokevirtual 79, 3) := by decide +kernel
theorem dX9_readEnd_78 : decode cX9_readEnd 78 = .ok (.ifCond .eq 14, 3) := by decide +kernel
theorem dX9_readEnd_81 : decode cX9_readEnd 81 = .ok (.aload_n 0, 1) := by decide +kernel
theorem dX9_readEnd_82 : decode cX9_readEnd 82 = .ok (.invokevirtual 87, 3) := by decide +kernel
theorem dX9_readEnd_85 : decode cX9_readEnd 85 = .ok (.ifCond .eq 7, 3) := by decide +kernel
theorem dX9_readEnd_88 : decode cX9_readEnd 88 = .ok (.iconst 1, 1) := by decide +kernel
theorem dX9_readEnd_89 : decode cX9_readEnd 89 = .ok (.goto 4, 3) := by decide +kernel
theorem dX9_readEnd_92 : decode cX9_readEnd 92 = .ok (.iconst 0, 1) := by decide +kernel
theorem dX9_readEnd_93 : decode cX9_readEnd 93 = .ok (.ireturn, 1) := by decide +kernel
theorem dX9_readEnd_94 : decode cX9_readEnd 94 = .ok (.aload_n 0, 1) := by decide +kernel
theorem dX9_readEnd_95 : decode cX9_readEnd 95 = .ok (.ldc 90, 2) := by decide +kernel
theorem dX9_readEnd_97 : decode cX9_readEnd 97 = .ok (.invokevirtual 79, 3) := by decide +kernel
theorem dX9_readEnd_100 : decode cX9_readEnd 100 = .ok (.ifCond .eq 14, 3) := by decide +kernel
theorem dX9_readEnd_103 : decode cX9_readEnd 103 = .ok (.aload_n 0, 1) := by decide +kernel
theorem dX9_readEnd_104 : decode cX9_readEnd 104 = .ok (.invokevirtual 92, 3) := by decide +kernel
theorem dX9_readEnd_107 : decode cX9_readEnd 107 = .ok (.ifCond .eq 7, 3) := by decide +kernel
theorem dX9_readEnd_110 : decode cX9_readEnd 110 = .ok (.iconst 1, 1) := by decide +kernel
theorem dX9_readEnd_111 : decode cX9_readEnd 111 = .ok (.goto 4, 3) := by decide +kernel
theorem dX9_readEnd_114 : decode cX9_readEnd 114 = .ok (.iconst 0, 1) := by decide +kernel
theorem dX9_readEnd_115 : decode cX9_readEnd 115 = .ok (.ireturn, 1) := by decide +kernel
theorem dX9_readEnd_116 : decode cX9_readEnd 116 = .ok (.iconst 0, 1) := by decide +kernel
theorem dX9_readEnd_117 : decode cX9_readEnd 117 = .ok (.ireturn, 1) := by decide +kernel
theorem dX9_readOwed_0 : decode cX9_readOwed 0 = .ok (.aload_n 0, 1) := by decide +kernel
theorem dX9_readOwed_1 : decode cX9_readOwed 1 = .ok (.bipush 57, 2) := by decide +kernel
theorem dX9_readOwed_3 : decode cX9_readOwed 3 = .ok (.invokevirtual 95, 3) := by decide +kernel
theorem dX9_readOwed_6 : decode cX9_readOwed 6 = .ok (.istore_n 1, 1) := by decide +kernel
theorem dX9_readOwed_7 : decode cX9_readOwed 7 = .ok (.iload_n 1, 1) := by decide +kernel
theorem dX9_readOwed_8 : decode cX9_readOwed 8 = .ok (.ifCond .ge 5, 3) := by decide +kernel
theorem dX9_readOwed_11 : decode cX9_readOwed 11 = .ok (.iconst 0, 1) := by decide +kernel
theorem dX9_readOwed_12 : decode cX9_readOwed 12 = .ok (.ireturn, 1) := by decide +kernel
theorem dX9_readOwed_13 : decode cX9_readOwed 13 = .ok (.aload_n 0, 1) := by decide +kernel
theorem dX9_readOwed_14 : decode cX9_readOwed 14 = .ok (.bipush 57, 2) := by decide +kernel
theorem dX9_readOwed_16 : decode cX9_readOwed 16 = .ok (.invokevirtual 95, 3) := by decide +kernel
theorem dX9_readOwed_19 : decode cX9_readOwed 19 = .ok (.istore_n 2, 1) := by decide +kernel
theorem dX9_readOwed_20 : decode cX9_readOwed 20 = .ok (.aload_n 0, 1) := by decide +kernel
theorem dX9_readOwed_21 : decode cX9_readOwed 21 = .ok (.bipush 100, 2) := by decide +kernel
theorem dX9_readOwed_23 : decode cX9_readOwed 23 = .ok (.iload_n 2, 1) := by decide +kernel
theorem dX9_readOwed_24 : decode cX9_readOwed 24 = .ok (.ifCond .ge 7, 3) := by decide +kernel
theorem dX9_readOwed_27 : decode cX9_readOwed 27 = .ok (.iload_n 1, 1) := by decide +kernel
theorem dX9_readOwed_28 : decode cX9_readOwed 28 = .ok (.goto 9, 3) := by decide +kernel
theorem dX9_readOwed_31 : decode cX9_readOwed 31 = .ok (.iload_n 1, 1) := by decide +kernel
theorem dX9_readOwed_32 : decode cX9_readOwed 32 = .ok (.bipush 10, 2) := by decide +kernel
theorem dX9_readOwed_34 : decode cX9_readOwed 34 = .ok (.imul, 1) := by decide +kernel
theorem dX9_readOwed_35 : decode cX9_readOwed 35 = .ok (.iload_n 2, 1) := by decide +kernel
theorem dX9_readOwed_36 : decode cX9_readOwed 36 = .ok (.iadd, 1) := by decide +kernel
theorem dX9_readOwed_37 : decode cX9_readOwed 37 = .ok (.iadd, 1) := by decide +kernel
theorem dX9_readOwed_38 : decode cX9_readOwed 38 = .ok (.putfield 66, 3) := by decide +kernel
theorem dX9_readOwed_41 : decode cX9_readOwed 41 = .ok (.iconst 1, 1) := by decide +kernel
theorem dX9_readOwed_42 : decode cX9_readOwed 42 = .ok (.ireturn, 1) := by decide +kernel
theorem dX9_readGoes_0 : decode cX9_readGoes 0 = .ok (.aload_n 0, 1) := by decide +kernel
theorem dX9_readGoes_1 : decode cX9_readGoes 1 = .ok (.bipush 51, 2) := by decide +kernel
theorem dX9_readGoes_3 : decode cX9_readGoes 3 = .ok (.invokevirtual 95, 3) := by decide +kernel
theorem dX9_readGoes_6 : decode cX9_readGoes 6 = .ok (.istore_n 1, 1) := by decide +kernel
theorem dX9_readGoes_7 : decode cX9_readGoes 7 = .ok (.aload_n 0, 1) := by decide +kernel
theorem dX9_readGoes_8 : decode cX9_readGoes 8 = .ok (.sipush 200, 3) := by decide +kernel
theorem dX9_readGoes_11 : decode cX9_readGoes 11 = .ok (.iload_n 1, 1) := by decide +kernel
theorem dX9_readGoes_12 : decode cX9_readGoes 12 = .ok (.iadd, 1) := by decide +kernel
theorem dX9_readGoes_13 : decode cX9_readGoes 13 = .ok (.putfield 66, 3) := by decide +kernel
theorem dX9_readGoes_16 : decode cX9_readGoes 16 = .ok (.iload_n 1, 1) := by decide +kernel
theorem dX9_readGoes_17 : decode cX9_readGoes 17 = .ok (.ifCond .lt 7, 3) := by decide +kernel
theorem dX9_readGoes_20 : decode cX9_readGoes 20 = .ok (.iconst 1, 1) := by decide +kernel
theorem dX9_readGoes_21 : decode cX9_readGoes 21 = .ok (.goto 4, 3) := by decide +kernel
theorem dX9_readGoes_24 : decode cX9_readGoes 24 = .ok (.iconst 0, 1) := by decide +kernel
theorem dX9_readGoes_25 : decode cX9_readGoes 25 = .ok (.ireturn, 1) := by decide +kernel
theorem dX9_readCondition_0 : decode cX9_readCondition 0 = .ok (.aload_n 0, 1) := by decide +kernel
theorem dX9_readCondition_1 : decode cX9_readCondition 1 = .ok (.ldc 99, 2) := by decide +kernel
theorem dX9_readCondition_3 : decode cX9_readCondition 3 = .ok (.invokevirtual 79, 3) := by decide +kernel
theorem dX9_readCondition_6 : decode cX9_readCondition 6 = .ok (.ifCond .ne 5, 3) := by decide +kernel
theorem dX9_readCondition_9 : decode cX9_readCondition 9 = .ok (.iconst 0, 1) := by decide +kernel
theorem dX9_readCondition_10 : decode cX9_readCondition 10 = .ok (.ireturn, 1) := by decide +kernel
theorem dX9_readCondition_11 : decode cX9_readCondition 11 = .ok (.aload_n 0, 1) := by decide +kernel
theorem dX9_readCondition_12 : decode cX9_readCondition 12 = .ok (.aload_n 0, 1) := by decide +kernel
theorem dX9_readCondition_13 : decode cX9_readCondition 13 = .ok (.invokevirtual 73, 3) := by decide +kernel
theorem dX9_readCondition_16 : decode cX9_readCondition 16 = .ok (.bipush 117, 2) := by decide +kernel
theorem dX9_readCondition_18 : decode cX9_readCondition 18 = .ok (.if_icmp .ne 7, 3) := by decide +kernel
theorem dX9_readCondition_21 : decode cX9_readCondition 21 = .ok (.iconst 1, 1) := by decide +kernel
theorem dX9_readCondition_22 : decode cX9_readCondition 22 = .ok (.goto 4, 3) := by decide +kernel
theorem dX9_readCondition_25 : decode cX9_readCondition 25 = .ok (.iconst 0, 1) := by decide +kernel
theorem dX9_readCondition_26 : decode cX9_readCondition 26 = .ok (.putfield 48, 3) := by decide +kernel
theorem dX9_readCondition_29 : decode cX9_readCondition 29 = .ok (.aload_n 0, 1) := by decide +kernel
theorem dX9_readCondition_30 : decode cX9_readCondition 30 = .ok (.aload_n 0, 1) := by decide +kernel
theorem dX9_readCondition_31 : decode cX9_readCondition 31 = .ok (.getfield 48, 3) := by decide +kernel
theorem dX9_readCondition_34 : decode cX9_readCondition 34 = .ok (.ifCond .eq 8, 3) := by decide +kernel
theorem dX9_readCondition_37 : decode cX9_readCondition 37 = .ok (.ldc 101, 2) := by decide +kernel
theorem dX9_readCondition_39 : decode cX9_readCondition 39 = .ok (.goto 5, 3) := by decide +kernel
theorem dX9_readCondition_42 : decode cX9_readCondition 42 = .ok (.ldc 103, 2) := by decide +kernel
theorem dX9_readCondition_44 : decode cX9_readCondition 44 = .ok (.invokevirtual 79, 3) := by decide +kernel
theorem dX9_readCondition_47 : decode cX9_readCondition 47 = .ok (.ifCond .eq 15, 3) := by decide +kernel
theorem dX9_readCondition_50 : decode cX9_readCondition 50 = .ok (.aload_n 0, 1) := by decide +kernel
theorem dX9_readCondition_51 : decode cX9_readCondition 51 = .ok (.iconst 0, 1) := by decide +kernel
theorem dX9_readCondition_52 : decode cX9_readCondition 52 = .ok (.invokevirtual 105, 3) := by decide +kernel
theorem dX9_readCondition_55 : decode cX9_readCondition 55 = .ok (.ifCond .eq 7, 3) := by decide +kernel
theorem dX9_readCondition_58 : decode cX9_readCondition 58 = .ok (.iconst 1, 1) := by decide +kernel
theorem dX9_readCondition_59 : decode cX9_readCondition 59 = .ok (.goto 4, 3) := by decide +kernel
theorem dX9_readCondition_62 : decode cX9_readCondition 62 = .ok (.iconst 0, 1) := by decide +kernel
theorem dX9_readCondition_63 : decode cX9_readCondition 63 = .ok (.istore_n 1, 1) := by decide +kernel
theorem dX9_readCondition_64 : decode cX9_readCondition 64 = .ok (.iconst 1, 1) := by decide +kernel
theorem dX9_readCondition_65 : decode cX9_readCondition 65 = .ok (.istore_n 2, 1) := by decide +kernel
theorem dX9_readCondition_66 : decode cX9_readCondition 66 = .ok (.iload_n 2, 1) := by decide +kernel
theorem dX9_readCondition_67 : decode cX9_readCondition 67 = .ok (.iconst 5, 1) := by decide +kernel
theorem dX9_readCondition_68 : decode cX9_readCondition 68 = .ok (.if_icmp .ge 29, 3) := by decide +kernel
theorem dX9_readCondition_71 : decode cX9_readCondition 71 = .ok (.iload_n 1, 1) := by decide +kernel
theorem dX9_readCondition_72 : decode cX9_readCondition 72 = .ok (.ifCond .eq 25, 3) := by decide +kernel
theorem dX9_readCondition_75 : decode cX9_readCondition 75 = .ok (.aload_n 0, 1) := by decide +kernel
theorem dX9_readCondition_76 : decode cX9_readCondition 76 = .ok (.getfield 42, 3) := by decide +kernel
theorem dX9_readCondition_79 : decode cX9_readCondition 79 = .ok (.aload_n 0, 1) := by decide +kernel
theorem dX9_readCondition_80 : decode cX9_readCondition 80 = .ok (.getfield 38, 3) := by decide +kernel
theorem dX9_readCondition_83 : decode cX9_readCondition 83 = .ok (.if_icmp .ge 14, 3) := by decide +kernel
theorem dX9_readCondition_86 : decode cX9_readCondition 86 = .ok (.aload_n 0, 1) := by decide +kernel
theorem dX9_readCondition_87 : decode cX9_readCondition 87 = .ok (.invokevirtual 109, 3) := by decide +kernel
theorem dX9_readCondition_90 : decode cX9_readCondition 90 = .ok (.istore_n 1, 1) := by decide +kernel
theorem dX9_readCondition_91 : decode cX9_readCondition 91 = .ok (.iinc 2 1, 3) := by decide +kernel
theorem dX9_readCondition_94 : decode cX9_readCondition 94 = .ok (.goto (-28), 3) := by decide +kernel
theorem dX9_readCondition_97 : decode cX9_readCondition 97 = .ok (.iload_n 1, 1) := by decide +kernel
theorem dX9_readCondition_98 : decode cX9_readCondition 98 = .ok (.ifCond .eq 18, 3) := by decide +kernel
theorem dX9_readCondition_101 : decode cX9_readCondition 101 = .ok (.aload_n 0, 1) := by decide +kernel
theorem dX9_readCondition_102 : decode cX9_readCondition 102 = .ok (.getfield 42, 3) := by decide +kernel
theorem dX9_readCondition_105 : decode cX9_readCondition 105 = .ok (.aload_n 0, 1) := by decide +kernel
theorem dX9_readCondition_106 : decode cX9_readCondition 106 = .ok (.getfield 38, 3) := by decide +kernel
theorem dX9_readCondition_109 : decode cX9_readCondition 109 = .ok (.if_icmp .ne 7, 3) := by decide +kernel
theorem dX9_readCondition_112 : decode cX9_readCondition 112 = .ok (.iconst 1, 1) := by decide +kernel
theorem dX9_readCondition_113 : decode cX9_readCondition 113 = .ok (.goto 4, 3) := by decide +kernel
theorem dX9_readCondition_116 : decode cX9_readCondition 116 = .ok (.iconst 0, 1) := by decide +kernel
theorem dX9_readCondition_117 : decode cX9_readCondition 117 = .ok (.ireturn, 1) := by decide +kernel
theorem dX9_readLink_0 : decode cX9_readLink 0 = .ok (.aload_n 0, 1) := by decide +kernel
theorem dX9_readLink_1 : decode cX9_readLink 1 = .ok (.ldc 99, 2) := by decide +kernel
theorem dX9_readLink_3 : decode cX9_readLink 3 = .ok (.invokevirtual 79, 3) := by decide +kernel
theorem dX9_readLink_6 : decode cX9_readLink 6 = .ok (.ifCond .ne 5, 3) := by decide +kernel
theorem dX9_readLink_9 : decode cX9_readLink 9 = .ok (.iconst 0, 1) := by decide +kernel
theorem dX9_readLink_10 : decode cX9_readLink 10 = .ok (.ireturn, 1) := by decide +kernel
theorem dX9_readLink_11 : decode cX9_readLink 11 = .ok (.aload_n 0, 1) := by decide +kernel
theorem dX9_readLink_12 : decode cX9_readLink 12 = .ok (.invokevirtual 73, 3) := by decide +kernel
theorem dX9_readLink_15 : decode cX9_readLink 15 = .ok (.bipush 111, 2) := by decide +kernel
theorem dX9_readLink_17 : decode cX9_readLink 17 = .ok (.if_icmp .ne 7, 3) := by decide +kernel
theorem dX9_readLink_20 : decode cX9_readLink 20 = .ok (.iconst 1, 1) := by decide +kernel
theorem dX9_readLink_21 : decode cX9_readLink 21 = .ok (.goto 4, 3) := by decide +kernel
theorem dX9_readLink_24 : decode cX9_readLink 24 = .ok (.iconst 0, 1) := by decide +kernel
theorem dX9_readLink_25 : decode cX9_readLink 25 = .ok (.istore_n 1, 1) := by decide +kernel
theorem dX9_readLink_26 : decode cX9_readLink 26 = .ok (.aload_n 0, 1) := by decide +kernel
theorem dX9_readLink_27 : decode cX9_readLink 27 = .ok (.iload_n 1, 1) := by decide +kernel
theorem dX9_readLink_28 : decode cX9_readLink 28 = .ok (.ifCond .eq 8, 3) := by decide +kernel
theorem dX9_readLink_31 : decode cX9_readLink 31 = .ok (.ldc 112, 2) := by decide +kernel
theorem dX9_readLink_33 : decode cX9_readLink 33 = .ok (.goto 5, 3) := by decide +kernel
theorem dX9_readLink_36 : decode cX9_readLink 36 = .ok (.ldc 114, 2) := by decide +kernel
theorem dX9_readLink_38 : decode cX9_readLink 38 = .ok (.invokevirtual 79, 3) := by decide +kernel
theorem dX9_readLink_41 : decode cX9_readLink 41 = .ok (.ifCond .eq 15, 3) := by decide +kernel
theorem dX9_readLink_44 : decode cX9_readLink 44 = .ok (.aload_n 0, 1) := by decide +kernel
theorem dX9_readLink_45 : decode cX9_readLink 45 = .ok (.iload_n 1, 1) := by decide +kernel
theorem dX9_readLink_46 : decode cX9_readLink 46 = .ok (.invokevirtual 105, 3) := by decide +kernel
theorem dX9_readLink_49 : decode cX9_readLink 49 = .ok (.ifCond .eq 7, 3) := by decide +kernel
theorem dX9_readLink_52 : decode cX9_readLink 52 = .ok (.iconst 1, 1) := by decide +kernel
theorem dX9_readLink_53 : decode cX9_readLink 53 = .ok (.goto 4, 3) := by decide +kernel
theorem dX9_readLink_56 : decode cX9_readLink 56 = .ok (.iconst 0, 1) := by decide +kernel
theorem dX9_readLink_57 : decode cX9_readLink 57 = .ok (.ireturn, 1) := by decide +kernel
theorem dX9_readTest_0 : decode cX9_readTest 0 = .ok (.aload_n 0, 1) := by decide +kernel
theorem dX9_readTest_1 : decode cX9_readTest 1 = .ok (.invokevirtual 73, 3) := by decide +kernel
theorem dX9_readTest_4 : decode cX9_readTest 4 = .ok (.bipush 110, 2) := by decide +kernel
theorem dX9_readTest_6 : decode cX9_readTest 6 = .ok (.if_icmp .ne 7, 3) := by decide +kernel
theorem dX9_readTest_9 : decode cX9_readTest 9 = .ok (.iconst 1, 1) := by decide +kernel
theorem dX9_readTest_10 : decode cX9_readTest 10 = .ok (.goto 4, 3) := by decide +kernel
theorem dX9_readTest_13 : decode cX9_readTest 13 = .ok (.iconst 0, 1) := by decide +kernel
theorem dX9_readTest_14 : decode cX9_readTest 14 = .ok (.istore_n 2, 1) := by decide +kernel
theorem dX9_readTest_15 : decode cX9_readTest 15 = .ok (.iload_n 2, 1) := by decide +kernel
theorem dX9_readTest_16 : decode cX9_readTest 16 = .ok (.ifCond .eq 14, 3) := by decide +kernel
theorem dX9_readTest_19 : decode cX9_readTest 19 = .ok (.aload_n 0, 1) := by decide +kernel
theorem dX9_readTest_20 : decode cX9_readTest 20 = .ok (.ldc 116, 2) := by decide +kernel
theorem dX9_readTest_22 : decode cX9_readTest 22 = .ok (.invokevirtual 79, 3) := by decide +kernel
theorem dX9_readTest_25 : decode cX9_readTest 25 = .ok (.ifCond .ne 5, 3) := by decide +kernel
theorem dX9_readTest_28 : decode cX9_readTest 28 = .ok (.iconst 0, 1) := by decide +kernel
theorem dX9_readTest_29 : decode cX9_readTest 29 = .ok (.ireturn, 1) := by decide +kernel
theorem dX9_readTest_30 : decode cX9_readTest 30 = .ok (.aload_n 0, 1) := by decide +kernel
theorem dX9_readTest_31 : decode cX9_readTest 31 = .ok (.invokevirtual 73, 3) := by decide +kernel
theorem dX9_readTest_34 : decode cX9_readTest 34 = .ok (.invokestatic 118, 3) := by decide +kernel
theorem dX9_readTest_37 : decode cX9_readTest 37 = .ok (.istore_n 3, 1) := by decide +kernel
theorem dX9_readTest_38 : decode cX9_readTest 38 = .ok (.iload_n 3, 1) := by decide +kernel
theorem dX9_readTest_39 : decode cX9_readTest 39 = .ok (.ifCond .lt 14, 3) := by decide +kernel
theorem dX9_readTest_42 : decode cX9_readTest 42 = .ok (.aload_n 0, 1) := by decide +kernel
theorem dX9_readTest_43 : decode cX9_readTest 43 = .ok (.iload_n 3, 1) := by decide +kernel
theorem dX9_readTest_44 : decode cX9_readTest 44 = .ok (.invokestatic 122, 3) := by decide +kernel
theorem dX9_readTest_47 : decode cX9_readTest 47 = .ok (.invokevirtual 79, 3) := by decide +kernel
theorem dX9_readTest_50 : decode cX9_readTest 50 = .ok (.ifCond .ne 5, 3) := by decide +kernel
theorem dX9_readTest_53 : decode cX9_readTest 53 = .ok (.iconst 0, 1) := by decide +kernel
theorem dX9_readTest_54 : decode cX9_readTest 54 = .ok (.ireturn, 1) := by decide +kernel
theorem dX9_readTest_55 : decode cX9_readTest 55 = .ok (.aload_n 0, 1) := by decide +kernel
theorem dX9_readTest_56 : decode cX9_readTest 56 = .ok (.invokevirtual 73, 3) := by decide +kernel
theorem dX9_readTest_59 : decode cX9_readTest 59 = .ok (.invokestatic 126, 3) := by decide +kernel
theorem dX9_readTest_62 : decode cX9_readTest 62 = .ok (.istore 4, 2) := by decide +kernel
theorem dX9_readTest_64 : decode cX9_readTest 64 = .ok (.iload 4, 2) := by decide +kernel
theorem dX9_readTest_66 : decode cX9_readTest 66 = .ok (.ifCond .ge 5, 3) := by decide +kernel
theorem dX9_readTest_69 : decode cX9_readTest 69 = .ok (.iconst 0, 1) := by decide +kernel
theorem dX9_readTest_70 : decode cX9_readTest 70 = .ok (.ireturn, 1) := by decide +kernel
theorem dX9_readTest_71 : decode cX9_readTest 71 = .ok (.aload_n 0, 1) := by decide +kernel
theorem dX9_readTest_72 : decode cX9_readTest 72 = .ok (.dup, 1) := by decide +kernel
theorem dX9_readTest_73 : decode cX9_readTest 73 = .ok (.getfield 42, 3) := by decide +kernel
theorem dX9_readTest_76 : decode cX9_readTest 76 = .ok (.iconst 1, 1) := by decide +kernel
theorem dX9_readTest_77 : decode cX9_readTest 77 = .ok (.iadd, 1) := by decide +kernel
theorem dX9_readTest_78 : decode cX9_readTest 78 = .ok (.putfield 42, 3) := by decide +kernel
theorem dX9_readTest_81 : decode cX9_readTest 81 = .ok (.aload_n 0, 1) := by decide +kernel
theorem dX9_readTest_82 : decode cX9_readTest 82 = .ok (.bipush 57, 2) := by decide +kernel
theorem dX9_readTest_84 : decode cX9_readTest 84 = .ok (.invokevirtual 95, 3) := by decide +kernel
theorem dX9_readTest_87 : decode cX9_readTest 87 = .ok (.istore 5, 2) := by decide +kernel
theorem dX9_readTest_89 : decode cX9_readTest 89 = .ok (.iload 5, 2) := by decide +kernel
theorem dX9_readTest_91 : decode cX9_readTest 91 = .ok (.ifCond .lt 11, 3) := by decide +kernel
theorem dX9_readTest_94 : decode cX9_readTest 94 = .ok (.aload_n 0, 1) := by decide +kernel
theorem dX9_readTest_95 : decode cX9_readTest 95 = .ok (.getfield 45, 3) := by decide +kernel
theorem dX9_readTest_98 : decode cX9_readTest 98 = .ok (.iconst 5, 1) := by decide +kernel
theorem dX9_readTest_99 : decode cX9_readTest 99 = .ok (.if_icmp .lt 5, 3) := by decide +kernel
theorem dX9_readTest_102 : decode cX9_readTest 102 = .ok (.iconst 0, 1) := by decide +kernel
theorem dX9_readTest_103 : decode cX9_readTest 103 = .ok (.ireturn, 1) := by decide +kernel
theorem dX9_readTest_104 : decode cX9_readTest 104 = .ok (.aload_n 0, 1) := by decide +kernel
theorem dX9_readTest_105 : decode cX9_readTest 105 = .ok (.getfield 11, 3) := by decide +kernel
theorem dX9_readTest_108 : decode cX9_readTest 108 = .ok (.aload_n 0, 1) := by decide +kernel
theorem dX9_readTest_109 : decode cX9_readTest 109 = .ok (.getfield 45, 3) := by decide +kernel
theorem dX9_readTest_112 : decode cX9_readTest 112 = .ok (.iload_n 3, 1) := by decide +kernel
theorem dX9_readTest_113 : decode cX9_readTest 113 = .ok (.iastore, 1) := by decide +kernel
theorem dX9_readTest_114 : decode cX9_readTest 114 = .ok (.aload_n 0, 1) := by decide +kernel
theorem dX9_readTest_115 : decode cX9_readTest 115 = .ok (.getfield 15, 3) := by decide +kernel
theorem dX9_readTest_118 : decode cX9_readTest 118 = .ok (.aload_n 0, 1) := by decide +kernel
theorem dX9_readTest_119 : decode cX9_readTest 119 = .ok (.getfield 45, 3) := by decide +kernel
theorem dX9_readTest_122 : decode cX9_readTest 122 = .ok (.iload 4, 2) := by decide +kernel
theorem dX9_readTest_124 : decode cX9_readTest 124 = .ok (.iload 5, 2) := by decide +kernel
theorem dX9_readTest_126 : decode cX9_readTest 126 = .ok (.iload_n 2, 1) := by decide +kernel
theorem dX9_readTest_127 : decode cX9_readTest 127 = .ok (.invokestatic 129, 3) := by decide +kernel
theorem dX9_readTest_130 : decode cX9_readTest 130 = .ok (.iastore, 1) := by decide +kernel
theorem dX9_readTest_131 : decode cX9_readTest 131 = .ok (.aload_n 0, 1) := by decide +kernel
theorem dX9_readTest_132 : decode cX9_readTest 132 = .ok (.getfield 18, 3) := by decide +kernel
theorem dX9_readTest_135 : decode cX9_readTest 135 = .ok (.aload_n 0, 1) := by decide +kernel
theorem dX9_readTest_136 : decode cX9_readTest 136 = .ok (.getfield 45, 3) := by decide +kernel
theorem dX9_readTest_139 : decode cX9_readTest 139 = .ok (.iload_n 1, 1) := by decide +kernel
theorem dX9_readTest_140 : decode cX9_readTest 140 = .ok (.bastore, 1) := by decide +kernel
theorem dX9_readTest_141 : decode cX9_readTest 141 = .ok (.aload_n 0, 1) := by decide +kernel
theorem dX9_readTest_142 : decode cX9_readTest 142 = .ok (.dup, 1) := by decide +kernel
theorem dX9_readTest_143 : decode cX9_readTest 143 = .ok (.getfield 45, 3) := by decide +kernel
theorem dX9_readTest_146 : decode cX9_readTest 146 = .ok (.iconst 1, 1) := by decide +kernel
theorem dX9_readTest_147 : decode cX9_readTest 147 = .ok (.iadd, 1) := by decide +kernel
theorem dX9_readTest_148 : decode cX9_readTest 148 = .ok (.putfield 45, 3) := by decide +kernel
theorem dX9_readTest_151 : decode cX9_readTest 151 = .ok (.iconst 1, 1) := by decide +kernel
theorem dX9_readTest_152 : decode cX9_readTest 152 = .ok (.ireturn, 1) := by decide +kernel
theorem dX9_valuesFor_0 : decode cX9_valuesFor 0 = .ok (.iconst 0, 1) := by decide +kernel
theorem dX9_valuesFor_1 : decode cX9_valuesFor 1 = .ok (.istore_n 3, 1) := by decide +kernel
theorem dX9_valuesFor_2 : decode cX9_valuesFor 2 = .ok (.iconst 0, 1) := by decide +kernel
theorem dX9_valuesFor_3 : decode cX9_valuesFor 3 = .ok (.istore 4, 2) := by decide +kernel
theorem dX9_valuesFor_5 : decode cX9_valuesFor 5 = .ok (.iload 4, 2) := by decide +kernel
theorem dX9_valuesFor_7 : decode cX9_valuesFor 7 = .ok (.iconst 4, 1) := by decide +kernel
theorem dX9_valuesFor_8 : decode cX9_valuesFor 8 = .ok (.if_icmp .ge 27, 3) := by decide +kernel
theorem dX9_valuesFor_11 : decode cX9_valuesFor 11 = .ok (.iload 4, 2) := by decide +kernel
theorem dX9_valuesFor_13 : decode cX9_valuesFor 13 = .ok (.iload_n 0, 1) := by decide +kernel
theorem dX9_valuesFor_14 : decode cX9_valuesFor 14 = .ok (.iload_n 1, 1) := by decide +kernel
theorem dX9_valuesFor_15 : decode cX9_valuesFor 15 = .ok (.invokestatic 133, 3) := by decide +kernel
theorem dX9_valuesFor_18 : decode cX9_valuesFor 18 = .ok (.iload_n 2, 1) := by decide +kernel
theorem dX9_valuesFor_19 : decode cX9_valuesFor 19 = .ok (.if_icmp .eq 10, 3) := by decide +kernel
theorem dX9_valuesFor_22 : decode cX9_valuesFor 22 = .ok (.iload_n 3, 1) := by decide +kernel
theorem dX9_valuesFor_23 : decode cX9_valuesFor 23 = .ok (.iconst 1, 1) := by decide +kernel
theorem dX9_valuesFor_24 : decode cX9_valuesFor 24 = .ok (.iload 4, 2) := by decide +kernel
theorem dX9_valuesFor_26 : decode cX9_valuesFor 26 = .ok (.ishl, 1) := by decide +kernel
theorem dX9_valuesFor_27 : decode cX9_valuesFor 27 = .ok (.ior, 1) := by decide +kernel
theorem dX9_valuesFor_28 : decode cX9_valuesFor 28 = .ok (.istore_n 3, 1) := by decide +kernel
theorem dX9_valuesFor_29 : decode cX9_valuesFor 29 = .ok (.iinc 4 1, 3) := by decide +kernel
theorem dX9_valuesFor_32 : decode cX9_valuesFor 32 = .ok (.goto (-27), 3) := by decide +kernel
theorem dX9_valuesFor_35 : decode cX9_valuesFor 35 = .ok (.iload_n 3, 1) := by decide +kernel
theorem dX9_valuesFor_36 : decode cX9_valuesFor 36 = .ok (.ireturn, 1) := by decide +kernel
theorem dX9_fieldBegunBy_0 : decode cX9_fieldBegunBy 0 = .ok (.iconst 0, 1) := by decide +kernel
theorem dX9_fieldBegunBy_1 : decode cX9_fieldBegunBy 1 = .ok (.istore_n 1, 1) := by decide +kernel
theorem dX9_fieldBegunBy_2 : decode cX9_fieldBegunBy 2 = .ok (.iload_n 1, 1) := by decide +kernel
theorem dX9_fieldBegunBy_3 : decode cX9_fieldBegunBy 3 = .ok (.bipush 6, 2) := by decide +kernel
theorem dX9_fieldBegunBy_5 : decode cX9_fieldBegunBy 5 = .ok (.if_icmp .ge 23, 3) := by decide +kernel
theorem dX9_fieldBegunBy_8 : decode cX9_fieldBegunBy 8 = .ok (.iload_n 1, 1) := by decide +kernel
theorem dX9_fieldBegunBy_9 : decode cX9_fieldBegunBy 9 = .ok (.invokestatic 122, 3) := by decide +kernel
theorem dX9_fieldBegunBy_12 : decode cX9_fieldBegunBy 12 = .ok (.iconst 0, 1) := by decide +kernel
theorem dX9_fieldBegunBy_13 : decode cX9_fieldBegunBy 13 = .ok (.invokevirtual 137, 3) := by decide +kernel
theorem dX9_fieldBegunBy_16 : decode cX9_fieldBegunBy 16 = .ok (.iload_n 0, 1) := by decide +kernel
theorem dX9_fieldBegunBy_17 : decode cX9_fieldBegunBy 17 = .ok (.if_icmp .ne 5, 3) := by decide +kernel
theorem dX9_fieldBegunBy_20 : decode cX9_fieldBegunBy 20 = .ok (.iload_n 1, 1) := by decide +kernel
theorem dX9_fieldBegunBy_21 : decode cX9_fieldBegunBy 21 = .ok (.ireturn, 1) := by decide +kernel
theorem dX9_fieldBegunBy_22 : decode cX9_fieldBegunBy 22 = .ok (.iinc 1 1, 3) := by decide +kernel
theorem dX9_fieldBegunBy_25 : decode cX9_fieldBegunBy 25 = .ok (.goto (-23), 3) := by decide +kernel
theorem dX9_fieldBegunBy_28 : decode cX9_fieldBegunBy 28 = .ok (.iconst (-1), 1) := by decide +kernel
theorem dX9_fieldBegunBy_29 : decode cX9_fieldBegunBy 29 = .ok (.ireturn, 1) := by decide +kernel
theorem dX9_signOf_0 : decode cX9_signOf 0 = .ok (.iload_n 0, 1) := by decide +kernel
theorem dX9_signOf_1 : decode cX9_signOf 1 = .ok (.tableswitch 33 60 62 #[27, 29, 31], 27) := by decide +kernel
theorem dX9_signOf_28 : decode cX9_signOf 28 = .ok (.iconst 0, 1) := by decide +kernel
theorem dX9_signOf_29 : decode cX9_signOf 29 = .ok (.ireturn, 1) := by decide +kernel
theorem dX9_signOf_30 : decode cX9_signOf 30 = .ok (.iconst 1, 1) := by decide +kernel
theorem dX9_signOf_31 : decode cX9_signOf 31 = .ok (.ireturn, 1) := by decide +kernel
theorem dX9_signOf_32 : decode cX9_signOf 32 = .ok (.iconst 2, 1) := by decide +kernel
theorem dX9_signOf_33 : decode cX9_signOf 33 = .ok (.ireturn, 1) := by decide +kernel
theorem dX9_signOf_34 : decode cX9_signOf 34 = .ok (.iconst (-1), 1) := by decide +kernel
theorem dX9_signOf_35 : decode cX9_signOf 35 = .ok (.ireturn, 1) := by decide +kernel
theorem dX9_next_0 : decode cX9_next 0 = .ok (.aload_n 0, 1) := by decide +kernel
theorem dX9_next_1 : decode cX9_next 1 = .ok (.getfield 42, 3) := by decide +kernel
theorem dX9_next_4 : decode cX9_next 4 = .ok (.aload_n 0, 1) := by decide +kernel
theorem dX9_next_5 : decode cX9_next 5 = .ok (.getfield 38, 3) := by decide +kernel
theorem dX9_next_8 : decode cX9_next 8 = .ok (.if_icmp .ge 15, 3) := by decide +kernel
theorem dX9_next_11 : decode cX9_next 11 = .ok (.aload_n 0, 1) := by decide +kernel
theorem dX9_next_12 : decode cX9_next 12 = .ok (.getfield 29, 3) := by decide +kernel
theorem dX9_next_15 : decode cX9_next 15 = .ok (.aload_n 0, 1) := by decide +kernel
theorem dX9_next_16 : decode cX9_next 16 = .ok (.getfield 42, 3) := by decide +kernel
theorem dX9_next_19 : decode cX9_next 19 = .ok (.iaload, 1) := by decide +kernel
theorem dX9_next_20 : decode cX9_next 20 = .ok (.goto 4, 3) := by decide +kernel
theorem dX9_next_23 : decode cX9_next 23 = .ok (.iconst (-1), 1) := by decide +kernel
theorem dX9_next_24 : decode cX9_next 24 = .ok (.ireturn, 1) := by decide +kernel
theorem dX9_readWord_0 : decode cX9_readWord 0 = .ok (.iconst 0, 1) := by decide +kernel
theorem dX9_readWord_1 : decode cX9_readWord 1 = .ok (.istore_n 2, 1) := by decide +kernel
theorem dX9_readWord_2 : decode cX9_readWord 2 = .ok (.iload_n 2, 1) := by decide +kernel
theorem dX9_readWord_3 : decode cX9_readWord 3 = .ok (.aload_n 1, 1) := by decide +kernel
theorem dX9_readWord_4 : decode cX9_readWord 4 = .ok (.invokevirtual 143, 3) := by decide +kernel
theorem dX9_readWord_7 : decode cX9_readWord 7 = .ok (.if_icmp .ge 33, 3) := by decide +kernel
theorem dX9_readWord_10 : decode cX9_readWord 10 = .ok (.aload_n 0, 1) := by decide +kernel
theorem dX9_readWord_11 : decode cX9_readWord 11 = .ok (.invokevirtual 73, 3) := by decide +kernel
theorem dX9_readWord_14 : decode cX9_readWord 14 = .ok (.aload_n 1, 1) := by decide +kernel
theorem dX9_readWord_15 : decode cX9_readWord 15 = .ok (.iload_n 2, 1) := by decide +kernel
theorem dX9_readWord_16 : decode cX9_readWord 16 = .ok (.invokevirtual 137, 3) := by decide +kernel
theorem dX9_readWord_19 : decode cX9_readWord 19 = .ok (.if_icmp .eq 5, 3) := by decide +kernel
theorem dX9_readWord_22 : decode cX9_readWord 22 = .ok (.iconst 0, 1) := by decide +kernel
theorem dX9_readWord_23 : decode cX9_readWord 23 = .ok (.ireturn, 1) := by decide +kernel
theorem dX9_readWord_24 : decode cX9_readWord 24 = .ok (.aload_n 0, 1) := by decide +kernel
theorem dX9_readWord_25 : decode cX9_readWord 25 = .ok (.dup, 1) := by decide +kernel
theorem dX9_readWord_26 : decode cX9_readWord 26 = .ok (.getfield 42, 3) := by decide +kernel
theorem dX9_readWord_29 : decode cX9_readWord 29 = .ok (.iconst 1, 1) := by decide +kernel
theorem dX9_readWord_30 : decode cX9_readWord 30 = .ok (.iadd, 1) := by decide +kernel
theorem dX9_readWord_31 : decode cX9_readWord 31 = .ok (.putfield 42, 3) := by decide +kernel
theorem dX9_readWord_34 : decode cX9_readWord 34 = .ok (.iinc 2 1, 3) := by decide +kernel
theorem dX9_readWord_37 : decode cX9_readWord 37 = .ok (.goto (-35), 3) := by decide +kernel
theorem dX9_readWord_40 : decode cX9_readWord 40 = .ok (.iconst 1, 1) := by decide +kernel
theorem dX9_readWord_41 : decode cX9_readWord 41 = .ok (.ireturn, 1) := by decide +kernel
theorem dX9_readDigit_0 : decode cX9_readDigit 0 = .ok (.aload_n 0, 1) := by decide +kernel
theorem dX9_readDigit_1 : decode cX9_readDigit 1 = .ok (.invokevirtual 73, 3) := by decide +kernel
theorem dX9_readDigit_4 : decode cX9_readDigit 4 = .ok (.istore_n 2, 1) := by decide +kernel
theorem dX9_readDigit_5 : decode cX9_readDigit 5 = .ok (.iload_n 2, 1) := by decide +kernel
theorem dX9_readDigit_6 : decode cX9_readDigit 6 = .ok (.bipush 48, 2) := by decide +kernel
theorem dX9_readDigit_8 : decode cX9_readDigit 8 = .ok (.if_icmp .lt 8, 3) := by decide +kernel
theorem dX9_readDigit_11 : decode cX9_readDigit 11 = .ok (.iload_n 2, 1) := by decide +kernel
theorem dX9_readDigit_12 : decode cX9_readDigit 12 = .ok (.iload_n 1, 1) := by decide +kernel
theorem dX9_readDigit_13 : decode cX9_readDigit 13 = .ok (.if_icmp .le 5, 3) := by decide +kernel
theorem dX9_readDigit_16 : decode cX9_readDigit 16 = .ok (.iconst (-1), 1) := by decide +kernel
theorem dX9_readDigit_17 : decode cX9_readDigit 17 = .ok (.ireturn, 1) := by decide +kernel
theorem dX9_readDigit_18 : decode cX9_readDigit 18 = .ok (.aload_n 0, 1) := by decide +kernel
theorem dX9_readDigit_19 : decode cX9_readDigit 19 = .ok (.dup, 1) := by decide +kernel
theorem dX9_readDigit_20 : decode cX9_readDigit 20 = .ok (.getfield 42, 3) := by decide +kernel
theorem dX9_readDigit_23 : decode cX9_readDigit 23 = .ok (.iconst 1, 1) := by decide +kernel
theorem dX9_readDigit_24 : decode cX9_readDigit 24 = .ok (.iadd, 1) := by decide +kernel
theorem dX9_readDigit_25 : decode cX9_readDigit 25 = .ok (.putfield 42, 3) := by decide +kernel
theorem dX9_readDigit_28 : decode cX9_readDigit 28 = .ok (.iload_n 2, 1) := by decide +kernel
theorem dX9_readDigit_29 : decode cX9_readDigit 29 = .ok (.bipush 48, 2) := by decide +kernel
theorem dX9_readDigit_31 : decode cX9_readDigit 31 = .ok (.isub, 1) := by decide +kernel
theorem dX9_readDigit_32 : decode cX9_readDigit 32 = .ok (.ireturn, 1) := by decide +kernel
theorem dX9_findFitting_0 : decode cX9_findFitting 0 = .ok (.aload_n 0, 1) := by decide +kernel
theorem dX9_findFitting_1 : decode cX9_findFitting 1 = .ok (.getfield 25, 3) := by decide +kernel
theorem dX9_findFitting_4 : decode cX9_findFitting 4 = .ok (.invokevirtual 145, 3) := by decide +kernel
theorem dX9_findFitting_7 : decode cX9_findFitting 7 = .ok (.iconst 0, 1) := by decide +kernel
theorem dX9_findFitting_8 : decode cX9_findFitting 8 = .ok (.istore_n 1, 1) := by decide +kernel
theorem dX9_findFitting_9 : decode cX9_findFitting 9 = .ok (.iload_n 1, 1) := by decide +kernel
theorem dX9_findFitting_10 : decode cX9_findFitting 10 = .ok (.sipush 1536, 3) := by decide +kernel
theorem dX9_findFitting_13 : decode cX9_findFitting 13 = .ok (.if_icmp .ge 29, 3) := by decide +kernel
theorem dX9_findFitting_16 : decode cX9_findFitting 16 = .ok (.aload_n 0, 1) := by decide +kernel
theorem dX9_findFitting_17 : decode cX9_findFitting 17 = .ok (.iload_n 1, 1) := by decide +kernel
theorem dX9_findFitting_18 : decode cX9_findFitting 18 = .ok (.invokevirtual 148, 3) := by decide +kernel
theorem dX9_findFitting_21 : decode cX9_findFitting 21 = .ok (.aload_n 0, 1) := by decide +kernel
theorem dX9_findFitting_22 : decode cX9_findFitting 22 = .ok (.getfield 48, 3) := by decide +kernel
theorem dX9_findFitting_25 : decode cX9_findFitting 25 = .ok (.if_icmp .eq 11, 3) := by decide +kernel
theorem dX9_findFitting_28 : decode cX9_findFitting 28 = .ok (.aload_n 0, 1) := by decide +kernel
theorem dX9_findFitting_29 : decode cX9_findFitting 29 = .ok (.getfield 25, 3) := by decide +kernel
theorem dX9_findFitting_32 : decode cX9_findFitting 32 = .ok (.iload_n 1, 1) := by decide +kernel
theorem dX9_findFitting_33 : decode cX9_findFitting 33 = .ok (.invokevirtual 151, 3) := by decide +kernel
theorem dX9_findFitting_36 : decode cX9_findFitting 36 = .ok (.iinc 1 1, 3) := by decide +kernel
theorem dX9_findFitting_39 : decode cX9_findFitting 39 = .ok (.goto (-30), 3) := by decide +kernel
theorem dX9_findFitting_42 : decode cX9_findFitting 42 = .ok (.return_, 1) := by decide +kernel
theorem dX9_testsHold_0 : decode cX9_testsHold 0 = .ok (.iconst 0, 1) := by decide +kernel
theorem dX9_testsHold_1 : decode cX9_testsHold 1 = .ok (.istore_n 2, 1) := by decide +kernel
theorem dX9_testsHold_2 : decode cX9_testsHold 2 = .ok (.iconst 1, 1) := by decide +kernel
theorem dX9_testsHold_3 : decode cX9_testsHold 3 = .ok (.istore_n 3, 1) := by decide +kernel
theorem dX9_testsHold_4 : decode cX9_testsHold 4 = .ok (.iconst 0, 1) := by decide +kernel
theorem dX9_testsHold_5 : decode cX9_testsHold 5 = .ok (.istore 4, 2) := by decide +kernel
theorem dX9_testsHold_7 : decode cX9_testsHold 7 = .ok (.iload 4, 2) := by decide +kernel
theorem dX9_testsHold_9 : decode cX9_testsHold 9 = .ok (.aload_n 0, 1) := by decide +kernel
theorem dX9_testsHold_10 : decode cX9_testsHold 10 = .ok (.getfield 45, 3) := by decide +kernel
theorem dX9_testsHold_13 : decode cX9_testsHold 13 = .ok (.if_icmp .ge 69, 3) := by decide +kernel
theorem dX9_testsHold_16 : decode cX9_testsHold 16 = .ok (.aload_n 0, 1) := by decide +kernel
theorem dX9_testsHold_17 : decode cX9_testsHold 17 = .ok (.getfield 18, 3) := by decide +kernel
theorem dX9_testsHold_20 : decode cX9_testsHold 20 = .ok (.iload 4, 2) := by decide +kernel
theorem dX9_testsHold_22 : decode cX9_testsHold 22 = .ok (.baload, 1) := by decide +kernel
theorem dX9_testsHold_23 : decode cX9_testsHold 23 = .ok (.ifCond .eq 19, 3) := by decide +kernel
theorem dX9_testsHold_26 : decode cX9_testsHold 26 = .ok (.iload_n 2, 1) := by decide +kernel
theorem dX9_testsHold_27 : decode cX9_testsHold 27 = .ok (.ifCond .ne 7, 3) := by decide +kernel
theorem dX9_testsHold_30 : decode cX9_testsHold 30 = .ok (.iload_n 3, 1) := by decide +kernel
theorem dX9_testsHold_31 : decode cX9_testsHold 31 = .ok (.ifCond .eq 7, 3) := by decide +kernel
theorem dX9_testsHold_34 : decode cX9_testsHold 34 = .ok (.iconst 1, 1) := by decide +kernel
theorem dX9_testsHold_35 : decode cX9_testsHold 35 = .ok (.goto 4, 3) := by decide +kernel
theorem dX9_testsHold_38 : decode cX9_testsHold 38 = .ok (.iconst 0, 1) := by decide +kernel
theorem dX9_testsHold_39 : decode cX9_testsHold 39 = .ok (.istore_n 2, 1) := by decide +kernel
theorem dX9_testsHold_40 : decode cX9_testsHold 40 = .ok (.iconst 1, 1) := by decide +kernel
theorem dX9_testsHold_41 : decode cX9_testsHold 41 = .ok (.istore_n 3, 1) := by decide +kernel
theorem dX9_testsHold_42 : decode cX9_testsHold 42 = .ok (.iload_n 3, 1) := by decide +kernel
theorem dX9_testsHold_43 : decode cX9_testsHold 43 = .ok (.ifCond .eq 31, 3) := by decide +kernel
theorem dX9_testsHold_46 : decode cX9_testsHold 46 = .ok (.aload_n 0, 1) := by decide +kernel
theorem dX9_testsHold_47 : decode cX9_testsHold 47 = .ok (.getfield 15, 3) := by decide +kernel
theorem dX9_testsHold_50 : decode cX9_testsHold 50 = .ok (.iload 4, 2) := by decide +kernel
theorem dX9_testsHold_52 : decode cX9_testsHold 52 = .ok (.iaload, 1) := by decide +kernel
theorem dX9_testsHold_53 : decode cX9_testsHold 53 = .ok (.iload_n 1, 1) := by decide +kernel
theorem dX9_testsHold_54 : decode cX9_testsHold 54 = .ok (.aload_n 0, 1) := by decide +kernel
theorem dX9_testsHold_55 : decode cX9_testsHold 55 = .ok (.getfield 11, 3) := by decide +kernel
theorem dX9_testsHold_58 : decode cX9_testsHold 58 = .ok (.iload 4, 2) := by decide +kernel
theorem dX9_testsHold_60 : decode cX9_testsHold 60 = .ok (.iaload, 1) := by decide +kernel
theorem dX9_testsHold_61 : decode cX9_testsHold 61 = .ok (.invokestatic 155, 3) := by decide +kernel
theorem dX9_testsHold_64 : decode cX9_testsHold 64 = .ok (.ishr, 1) := by decide +kernel
theorem dX9_testsHold_65 : decode cX9_testsHold 65 = .ok (.iconst 1, 1) := by decide +kernel
theorem dX9_testsHold_66 : decode cX9_testsHold 66 = .ok (.iand, 1) := by decide +kernel
theorem dX9_testsHold_67 : decode cX9_testsHold 67 = .ok (.ifCond .eq 7, 3) := by decide +kernel
theorem dX9_testsHold_70 : decode cX9_testsHold 70 = .ok (.iconst 1, 1) := by decide +kernel
theorem dX9_testsHold_71 : decode cX9_testsHold 71 = .ok (.goto 4, 3) := by decide +kernel
theorem dX9_testsHold_74 : decode cX9_testsHold 74 = .ok (.iconst 0, 1) := by decide +kernel
theorem dX9_testsHold_75 : decode cX9_testsHold 75 = .ok (.istore_n 3, 1) := by decide +kernel
theorem dX9_testsHold_76 : decode cX9_testsHold 76 = .ok (.iinc 4 1, 3) := by decide +kernel
theorem dX9_testsHold_79 : decode cX9_testsHold 79 = .ok (.goto (-72), 3) := by decide +kernel
theorem dX9_testsHold_82 : decode cX9_testsHold 82 = .ok (.iload_n 2, 1) := by decide +kernel
theorem dX9_testsHold_83 : decode cX9_testsHold 83 = .ok (.ifCond .ne 7, 3) := by decide +kernel
theorem dX9_testsHold_86 : decode cX9_testsHold 86 = .ok (.iload_n 3, 1) := by decide +kernel
theorem dX9_testsHold_87 : decode cX9_testsHold 87 = .ok (.ifCond .eq 7, 3) := by decide +kernel
theorem dX9_testsHold_90 : decode cX9_testsHold 90 = .ok (.iconst 1, 1) := by decide +kernel
theorem dX9_testsHold_91 : decode cX9_testsHold 91 = .ok (.goto 4, 3) := by decide +kernel
theorem dX9_testsHold_94 : decode cX9_testsHold 94 = .ok (.iconst 0, 1) := by decide +kernel
theorem dX9_testsHold_95 : decode cX9_testsHold 95 = .ok (.ireturn, 1) := by decide +kernel
theorem dX10_init_0 : decode cX10_init 0 = .ok (.aload_n 0, 1) := by decide +kernel
theorem dX10_init_1 : decode cX10_init 1 = .ok (.invokespecial 3, 3) := by decide +kernel
theorem dX10_init_4 : decode cX10_init 4 = .ok (.aload_n 0, 1) := by decide +kernel
theorem dX10_init_5 : decode cX10_init 5 = .ok (.bipush 15, 2) := by decide +kernel
theorem dX10_init_7 : decode cX10_init 7 = .ok (.anewarray 11, 3) := by decide +kernel
theorem dX10_init_10 : decode cX10_init 10 = .ok (.putfield 13, 3) := by decide +kernel
theorem dX10_init_13 : decode cX10_init 13 = .ok (.aload_n 0, 1) := by decide +kernel
theorem dX10_init_14 : decode cX10_init 14 = .ok (.bipush 15, 2) := by decide +kernel
theorem dX10_init_16 : decode cX10_init 16 = .ok (.newarray .int, 2) := by decide +kernel
theorem dX10_init_18 : decode cX10_init 18 = .ok (.putfield 17, 3) := by decide +kernel
theorem dX10_init_21 : decode cX10_init 21 = .ok (.aload_n 0, 1) := by decide +kernel
theorem dX10_init_22 : decode cX10_init 22 = .ok (.iconst 5, 1) := by decide +kernel
theorem dX10_init_23 : decode cX10_init 23 = .ok (.newarray .int, 2) := by decide +kernel
theorem dX10_init_25 : decode cX10_init 25 = .ok (.putfield 21, 3) := by decide +kernel
theorem dX10_init_28 : decode cX10_init 28 = .ok (.aload_n 0, 1) := by decide +kernel
theorem dX10_init_29 : decode cX10_init 29 = .ok (.iconst 5, 1) := by decide +kernel
theorem dX10_init_30 : decode cX10_init 30 = .ok (.newarray .int, 2) := by decide +kernel
theorem dX10_init_32 : decode cX10_init 32 = .ok (.putfield 24, 3) := by decide +kernel
theorem dX10_init_35 : decode cX10_init 35 = .ok (.aload_n 0, 1) := by decide +kernel
theorem dX10_init_36 : decode cX10_init 36 = .ok (.iconst 5, 1) := by decide +kernel
theorem dX10_init_37 : decode cX10_init 37 = .ok (.newarray .int, 2) := by decide +kernel
theorem dX10_init_39 : decode cX10_init 39 = .ok (.putfield 27, 3) := by decide +kernel
theorem dX10_init_42 : decode cX10_init 42 = .ok (.aload_n 0, 1) := by decide +kernel
theorem dX10_init_43 : decode cX10_init 43 = .ok (.iconst 5, 1) := by decide +kernel
theorem dX10_init_44 : decode cX10_init 44 = .ok (.newarray .int, 2) := by decide +kernel
theorem dX10_init_46 : decode cX10_init 46 = .ok (.putfield 30, 3) := by decide +kernel
theorem dX10_init_49 : decode cX10_init 49 = .ok (.aload_n 0, 1) := by decide +kernel
theorem dX10_init_50 : decode cX10_init 50 = .ok (.sipush 243, 3) := by decide +kernel
theorem dX10_init_53 : decode cX10_init 53 = .ok (.newarray .int, 2) := by decide +kernel
theorem dX10_init_55 : decode cX10_init 55 = .ok (.putfield 33, 3) := by decide +kernel
theorem dX10_init_58 : decode cX10_init 58 = .ok (.aload_n 0, 1) := by decide +kernel
theorem dX10_init_59 : decode cX10_init 59 = .ok (.sipush 243, 3) := by decide +kernel
theorem dX10_init_62 : decode cX10_init 62 = .ok (.newarray .int, 2) := by decide +kernel
theorem dX10_init_64 : decode cX10_init 64 = .ok (.putfield 36, 3) := by decide +kernel
theorem dX10_init_67 : decode cX10_init 67 = .ok (.aload_n 0, 1) := by decide +kernel
theorem dX10_init_68 : decode cX10_init 68 = .ok (.aload_n 1, 1) := by decide +kernel
theorem dX10_init_69 : decode cX10_init 69 = .ok (.putfield 39, 3) := by decide +kernel
theorem dX10_init_72 : decode cX10_init 72 = .ok (.aload_n 0, 1) := by decide +kernel
theorem dX10_init_73 : decode cX10_init 73 = .ok (.aload_n 2, 1) := by decide +kernel
theorem dX10_init_74 : decode cX10_init 74 = .ok (.putfield 43, 3) := by decide +kernel
theorem dX10_init_77 : decode cX10_init 77 = .ok (.return_, 1) := by decide +kernel
theorem dX10_hasSlot_0 : decode cX10_hasSlot 0 = .ok (.iload_n 1, 1) := by decide +kernel
theorem dX10_hasSlot_1 : decode cX10_hasSlot 1 = .ok (.ifCond .lt 12, 3) := by decide +kernel
theorem dX10_hasSlot_4 : decode cX10_hasSlot 4 = .ok (.iload_n 1, 1) := by decide +kernel
theorem dX10_hasSlot_5 : decode cX10_hasSlot 5 = .ok (.iconst 5, 1) := by decide +kernel
theorem dX10_hasSlot_6 : decode cX10_hasSlot 6 = .ok (.if_icmp .ge 7, 3) := by decide +kernel
theorem dX10_hasSlot_9 : decode cX10_hasSlot 9 = .ok (.iconst 1, 1) := by decide +kernel
theorem dX10_hasSlot_10 : decode cX10_hasSlot 10 = .ok (.goto 4, 3) := by decide +kernel
theorem dX10_hasSlot_13 : decode cX10_hasSlot 13 = .ok (.iconst 0, 1) := by decide +kernel
theorem dX10_hasSlot_14 : decode cX10_hasSlot 14 = .ok (.ireturn, 1) := by decide +kernel
theorem dX10_isFull_0 : decode cX10_isFull 0 = .ok (.aload_n 0, 1) := by decide +kernel
theorem dX10_isFull_1 : decode cX10_isFull 1 = .ok (.getfield 21, 3) := by decide +kernel
theorem dX10_isFull_4 : decode cX10_isFull 4 = .ok (.iload_n 1, 1) := by decide +kernel
theorem dX10_isFull_5 : decode cX10_isFull 5 = .ok (.iaload, 1) := by decide +kernel
theorem dX10_isFull_6 : decode cX10_isFull 6 = .ok (.iconst 3, 1) := by decide +kernel
theorem dX10_isFull_7 : decode cX10_isFull 7 = .ok (.if_icmp .lt 7, 3) := by decide +kernel
theorem dX10_isFull_10 : decode cX10_isFull 10 = .ok (.iconst 1, 1) := by decide +kernel
theorem dX10_isFull_11 : decode cX10_isFull 11 = .ok (.goto 4, 3) := by decide +kernel
theorem dX10_isFull_14 : decode cX10_isFull 14 = .ok (.iconst 0, 1) := by decide +kernel
theorem dX10_isFull_15 : decode cX10_isFull 15 = .ok (.ireturn, 1) := by decide +kernel
theorem dX10_add_0 : decode cX10_add 0 = .ok (.aload_n 0, 1) := by decide +kernel
theorem dX10_add_1 : decode cX10_add 1 = .ok (.getfield 21, 3) := by decide +kernel
theorem dX10_add_4 : decode cX10_add 4 = .ok (.iload_n 1, 1) := by decide +kernel
theorem dX10_add_5 : decode cX10_add 5 = .ok (.iaload, 1) := by decide +kernel
theorem dX10_add_6 : decode cX10_add 6 = .ok (.istore 4, 2) := by decide +kernel
theorem dX10_add_8 : decode cX10_add 8 = .ok (.aload_n 0, 1) := by decide +kernel
theorem dX10_add_9 : decode cX10_add 9 = .ok (.getfield 13, 3) := by decide +kernel
theorem dX10_add_12 : decode cX10_add 12 = .ok (.iload_n 1, 1) := by decide +kernel
theorem dX10_add_13 : decode cX10_add 13 = .ok (.iconst 3, 1) := by decide +kernel
theorem dX10_add_14 : decode cX10_add 14 = .ok (.imul, 1) := by decide +kernel
theorem dX10_add_15 : decode cX10_add 15 = .ok (.iload 4, 2) := by decide +kernel
theorem dX10_add_17 : decode cX10_add 17 = .ok (.iadd, 1) := by decide +kernel
theorem dX10_add_18 : decode cX10_add 18 = .ok (.aload_n 2, 1) := by decide +kernel
theorem dX10_add_19 : decode cX10_add 19 = .ok (.aastore, 1) := by decide +kernel
theorem dX10_add_20 : decode cX10_add 20 = .ok (.aload_n 0, 1) := by decide +kernel
theorem dX10_add_21 : decode cX10_add 21 = .ok (.getfield 17, 3) := by decide +kernel
theorem dX10_add_24 : decode cX10_add 24 = .ok (.iload_n 1, 1) := by decide +kernel
theorem dX10_add_25 : decode cX10_add 25 = .ok (.iconst 3, 1) := by decide +kernel
theorem dX10_add_26 : decode cX10_add 26 = .ok (.imul, 1) := by decide +kernel
theorem dX10_add_27 : decode cX10_add 27 = .ok (.iload 4, 2) := by decide +kernel
theorem dX10_add_29 : decode cX10_add 29 = .ok (.iadd, 1) := by decide +kernel
theorem dX10_add_30 : decode cX10_add 30 = .ok (.iload_n 3, 1) := by decide +kernel
theorem dX10_add_31 : decode cX10_add 31 = .ok (.iastore, 1) := by decide +kernel
theorem dX10_add_32 : decode cX10_add 32 = .ok (.aload_n 0, 1) := by decide +kernel
theorem dX10_add_33 : decode cX10_add 33 = .ok (.getfield 21, 3) := by decide +kernel
theorem dX10_add_36 : decode cX10_add 36 = .ok (.iload_n 1, 1) := by decide +kernel
theorem dX10_add_37 : decode cX10_add 37 = .ok (.dup2, 1) := by decide +kernel
theorem dX10_add_38 : decode cX10_add 38 = .ok (.iaload, 1) := by decide +kernel
theorem dX10_add_39 : decode cX10_add 39 = .ok (.iconst 1, 1) := by decide +kernel
theorem dX10_add_40 : decode cX10_add 40 = .ok (.iadd, 1) := by decide +kernel
theorem dX10_add_41 : decode cX10_add 41 = .ok (.iastore, 1) := by decide +kernel
theorem dX10_add_42 : decode cX10_add 42 = .ok (.iload 4, 2) := by decide +kernel
theorem dX10_add_44 : decode cX10_add 44 = .ok (.ireturn, 1) := by decide +kernel
theorem dX10_allWays_0 : decode cX10_allWays 0 = .ok (.iconst 0, 1) := by decide +kernel
theorem dX10_allWays_1 : decode cX10_allWays 1 = .ok (.istore_n 1, 1) := by decide +kernel
theorem dX10_allWays_2 : decode cX10_allWays 2 = .ok (.iconst 0, 1) := by decide +kernel
theorem dX10_allWays_3 : decode cX10_allWays 3 = .ok (.istore_n 2, 1) := by decide +kernel
theorem dX10_allWays_4 : decode cX10_allWays 4 = .ok (.iload_n 2, 1) := by decide +kernel
theorem dX10_allWays_5 : decode cX10_allWays 5 = .ok (.iconst 5, 1) := by decide +kernel
theorem dX10_allWays_6 : decode cX10_allWays 6 = .ok (.if_icmp .ge 18, 3) := by decide +kernel
theorem dX10_allWays_9 : decode cX10_allWays 9 = .ok (.iload_n 1, 1) := by decide +kernel
theorem dX10_allWays_10 : decode cX10_allWays 10 = .ok (.aload_n 0, 1) := by decide +kernel
theorem dX10_allWays_11 : decode cX10_allWays 11 = .ok (.getfield 21, 3) := by decide +kernel
theorem dX10_allWays_14 : decode cX10_allWays 14 = .ok (.iload_n 2, 1) := by decide +kernel
theorem dX10_allWays_15 : decode cX10_allWays 15 = .ok (.iaload, 1) := by decide +kernel
theorem dX10_allWays_16 : decode cX10_allWays 16 = .ok (.iadd, 1) := by decide +kernel
theorem dX10_allWays_17 : decode cX10_allWays 17 = .ok (.istore_n 1, 1) := by decide +kernel
theorem dX10_allWays_18 : decode cX10_allWays 18 = .ok (.iinc 2 1, 3) := by decide +kernel
theorem dX10_allWays_21 : decode cX10_allWays 21 = .ok (.goto (-17), 3) := by decide +kernel
theorem dX10_allWays_24 : decode cX10_allWays 24 = .ok (.iload_n 1, 1) := by decide +kernel
theorem dX10_allWays_25 : decode cX10_allWays 25 = .ok (.ireturn, 1) := by decide +kernel
theorem dX10_isWriting_0 : decode cX10_isWriting 0 = .ok (.iload_n 1, 1) := by decide +kernel
theorem dX10_isWriting_1 : decode cX10_isWriting 1 = .ok (.ifCond .lt 10, 3) := by decide +kernel
theorem dX10_isWriting_4 : decode cX10_isWriting 4 = .ok (.iload_n 1, 1) := by decide +kernel
theorem dX10_isWriting_5 : decode cX10_isWriting 5 = .ok (.bipush 10, 2) := by decide +kernel
theorem dX10_isWriting_7 : decode cX10_isWriting 7 = .ok (.ishr, 1) := by decide +kernel
theorem dX10_isWriting_8 : decode cX10_isWriting 8 = .ok (.ifCond .eq 5, 3) := by decide +kernel
theorem dX10_isWriting_11 : decode cX10_isWriting 11 = .ok (.iconst 0, 1) := by decide +kernel
theorem dX10_isWriting_12 : decode cX10_isWriting 12 = .ok (.ireturn, 1) := by decide +kernel
theorem dX10_isWriting_13 : decode cX10_isWriting 13 = .ok (.iconst 0, 1) := by decide +kernel
theorem dX10_isWriting_14 : decode cX10_isWriting 14 = .ok (.istore_n 2, 1) := by decide +kernel
theorem dX10_isWriting_15 : decode cX10_isWriting 15 = .ok (.iload_n 2, 1) := by decide +kernel
theorem dX10_isWriting_16 : decode cX10_isWriting 16 = .ok (.iconst 5, 1) := by decide +kernel
theorem dX10_isWriting_17 : decode cX10_isWriting 17 = .ok (.if_icmp .ge 29, 3) := by decide +kernel
theorem dX10_isWriting_20 : decode cX10_isWriting 20 = .ok (.iload_n 1, 1) := by decide +kernel
theorem dX10_isWriting_21 : decode cX10_isWriting 21 = .ok (.iload_n 2, 1) := by decide +kernel
theorem dX10_isWriting_22 : decode cX10_isWriting 22 = .ok (.invokestatic 47, 3) := by decide +kernel
theorem dX10_isWriting_25 : decode cX10_isWriting 25 = .ok (.aload_n 0, 1) := by decide +kernel
theorem dX10_isWriting_26 : decode cX10_isWriting 26 = .ok (.getfield 21, 3) := by decide +kernel
theorem dX10_isWriting_29 : decode cX10_isWriting 29 = .ok (.iload_n 2, 1) := by decide +kernel
theorem dX10_isWriting_30 : decode cX10_isWriting 30 = .ok (.iaload, 1) := by decide +kernel
theorem dX10_isWriting_31 : decode cX10_isWriting 31 = .ok (.iconst 1, 1) := by decide +kernel
theorem dX10_isWriting_32 : decode cX10_isWriting 32 = .ok (.invokestatic 51, 3) := by decide +kernel
theorem dX10_isWriting_35 : decode cX10_isWriting 35 = .ok (.if_icmp .lt 5, 3) := by decide +kernel
theorem dX10_isWriting_38 : decode cX10_isWriting 38 = .ok (.iconst 0, 1) := by decide +kernel
theorem dX10_isWriting_39 : decode cX10_isWriting 39 = .ok (.ireturn, 1) := by decide +kernel
theorem dX10_isWriting_40 : decode cX10_isWriting 40 = .ok (.iinc 2 1, 3) := by decide +kernel
theorem dX10_isWriting_43 : decode cX10_isWriting 43 = .ok (.goto (-28), 3) := by decide +kernel
theorem dX10_isWriting_46 : decode cX10_isWriting 46 = .ok (.iconst 1, 1) := by decide +kernel
theorem dX10_isWriting_47 : decode cX10_isWriting 47 = .ok (.ireturn, 1) := by decide +kernel
theorem dX10_keptBy_0 : decode cX10_keptBy 0 = .ok (.aload_n 0, 1) := by decide +kernel
theorem dX10_keptBy_1 : decode cX10_keptBy 1 = .ok (.iload_n 2, 1) := by decide +kernel
theorem dX10_keptBy_2 : decode cX10_keptBy 2 = .ok (.invokevirtual 56, 3) := by decide +kernel
theorem dX10_keptBy_5 : decode cX10_keptBy 5 = .ok (.iconst 0, 1) := by decide +kernel
theorem dX10_keptBy_6 : decode cX10_keptBy 6 = .ok (.istore_n 3, 1) := by decide +kernel
theorem dX10_keptBy_7 : decode cX10_keptBy 7 = .ok (.iconst 0, 1) := by decide +kernel
theorem dX10_keptBy_8 : decode cX10_keptBy 8 = .ok (.istore 4, 2) := by decide +kernel
theorem dX10_keptBy_10 : decode cX10_keptBy 10 = .ok (.iload 4, 2) := by decide +kernel
theorem dX10_keptBy_12 : decode cX10_keptBy 12 = .ok (.sipush 1536, 3) := by decide +kernel
theorem dX10_keptBy_15 : decode cX10_keptBy 15 = .ok (.if_icmp .ge 32, 3) := by decide +kernel
theorem dX10_keptBy_18 : decode cX10_keptBy 18 = .ok (.aload_n 0, 1) := by decide +kernel
theorem dX10_keptBy_19 : decode cX10_keptBy 19 = .ok (.iload 4, 2) := by decide +kernel
theorem dX10_keptBy_21 : decode cX10_keptBy 21 = .ok (.invokevirtual 60, 3) := by decide +kernel
theorem dX10_keptBy_24 : decode cX10_keptBy 24 = .ok (.iload_n 3, 1) := by decide +kernel
theorem dX10_keptBy_25 : decode cX10_keptBy 25 = .ok (.aload_n 0, 1) := by decide +kernel
theorem dX10_keptBy_26 : decode cX10_keptBy 26 = .ok (.aload_n 0, 1) := by decide +kernel
theorem dX10_keptBy_27 : decode cX10_keptBy 27 = .ok (.iload_n 1, 1) := by decide +kernel
theorem dX10_keptBy_28 : decode cX10_keptBy 28 = .ok (.iload 4, 2) := by decide +kernel
theorem dX10_keptBy_30 : decode cX10_keptBy 30 = .ok (.invokevirtual 63, 3) := by decide +kernel
theorem dX10_keptBy_33 : decode cX10_keptBy 33 = .ok (.invokestatic 66, 3) := by decide +kernel
theorem dX10_keptBy_36 : decode cX10_keptBy 36 = .ok (.invokevirtual 70, 3) := by decide +kernel
theorem dX10_keptBy_39 : decode cX10_keptBy 39 = .ok (.iadd, 1) := by decide +kernel
theorem dX10_keptBy_40 : decode cX10_keptBy 40 = .ok (.istore_n 3, 1) := by decide +kernel
theorem dX10_keptBy_41 : decode cX10_keptBy 41 = .ok (.iinc 4 1, 3) := by decide +kernel
theorem dX10_keptBy_44 : decode cX10_keptBy 44 = .ok (.goto (-34), 3) := by decide +kernel
theorem dX10_keptBy_47 : decode cX10_keptBy 47 = .ok (.iload_n 3, 1) := by decide +kernel
theorem dX10_keptBy_48 : decode cX10_keptBy 48 = .ok (.ireturn, 1) := by decide +kernel
theorem dX10_placeOfBest_0 : decode cX10_placeOfBest 0 = .ok (.aload_n 0, 1) := by decide +kernel
theorem dX10_placeOfBest_1 : decode cX10_placeOfBest 1 = .ok (.iload_n 1, 1) := by decide +kernel
theorem dX10_placeOfBest_2 : decode cX10_placeOfBest 2 = .ok (.invokevirtual 56, 3) := by decide +kernel
theorem dX10_placeOfBest_5 : decode cX10_placeOfBest 5 = .ok (.iconst 1, 1) := by decide +kernel
theorem dX10_placeOfBest_6 : decode cX10_placeOfBest 6 = .ok (.istore_n 2, 1) := by decide +kernel
theorem dX10_placeOfBest_7 : decode cX10_placeOfBest 7 = .ok (.iconst 0, 1) := by decide +kernel
theorem dX10_placeOfBest_8 : decode cX10_placeOfBest 8 = .ok (.istore_n 3, 1) := by decide +kernel
theorem dX10_placeOfBest_9 : decode cX10_placeOfBest 9 = .ok (.iload_n 3, 1) := by decide +kernel
theorem dX10_placeOfBest_10 : decode cX10_placeOfBest 10 = .ok (.iconst 5, 1) := by decide +kernel
theorem dX10_placeOfBest_11 : decode cX10_placeOfBest 11 = .ok (.if_icmp .ge 22, 3) := by decide +kernel
theorem dX10_placeOfBest_14 : decode cX10_placeOfBest 14 = .ok (.iload_n 2, 1) := by decide +kernel
theorem dX10_placeOfBest_15 : decode cX10_placeOfBest 15 = .ok (.aload_n 0, 1) := by decide +kernel
theorem dX10_placeOfBest_16 : decode cX10_placeOfBest 16 = .ok (.getfield 21, 3) := by decide +kernel
theorem dX10_placeOfBest_19 : decode cX10_placeOfBest 19 = .ok (.iload_n 3, 1) := by decide +kernel
theorem dX10_placeOfBest_20 : decode cX10_placeOfBest 20 = .ok (.iaload, 1) := by decide +kernel
theorem dX10_placeOfBest_21 : decode cX10_placeOfBest 21 = .ok (.iconst 1, 1) := by decide +kernel
theorem dX10_placeOfBest_22 : decode cX10_placeOfBest 22 = .ok (.invokestatic 51, 3) := by decide +kernel
theorem dX10_placeOfBest_25 : decode cX10_placeOfBest 25 = .ok (.imul, 1) := by decide +kernel
theorem dX10_placeOfBest_26 : decode cX10_placeOfBest 26 = .ok (.istore_n 2, 1) := by decide +kernel
theorem dX10_placeOfBest_27 : decode cX10_placeOfBest 27 = .ok (.iinc 3 1, 3) := by decide +kernel
theorem dX10_placeOfBest_30 : decode cX10_placeOfBest 30 = .ok (.goto (-21), 3) := by decide +kernel
theorem dX10_placeOfBest_33 : decode cX10_placeOfBest 33 = .ok (.aload_n 0, 1) := by decide +kernel
theorem dX10_placeOfBest_34 : decode cX10_placeOfBest 34 = .ok (.getfield 36, 3) := by decide +kernel
theorem dX10_placeOfBest_37 : decode cX10_placeOfBest 37 = .ok (.iconst 0, 1) := by decide +kernel
theorem dX10_placeOfBest_38 : decode cX10_placeOfBest 38 = .ok (.invokestatic 73, 3) := by decide +kernel
theorem dX10_placeOfBest_41 : decode cX10_placeOfBest 41 = .ok (.iconst 0, 1) := by decide +kernel
theorem dX10_placeOfBest_42 : decode cX10_placeOfBest 42 = .ok (.istore_n 3, 1) := by decide +kernel
theorem dX10_placeOfBest_43 : decode cX10_placeOfBest 43 = .ok (.iload_n 3, 1) := by decide +kernel
theorem dX10_placeOfBest_44 : decode cX10_placeOfBest 44 = .ok (.sipush 1536, 3) := by decide +kernel
theorem dX10_placeOfBest_47 : decode cX10_placeOfBest 47 = .ok (.if_icmp .ge 31, 3) := by decide +kernel
theorem dX10_placeOfBest_50 : decode cX10_placeOfBest 50 = .ok (.aload_n 0, 1) := by decide +kernel
theorem dX10_placeOfBest_51 : decode cX10_placeOfBest 51 = .ok (.iload_n 3, 1) := by decide +kernel
theorem dX10_placeOfBest_52 : decode cX10_placeOfBest 52 = .ok (.invokevirtual 60, 3) := by decide +kernel
theorem dX10_placeOfBest_55 : decode cX10_placeOfBest 55 = .ok (.aload_n 0, 1) := by decide +kernel
theorem dX10_placeOfBest_56 : decode cX10_placeOfBest 56 = .ok (.getfield 79, 3) := by decide +kernel
theorem dX10_placeOfBest_59 : decode cX10_placeOfBest 59 = .ok (.ifCond .le 13, 3) := by decide +kernel
theorem dX10_placeOfBest_62 : decode cX10_placeOfBest 62 = .ok (.aload_n 0, 1) := by decide +kernel
theorem dX10_placeOfBest_63 : decode cX10_placeOfBest 63 = .ok (.iload_n 3, 1) := by decide +kernel
theorem dX10_placeOfBest_64 : decode cX10_placeOfBest 64 = .ok (.invokevirtual 83, 3) := by decide +kernel
theorem dX10_placeOfBest_67 : decode cX10_placeOfBest 67 = .ok (.aload_n 0, 1) := by decide +kernel
theorem dX10_placeOfBest_68 : decode cX10_placeOfBest 68 = .ok (.iload_n 2, 1) := by decide +kernel
theorem dX10_placeOfBest_69 : decode cX10_placeOfBest 69 = .ok (.invokevirtual 86, 3) := by decide +kernel
theorem dX10_placeOfBest_72 : decode cX10_placeOfBest 72 = .ok (.iinc 3 1, 3) := by decide +kernel
theorem dX10_placeOfBest_75 : decode cX10_placeOfBest 75 = .ok (.goto (-32), 3) := by decide +kernel
theorem dX10_placeOfBest_78 : decode cX10_placeOfBest 78 = .ok (.iconst 0, 1) := by decide +kernel
theorem dX10_placeOfBest_79 : decode cX10_placeOfBest 79 = .ok (.istore_n 3, 1) := by decide +kernel
theorem dX10_placeOfBest_80 : decode cX10_placeOfBest 80 = .ok (.iconst 1, 1) := by decide +kernel
theorem dX10_placeOfBest_81 : decode cX10_placeOfBest 81 = .ok (.istore 4, 2) := by decide +kernel
theorem dX10_placeOfBest_83 : decode cX10_placeOfBest 83 = .ok (.iload 4, 2) := by decide +kernel
theorem dX10_placeOfBest_85 : decode cX10_placeOfBest 85 = .ok (.iload_n 2, 1) := by decide +kernel
theorem dX10_placeOfBest_86 : decode cX10_placeOfBest 86 = .ok (.if_icmp .ge 28, 3) := by decide +kernel
theorem dX10_placeOfBest_89 : decode cX10_placeOfBest 89 = .ok (.aload_n 0, 1) := by decide +kernel
theorem dX10_placeOfBest_90 : decode cX10_placeOfBest 90 = .ok (.getfield 36, 3) := by decide +kernel
theorem dX10_placeOfBest_93 : decode cX10_placeOfBest 93 = .ok (.iload 4, 2) := by decide +kernel
theorem dX10_placeOfBest_95 : decode cX10_placeOfBest 95 = .ok (.iaload, 1) := by decide +kernel
theorem dX10_placeOfBest_96 : decode cX10_placeOfBest 96 = .ok (.aload_n 0, 1) := by decide +kernel
theorem dX10_placeOfBest_97 : decode cX10_placeOfBest 97 = .ok (.getfield 36, 3) := by decide +kernel
theorem dX10_placeOfBest_100 : decode cX10_placeOfBest 100 = .ok (.iload_n 3, 1) := by decide +kernel
theorem dX10_placeOfBest_101 : decode cX10_placeOfBest 101 = .ok (.iaload, 1) := by decide +kernel
theorem dX10_placeOfBest_102 : decode cX10_placeOfBest 102 = .ok (.if_icmp .le 6, 3) := by decide +kernel
theorem dX10_placeOfBest_105 : decode cX10_placeOfBest 105 = .ok (.iload 4, 2) := by decide +kernel
theorem dX10_placeOfBest_107 : decode cX10_placeOfBest 107 = .ok (.istore_n 3, 1) := by decide +kernel
theorem dX10_placeOfBest_108 : decode cX10_placeOfBest 108 = .ok (.iinc 4 1, 3) := by decide +kernel
theorem dX10_placeOfBest_111 : decode cX10_placeOfBest 111 = .ok (.goto (-28), 3) := by decide +kernel
theorem dX10_placeOfBest_114 : decode cX10_placeOfBest 114 = .ok (.iload_n 3, 1) := by decide +kernel
theorem dX10_placeOfBest_115 : decode cX10_placeOfBest 115 = .ok (.ireturn, 1) := by decide +kernel
theorem dX10_keptAt_0 : decode cX10_keptAt 0 = .ok (.aload_n 0, 1) := by decide +kernel
theorem dX10_keptAt_1 : decode cX10_keptAt 1 = .ok (.getfield 36, 3) := by decide +kernel
theorem dX10_keptAt_4 : decode cX10_keptAt 4 = .ok (.iload_n 1, 1) := by decide +kernel
theorem dX10_keptAt_5 : decode cX10_keptAt 5 = .ok (.iaload, 1) := by decide +kernel
theorem dX10_keptAt_6 : decode cX10_keptAt 6 = .ok (.ireturn, 1) := by decide +kernel
theorem dX10_writingAt_0 : decode cX10_writingAt 0 = .ok (.iload_n 1, 1) := by decide +kernel
theorem dX10_writingAt_1 : decode cX10_writingAt 1 = .ok (.istore_n 2, 1) := by decide +kernel
theorem dX10_writingAt_2 : decode cX10_writingAt 2 = .ok (.iconst 0, 1) := by decide +kernel
theorem dX10_writingAt_3 : decode cX10_writingAt 3 = .ok (.istore_n 3, 1) := by decide +kernel
theorem dX10_writingAt_4 : decode cX10_writingAt 4 = .ok (.iconst 4, 1) := by decide +kernel
theorem dX10_writingAt_5 : decode cX10_writingAt 5 = .ok (.istore 4, 2) := by decide +kernel
theorem dX10_writingAt_7 : decode cX10_writingAt 7 = .ok (.iload 4, 2) := by decide +kernel
theorem dX10_writingAt_9 : decode cX10_writingAt 9 = .ok (.ifCond .lt 36, 3) := by decide +kernel
theorem dX10_writingAt_12 : decode cX10_writingAt 12 = .ok (.aload_n 0, 1) := by decide +kernel
theorem dX10_writingAt_13 : decode cX10_writingAt 13 = .ok (.getfield 21, 3) := by decide +kernel
theorem dX10_writingAt_16 : decode cX10_writingAt 16 = .ok (.iload 4, 2) := by decide +kernel
theorem dX10_writingAt_18 : decode cX10_writingAt 18 = .ok (.iaload, 1) := by decide +kernel
theorem dX10_writingAt_19 : decode cX10_writingAt 19 = .ok (.iconst 1, 1) := by decide +kernel
theorem dX10_writingAt_20 : decode cX10_writingAt 20 = .ok (.invokestatic 51, 3) := by decide +kernel
theorem dX10_writingAt_23 : decode cX10_writingAt 23 = .ok (.istore 5, 2) := by decide +kernel
theorem dX10_writingAt_25 : decode cX10_writingAt 25 = .ok (.iload_n 3, 1) := by decide +kernel
theorem dX10_writingAt_26 : decode cX10_writingAt 26 = .ok (.iconst 4, 1) := by decide +kernel
theorem dX10_writingAt_27 : decode cX10_writingAt 27 = .ok (.imul, 1) := by decide +kernel
theorem dX10_writingAt_28 : decode cX10_writingAt 28 = .ok (.iload_n 2, 1) := by decide +kernel
theorem dX10_writingAt_29 : decode cX10_writingAt 29 = .ok (.iload 5, 2) := by decide +kernel
theorem dX10_writingAt_31 : decode cX10_writingAt 31 = .ok (.irem, 1) := by decide +kernel
theorem dX10_writingAt_32 : decode cX10_writingAt 32 = .ok (.iadd, 1) := by decide +kernel
theorem dX10_writingAt_33 : decode cX10_writingAt 33 = .ok (.istore_n 3, 1) := by decide +kernel
theorem dX10_writingAt_34 : decode cX10_writingAt 34 = .ok (.iload_n 2, 1) := by decide +kernel
theorem dX10_writingAt_35 : decode cX10_writingAt 35 = .ok (.iload 5, 2) := by decide +kernel
theorem dX10_writingAt_37 : decode cX10_writingAt 37 = .ok (.idiv, 1) := by decide +kernel
theorem dX10_writingAt_38 : decode cX10_writingAt 38 = .ok (.istore_n 2, 1) := by decide +kernel
theorem dX10_writingAt_39 : decode cX10_writingAt 39 = .ok (.iinc 4 (-1), 3) := by decide +kernel
theorem dX10_writingAt_42 : decode cX10_writingAt 42 = .ok (.goto (-35), 3) := by decide +kernel
theorem dX10_writingAt_45 : decode cX10_writingAt 45 = .ok (.iload_n 3, 1) := by decide +kernel
theorem dX10_writingAt_46 : decode cX10_writingAt 46 = .ok (.ireturn, 1) := by decide +kernel
theorem dX10_topOfWriting_0 : decode cX10_topOfWriting 0 = .ok (.aload_n 0, 1) := by decide +kernel
theorem dX10_topOfWriting_1 : decode cX10_topOfWriting 1 = .ok (.getfield 39, 3) := by decide +kernel
theorem dX10_topOfWriting_4 : decode cX10_topOfWriting 4 = .ok (.iconst 5, 1) := by decide +kernel
theorem dX10_topOfWriting_5 : decode cX10_topOfWriting 5 = .ok (.iload_n 2, 1) := by decide +kernel
theorem dX10_topOfWriting_6 : decode cX10_topOfWriting 6 = .ok (.invokevirtual 89, 3) := by decide +kernel
theorem dX10_topOfWriting_9 : decode cX10_topOfWriting 9 = .ok (.istore_n 3, 1) := by decide +kernel
theorem dX10_topOfWriting_10 : decode cX10_topOfWriting 10 = .ok (.iconst 0, 1) := by decide +kernel
theorem dX10_topOfWriting_11 : decode cX10_topOfWriting 11 = .ok (.istore 4, 2) := by decide +kernel
theorem dX10_topOfWriting_13 : decode cX10_topOfWriting 13 = .ok (.iload 4, 2) := by decide +kernel
theorem dX10_topOfWriting_15 : decode cX10_topOfWriting 15 = .ok (.iconst 5, 1) := by decide +kernel
theorem dX10_topOfWriting_16 : decode cX10_topOfWriting 16 = .ok (.if_icmp .ge 52, 3) := by decide +kernel
theorem dX10_topOfWriting_19 : decode cX10_topOfWriting 19 = .ok (.aload_n 0, 1) := by decide +kernel
theorem dX10_topOfWriting_20 : decode cX10_topOfWriting 20 = .ok (.getfield 21, 3) := by decide +kernel
theorem dX10_topOfWriting_23 : decode cX10_topOfWriting 23 = .ok (.iload 4, 2) := by decide +kernel
theorem dX10_topOfWriting_25 : decode cX10_topOfWriting 25 = .ok (.iaload, 1) := by decide +kernel
theorem dX10_topOfWriting_26 : decode cX10_topOfWriting 26 = .ok (.ifCond .le 36, 3) := by decide +kernel
theorem dX10_topOfWriting_29 : decode cX10_topOfWriting 29 = .ok (.iload 4, 2) := by decide +kernel
theorem dX10_topOfWriting_31 : decode cX10_topOfWriting 31 = .ok (.iconst 3, 1) := by decide +kernel
theorem dX10_topOfWriting_32 : decode cX10_topOfWriting 32 = .ok (.imul, 1) := by decide +kernel
theorem dX10_topOfWriting_33 : decode cX10_topOfWriting 33 = .ok (.iload_n 1, 1) := by decide +kernel
theorem dX10_topOfWriting_34 : decode cX10_topOfWriting 34 = .ok (.iload 4, 2) := by decide +kernel
theorem dX10_topOfWriting_36 : decode cX10_topOfWriting 36 = .ok (.invokestatic 47, 3) := by decide +kernel
theorem dX10_topOfWriting_39 : decode cX10_topOfWriting 39 = .ok (.iadd, 1) := by decide +kernel
theorem dX10_topOfWriting_40 : decode cX10_topOfWriting 40 = .ok (.istore 5, 2) := by decide +kernel
theorem dX10_topOfWriting_42 : decode cX10_topOfWriting 42 = .ok (.aload_n 0, 1) := by decide +kernel
theorem dX10_topOfWriting_43 : decode cX10_topOfWriting 43 = .ok (.getfield 13, 3) := by decide +kernel
theorem dX10_topOfWriting_46 : decode cX10_topOfWriting 46 = .ok (.iload 5, 2) := by decide +kernel
theorem dX10_topOfWriting_48 : decode cX10_topOfWriting 48 = .ok (.aaload, 1) := by decide +kernel
theorem dX10_topOfWriting_49 : decode cX10_topOfWriting 49 = .ok (.iload_n 3, 1) := by decide +kernel
theorem dX10_topOfWriting_50 : decode cX10_topOfWriting 50 = .ok (.aload_n 0, 1) := by decide +kernel
theorem dX10_topOfWriting_51 : decode cX10_topOfWriting 51 = .ok (.getfield 17, 3) := by decide +kernel
theorem dX10_topOfWriting_54 : decode cX10_topOfWriting 54 = .ok (.iload 5, 2) := by decide +kernel
theorem dX10_topOfWriting_56 : decode cX10_topOfWriting 56 = .ok (.iaload, 1) := by decide +kernel
theorem dX10_topOfWriting_57 : decode cX10_topOfWriting 57 = .ok (.iload_n 2, 1) := by decide +kernel
theorem dX10_topOfWriting_58 : decode cX10_topOfWriting 58 = .ok (.invokevirtual 94, 3) := by decide +kernel
theorem dX10_topOfWriting_61 : decode cX10_topOfWriting 61 = .ok (.istore_n 3, 1) := by decide +kernel
theorem dX10_topOfWriting_62 : decode cX10_topOfWriting 62 = .ok (.iinc 4 1, 3) := by decide +kernel
theorem dX10_topOfWriting_65 : decode cX10_topOfWriting 65 = .ok (.goto (-52), 3) := by decide +kernel
theorem dX10_topOfWriting_68 : decode cX10_topOfWriting 68 = .ok (.iload_n 3, 1) := by decide +kernel
theorem dX10_topOfWriting_69 : decode cX10_topOfWriting 69 = .ok (.ireturn, 1) := by decide +kernel
theorem dX10_keepBy_0 : decode cX10_keepBy 0 = .ok (.iconst 0, 1) := by decide +kernel
theorem dX10_keepBy_1 : decode cX10_keepBy 1 = .ok (.istore_n 2, 1) := by decide +kernel
theorem dX10_keepBy_2 : decode cX10_keepBy 2 = .ok (.iload_n 2, 1) := by decide +kernel
theorem dX10_keepBy_3 : decode cX10_keepBy 3 = .ok (.iload_n 1, 1) := by decide +kernel
theorem dX10_keepBy_4 : decode cX10_keepBy 4 = .ok (.if_icmp .ge 31, 3) := by decide +kernel
theorem dX10_keepBy_7 : decode cX10_keepBy 7 = .ok (.aload_n 0, 1) := by decide +kernel
theorem dX10_keepBy_8 : decode cX10_keepBy 8 = .ok (.getfield 36, 3) := by decide +kernel
theorem dX10_keepBy_11 : decode cX10_keepBy 11 = .ok (.iload_n 2, 1) := by decide +kernel
theorem dX10_keepBy_12 : decode cX10_keepBy 12 = .ok (.dup2, 1) := by decide +kernel
theorem dX10_keepBy_13 : decode cX10_keepBy 13 = .ok (.iaload, 1) := by decide +kernel
theorem dX10_keepBy_14 : decode cX10_keepBy 14 = .ok (.aload_n 0, 1) := by decide +kernel
theorem dX10_keepBy_15 : decode cX10_keepBy 15 = .ok (.aload_n 0, 1) := by decide +kernel
theorem dX10_keepBy_16 : decode cX10_keepBy 16 = .ok (.getfield 33, 3) := by decide +kernel
theorem dX10_keepBy_19 : decode cX10_keepBy 19 = .ok (.iload_n 2, 1) := by decide +kernel
theorem dX10_keepBy_20 : decode cX10_keepBy 20 = .ok (.iaload, 1) := by decide +kernel
theorem dX10_keepBy_21 : decode cX10_keepBy 21 = .ok (.invokestatic 66, 3) := by decide +kernel
theorem dX10_keepBy_24 : decode cX10_keepBy 24 = .ok (.invokevirtual 70, 3) := by decide +kernel
theorem dX10_keepBy_27 : decode cX10_keepBy 27 = .ok (.iadd, 1) := by decide +kernel
theorem dX10_keepBy_28 : decode cX10_keepBy 28 = .ok (.iastore, 1) := by decide +kernel
theorem dX10_keepBy_29 : decode cX10_keepBy 29 = .ok (.iinc 2 1, 3) := by decide +kernel
theorem dX10_keepBy_32 : decode cX10_keepBy 32 = .ok (.goto (-30), 3) := by decide +kernel
theorem dX10_keepBy_35 : decode cX10_keepBy 35 = .ok (.return_, 1) := by decide +kernel
theorem dX10_spreadTops_0 : decode cX10_spreadTops 0 = .ok (.aload_n 0, 1) := by decide +kernel
theorem dX10_spreadTops_1 : decode cX10_spreadTops 1 = .ok (.getfield 33, 3) := by decide +kernel
theorem dX10_spreadTops_4 : decode cX10_spreadTops 4 = .ok (.iconst 0, 1) := by decide +kernel
theorem dX10_spreadTops_5 : decode cX10_spreadTops 5 = .ok (.aload_n 0, 1) := by decide +kernel
theorem dX10_spreadTops_6 : decode cX10_spreadTops 6 = .ok (.getfield 39, 3) := by decide +kernel
theorem dX10_spreadTops_9 : decode cX10_spreadTops 9 = .ok (.iconst 5, 1) := by decide +kernel
theorem dX10_spreadTops_10 : decode cX10_spreadTops 10 = .ok (.iload_n 1, 1) := by decide +kernel
theorem dX10_spreadTops_11 : decode cX10_spreadTops 11 = .ok (.invokevirtual 89, 3) := by decide +kernel
theorem dX10_spreadTops_14 : decode cX10_spreadTops 14 = .ok (.iastore, 1) := by decide +kernel
theorem dX10_spreadTops_15 : decode cX10_spreadTops 15 = .ok (.iconst 1, 1) := by decide +kernel
theorem dX10_spreadTops_16 : decode cX10_spreadTops 16 = .ok (.istore_n 2, 1) := by decide +kernel
theorem dX10_spreadTops_17 : decode cX10_spreadTops 17 = .ok (.iconst 0, 1) := by decide +kernel
theorem dX10_spreadTops_18 : decode cX10_spreadTops 18 = .ok (.istore_n 3, 1) := by decide +kernel
theorem dX10_spreadTops_19 : decode cX10_spreadTops 19 = .ok (.iload_n 3, 1) := by decide +kernel
theorem dX10_spreadTops_20 : decode cX10_spreadTops 20 = .ok (.iconst 5, 1) := by decide +kernel
theorem dX10_spreadTops_21 : decode cX10_spreadTops 21 = .ok (.if_icmp .ge 39, 3) := by decide +kernel
theorem dX10_spreadTops_24 : decode cX10_spreadTops 24 = .ok (.aload_n 0, 1) := by decide +kernel
theorem dX10_spreadTops_25 : decode cX10_spreadTops 25 = .ok (.getfield 21, 3) := by decide +kernel
theorem dX10_spreadTops_28 : decode cX10_spreadTops 28 = .ok (.iload_n 3, 1) := by decide +kernel
theorem dX10_spreadTops_29 : decode cX10_spreadTops 29 = .ok (.iaload, 1) := by decide +kernel
theorem dX10_spreadTops_30 : decode cX10_spreadTops 30 = .ok (.ifCond .le 24, 3) := by decide +kernel
theorem dX10_spreadTops_33 : decode cX10_spreadTops 33 = .ok (.aload_n 0, 1) := by decide +kernel
theorem dX10_spreadTops_34 : decode cX10_spreadTops 34 = .ok (.iload_n 3, 1) := by decide +kernel
theorem dX10_spreadTops_35 : decode cX10_spreadTops 35 = .ok (.iload_n 2, 1) := by decide +kernel
theorem dX10_spreadTops_36 : decode cX10_spreadTops 36 = .ok (.aload_n 0, 1) := by decide +kernel
theorem dX10_spreadTops_37 : decode cX10_spreadTops 37 = .ok (.iload_n 3, 1) := by decide +kernel
theorem dX10_spreadTops_38 : decode cX10_spreadTops 38 = .ok (.iload_n 1, 1) := by decide +kernel
theorem dX10_spreadTops_39 : decode cX10_spreadTops 39 = .ok (.invokevirtual 98, 3) := by decide +kernel
theorem dX10_spreadTops_42 : decode cX10_spreadTops 42 = .ok (.invokevirtual 101, 3) := by decide +kernel
theorem dX10_spreadTops_45 : decode cX10_spreadTops 45 = .ok (.iload_n 2, 1) := by decide +kernel
theorem dX10_spreadTops_46 : decode cX10_spreadTops 46 = .ok (.aload_n 0, 1) := by decide +kernel
theorem dX10_spreadTops_47 : decode cX10_spreadTops 47 = .ok (.getfield 21, 3) := by decide +kernel
theorem dX10_spreadTops_50 : decode cX10_spreadTops 50 = .ok (.iload_n 3, 1) := by decide +kernel
theorem dX10_spreadTops_51 : decode cX10_spreadTops 51 = .ok (.iaload, 1) := by decide +kernel
theorem dX10_spreadTops_52 : decode cX10_spreadTops 52 = .ok (.imul, 1) := by decide +kernel
theorem dX10_spreadTops_53 : decode cX10_spreadTops 53 = .ok (.istore_n 2, 1) := by decide +kernel
theorem dX10_spreadTops_54 : decode cX10_spreadTops 54 = .ok (.iinc 3 1, 3) := by decide +kernel
theorem dX10_spreadTops_57 : decode cX10_spreadTops 57 = .ok (.goto (-38), 3) := by decide +kernel
theorem dX10_spreadTops_60 : decode cX10_spreadTops 60 = .ok (.return_, 1) := by decide +kernel
theorem dX10_spreadOver_0 : decode cX10_spreadOver 0 = .ok (.aload_n 0, 1) := by decide +kernel
theorem dX10_spreadOver_1 : decode cX10_spreadOver 1 = .ok (.getfield 21, 3) := by decide +kernel
theorem dX10_spreadOver_4 : decode cX10_spreadOver 4 = .ok (.iload_n 1, 1) := by decide +kernel
theorem dX10_spreadOver_5 : decode cX10_spreadOver 5 = .ok (.iaload, 1) := by decide +kernel
theorem dX10_spreadOver_6 : decode cX10_spreadOver 6 = .ok (.istore 4, 2) := by decide +kernel
theorem dX10_spreadOver_8 : decode cX10_spreadOver 8 = .ok (.iload_n 2, 1) := by decide +kernel
theorem dX10_spreadOver_9 : decode cX10_spreadOver 9 = .ok (.iconst 1, 1) := by decide +kernel
theorem dX10_spreadOver_10 : decode cX10_spreadOver 10 = .ok (.isub, 1) := by decide +kernel
theorem dX10_spreadOver_11 : decode cX10_spreadOver 11 = .ok (.istore 5, 2) := by decide +kernel
theorem dX10_spreadOver_13 : decode cX10_spreadOver 13 = .ok (.iload 5, 2) := by decide +kernel
theorem dX10_spreadOver_15 : decode cX10_spreadOver 15 = .ok (.ifCond .lt 104, 3) := by decide +kernel
theorem dX10_spreadOver_18 : decode cX10_spreadOver 18 = .ok (.aload_n 0, 1) := by decide +kernel
theorem dX10_spreadOver_19 : decode cX10_spreadOver 19 = .ok (.getfield 33, 3) := by decide +kernel
theorem dX10_spreadOver_22 : decode cX10_spreadOver 22 = .ok (.iload 5, 2) := by decide +kernel
theorem dX10_spreadOver_24 : decode cX10_spreadOver 24 = .ok (.iaload, 1) := by decide +kernel
theorem dX10_spreadOver_25 : decode cX10_spreadOver 25 = .ok (.istore 6, 2) := by decide +kernel
theorem dX10_spreadOver_27 : decode cX10_spreadOver 27 = .ok (.iload 4, 2) := by decide +kernel
theorem dX10_spreadOver_29 : decode cX10_spreadOver 29 = .ok (.iconst 1, 1) := by decide +kernel
theorem dX10_spreadOver_30 : decode cX10_spreadOver 30 = .ok (.isub, 1) := by decide +kernel
theorem dX10_spreadOver_31 : decode cX10_spreadOver 31 = .ok (.istore 7, 2) := by decide +kernel
theorem dX10_spreadOver_33 : decode cX10_spreadOver 33 = .ok (.iload 7, 2) := by decide +kernel
theorem dX10_spreadOver_35 : decode cX10_spreadOver 35 = .ok (.ifCond .lt 78, 3) := by decide +kernel
theorem dX10_spreadOver_38 : decode cX10_spreadOver 38 = .ok (.iload_n 1, 1) := by decide +kernel
theorem dX10_spreadOver_39 : decode cX10_spreadOver 39 = .ok (.iconst 3, 1) := by decide +kernel
theorem dX10_spreadOver_40 : decode cX10_spreadOver 40 = .ok (.imul, 1) := by decide +kernel
theorem dX10_spreadOver_41 : decode cX10_spreadOver 41 = .ok (.iload 7, 2) := by decide +kernel
theorem dX10_spreadOver_43 : decode cX10_spreadOver 43 = .ok (.iadd, 1) := by decide +kernel
theorem dX10_spreadOver_44 : decode cX10_spreadOver 44 = .ok (.istore 8, 2) := by decide +kernel
theorem dX10_spreadOver_46 : decode cX10_spreadOver 46 = .ok (.iload_n 3, 1) := by decide +kernel
theorem dX10_spreadOver_47 : decode cX10_spreadOver 47 = .ok (.iload 7, 2) := by decide +kernel
theorem dX10_spreadOver_49 : decode cX10_spreadOver 49 = .ok (.ishr, 1) := by decide +kernel
theorem dX10_spreadOver_50 : decode cX10_spreadOver 50 = .ok (.iconst 1, 1) := by decide +kernel
theorem dX10_spreadOver_51 : decode cX10_spreadOver 51 = .ok (.iand, 1) := by decide +kernel
theorem dX10_spreadOver_52 : decode cX10_spreadOver 52 = .ok (.ifCond .eq 7, 3) := by decide +kernel
theorem dX10_spreadOver_55 : decode cX10_spreadOver 55 = .ok (.iconst 1, 1) := by decide +kernel
theorem dX10_spreadOver_56 : decode cX10_spreadOver 56 = .ok (.goto 4, 3) := by decide +kernel
theorem dX10_spreadOver_59 : decode cX10_spreadOver 59 = .ok (.iconst 0, 1) := by decide +kernel
theorem dX10_spreadOver_60 : decode cX10_spreadOver 60 = .ok (.istore 9, 2) := by decide +kernel
theorem dX10_spreadOver_62 : decode cX10_spreadOver 62 = .ok (.aload_n 0, 1) := by decide +kernel
theorem dX10_spreadOver_63 : decode cX10_spreadOver 63 = .ok (.getfield 33, 3) := by decide +kernel
theorem dX10_spreadOver_66 : decode cX10_spreadOver 66 = .ok (.iload 5, 2) := by decide +kernel
theorem dX10_spreadOver_68 : decode cX10_spreadOver 68 = .ok (.iload 4, 2) := by decide +kernel
theorem dX10_spreadOver_70 : decode cX10_spreadOver 70 = .ok (.imul, 1) := by decide +kernel
theorem dX10_spreadOver_71 : decode cX10_spreadOver 71 = .ok (.iload 7, 2) := by decide +kernel
theorem dX10_spreadOver_73 : decode cX10_spreadOver 73 = .ok (.iadd, 1) := by decide +kernel
theorem dX10_spreadOver_74 : decode cX10_spreadOver 74 = .ok (.iload 9, 2) := by decide +kernel
theorem dX10_spreadOver_76 : decode cX10_spreadOver 76 = .ok (.ifCond .eq 28, 3) := by decide +kernel
theorem dX10_spreadOver_79 : decode cX10_spreadOver 79 = .ok (.iload 6, 2) := by decide +kernel
theorem dX10_spreadOver_81 : decode cX10_spreadOver 81 = .ok (.aload_n 0, 1) := by decide +kernel
theorem dX10_spreadOver_82 : decode cX10_spreadOver 82 = .ok (.getfield 17, 3) := by decide +kernel
theorem dX10_spreadOver_85 : decode cX10_spreadOver 85 = .ok (.iload 8, 2) := by decide +kernel
theorem dX10_spreadOver_87 : decode cX10_spreadOver 87 = .ok (.iaload, 1) := by decide +kernel
theorem dX10_spreadOver_88 : decode cX10_spreadOver 88 = .ok (.aload_n 0, 1) := by decide +kernel
theorem dX10_spreadOver_89 : decode cX10_spreadOver 89 = .ok (.getfield 13, 3) := by decide +kernel
theorem dX10_spreadOver_92 : decode cX10_spreadOver 92 = .ok (.iload 8, 2) := by decide +kernel
theorem dX10_spreadOver_94 : decode cX10_spreadOver 94 = .ok (.aaload, 1) := by decide +kernel
theorem dX10_spreadOver_95 : decode cX10_spreadOver 95 = .ok (.getfield 105, 3) := by decide +kernel
theorem dX10_spreadOver_98 : decode cX10_spreadOver 98 = .ok (.invokestatic 108, 3) := by decide +kernel
theorem dX10_spreadOver_101 : decode cX10_spreadOver 101 = .ok (.goto 5, 3) := by decide +kernel
theorem dX10_spreadOver_104 : decode cX10_spreadOver 104 = .ok (.iload 6, 2) := by decide +kernel
theorem dX10_spreadOver_106 : decode cX10_spreadOver 106 = .ok (.iastore, 1) := by decide +kernel
theorem dX10_spreadOver_107 : decode cX10_spreadOver 107 = .ok (.iinc 7 (-1), 3) := by decide +kernel
theorem dX10_spreadOver_110 : decode cX10_spreadOver 110 = .ok (.goto (-77), 3) := by decide +kernel
theorem dX10_spreadOver_113 : decode cX10_spreadOver 113 = .ok (.iinc 5 (-1), 3) := by decide +kernel
theorem dX10_spreadOver_116 : decode cX10_spreadOver 116 = .ok (.goto (-103), 3) := by decide +kernel
theorem dX10_spreadOver_119 : decode cX10_spreadOver 119 = .ok (.return_, 1) := by decide +kernel
theorem dX10_waysFitting_0 : decode cX10_waysFitting 0 = .ok (.iconst 0, 1) := by decide +kernel
theorem dX10_waysFitting_1 : decode cX10_waysFitting 1 = .ok (.istore_n 3, 1) := by decide +kernel
theorem dX10_waysFitting_2 : decode cX10_waysFitting 2 = .ok (.iconst 0, 1) := by decide +kernel
theorem dX10_waysFitting_3 : decode cX10_waysFitting 3 = .ok (.istore 4, 2) := by decide +kernel
theorem dX10_waysFitting_5 : decode cX10_waysFitting 5 = .ok (.iload 4, 2) := by decide +kernel
theorem dX10_waysFitting_7 : decode cX10_waysFitting 7 = .ok (.aload_n 0, 1) := by decide +kernel
theorem dX10_waysFitting_8 : decode cX10_waysFitting 8 = .ok (.getfield 21, 3) := by decide +kernel
theorem dX10_waysFitting_11 : decode cX10_waysFitting 11 = .ok (.iload_n 1, 1) := by decide +kernel
theorem dX10_waysFitting_12 : decode cX10_waysFitting 12 = .ok (.iaload, 1) := by decide +kernel
theorem dX10_waysFitting_13 : decode cX10_waysFitting 13 = .ok (.if_icmp .ge 37, 3) := by decide +kernel
theorem dX10_waysFitting_16 : decode cX10_waysFitting 16 = .ok (.aload_n 0, 1) := by decide +kernel
theorem dX10_waysFitting_17 : decode cX10_waysFitting 17 = .ok (.getfield 13, 3) := by decide +kernel
theorem dX10_waysFitting_20 : decode cX10_waysFitting 20 = .ok (.iload_n 1, 1) := by decide +kernel
theorem dX10_waysFitting_21 : decode cX10_waysFitting 21 = .ok (.iconst 3, 1) := by decide +kernel
theorem dX10_waysFitting_22 : decode cX10_waysFitting 22 = .ok (.imul, 1) := by decide +kernel
theorem dX10_waysFitting_23 : decode cX10_waysFitting 23 = .ok (.iload 4, 2) := by decide +kernel
theorem dX10_waysFitting_25 : decode cX10_waysFitting 25 = .ok (.iadd, 1) := by decide +kernel
theorem dX10_waysFitting_26 : decode cX10_waysFitting 26 = .ok (.aaload, 1) := by decide +kernel
theorem dX10_waysFitting_27 : decode cX10_waysFitting 27 = .ok (.getfield 111, 3) := by decide +kernel
theorem dX10_waysFitting_30 : decode cX10_waysFitting 30 = .ok (.iload_n 2, 1) := by decide +kernel
theorem dX10_waysFitting_31 : decode cX10_waysFitting 31 = .ok (.invokevirtual 115, 3) := by decide +kernel
theorem dX10_waysFitting_34 : decode cX10_waysFitting 34 = .ok (.ifCond .eq 10, 3) := by decide +kernel
theorem dX10_waysFitting_37 : decode cX10_waysFitting 37 = .ok (.iload_n 3, 1) := by decide +kernel
theorem dX10_waysFitting_38 : decode cX10_waysFitting 38 = .ok (.iconst 1, 1) := by decide +kernel
theorem dX10_waysFitting_39 : decode cX10_waysFitting 39 = .ok (.iload 4, 2) := by decide +kernel
theorem dX10_waysFitting_41 : decode cX10_waysFitting 41 = .ok (.ishl, 1) := by decide +kernel
theorem dX10_waysFitting_42 : decode cX10_waysFitting 42 = .ok (.ior, 1) := by decide +kernel
theorem dX10_waysFitting_43 : decode cX10_waysFitting 43 = .ok (.istore_n 3, 1) := by decide +kernel
theorem dX10_waysFitting_44 : decode cX10_waysFitting 44 = .ok (.iinc 4 1, 3) := by decide +kernel
theorem dX10_waysFitting_47 : decode cX10_waysFitting 47 = .ok (.goto (-42), 3) := by decide +kernel
theorem dX10_waysFitting_50 : decode cX10_waysFitting 50 = .ok (.iload_n 3, 1) := by decide +kernel
theorem dX10_waysFitting_51 : decode cX10_waysFitting 51 = .ok (.ireturn, 1) := by decide +kernel
theorem dX10_digitOf_0 : decode cX10_digitOf 0 = .ok (.iload_n 0, 1) := by decide +kernel
theorem dX10_digitOf_1 : decode cX10_digitOf 1 = .ok (.iconst 2, 1) := by decide +kernel
theorem dX10_digitOf_2 : decode cX10_digitOf 2 = .ok (.iload_n 1, 1) := by decide +kernel
theorem dX10_digitOf_3 : decode cX10_digitOf 3 = .ok (.imul, 1) := by decide +kernel
theorem dX10_digitOf_4 : decode cX10_digitOf 4 = .ok (.ishr, 1) := by decide +kernel
theorem dX10_digitOf_5 : decode cX10_digitOf 5 = .ok (.iconst 3, 1) := by decide +kernel
theorem dX10_digitOf_6 : decode cX10_digitOf 6 = .ok (.iand, 1) := by decide +kernel
theorem dX10_digitOf_7 : decode cX10_digitOf 7 = .ok (.ireturn, 1) := by decide +kernel
theorem dX10_prepare_0 : decode cX10_prepare 0 = .ok (.aload_n 0, 1) := by decide +kernel
theorem dX10_prepare_1 : decode cX10_prepare 1 = .ok (.getfield 39, 3) := by decide +kernel
theorem dX10_prepare_4 : decode cX10_prepare 4 = .ok (.iload_n 1, 1) := by decide +kernel
theorem dX10_prepare_5 : decode cX10_prepare 5 = .ok (.iload_n 1, 1) := by decide +kernel
theorem dX10_prepare_6 : decode cX10_prepare 6 = .ok (.invokevirtual 121, 3) := by decide +kernel
theorem dX10_prepare_9 : decode cX10_prepare 9 = .ok (.iconst 0, 1) := by decide +kernel
theorem dX10_prepare_10 : decode cX10_prepare 10 = .ok (.istore_n 2, 1) := by decide +kernel
theorem dX10_prepare_11 : decode cX10_prepare 11 = .ok (.iload_n 2, 1) := by decide +kernel
theorem dX10_prepare_12 : decode cX10_prepare 12 = .ok (.iconst 5, 1) := by decide +kernel
theorem dX10_prepare_13 : decode cX10_prepare 13 = .ok (.if_icmp .ge 23, 3) := by decide +kernel
theorem dX10_prepare_16 : decode cX10_prepare 16 = .ok (.aload_n 0, 1) := by decide +kernel
theorem dX10_prepare_17 : decode cX10_prepare 17 = .ok (.getfield 24, 3) := by decide +kernel
theorem dX10_prepare_20 : decode cX10_prepare 20 = .ok (.iload_n 2, 1) := by decide +kernel
theorem dX10_prepare_21 : decode cX10_prepare 21 = .ok (.aload_n 0, 1) := by decide +kernel
theorem dX10_prepare_22 : decode cX10_prepare 22 = .ok (.getfield 43, 3) := by decide +kernel
theorem dX10_prepare_25 : decode cX10_prepare 25 = .ok (.iload_n 2, 1) := by decide +kernel
theorem dX10_prepare_26 : decode cX10_prepare 26 = .ok (.invokevirtual 125, 3) := by decide +kernel
theorem dX10_prepare_29 : decode cX10_prepare 29 = .ok (.iastore, 1) := by decide +kernel
theorem dX10_prepare_30 : decode cX10_prepare 30 = .ok (.iinc 2 1, 3) := by decide +kernel
theorem dX10_prepare_33 : decode cX10_prepare 33 = .ok (.goto (-22), 3) := by decide +kernel
theorem dX10_prepare_36 : decode cX10_prepare 36 = .ok (.return_, 1) := by decide +kernel
theorem dX10_askCustoms_0 : decode cX10_askCustoms 0 = .ok (.aload_n 0, 1) := by decide +kernel
theorem dX10_askCustoms_1 : decode cX10_askCustoms 1 = .ok (.iconst 0, 1) := by decide +kernel
theorem dX10_askCustoms_2 : decode cX10_askCustoms 2 = .ok (.putfield 79, 3) := by decide +kernel
theorem dX10_askCustoms_5 : decode cX10_askCustoms 5 = .ok (.iconst 0, 1) := by decide +kernel
theorem dX10_askCustoms_6 : decode cX10_askCustoms 6 = .ok (.istore_n 2, 1) := by decide +kernel
theorem dX10_askCustoms_7 : decode cX10_askCustoms 7 = .ok (.iload_n 2, 1) := by decide +kernel
theorem dX10_askCustoms_8 : decode cX10_askCustoms 8 = .ok (.iconst 5, 1) := by decide +kernel
theorem dX10_askCustoms_9 : decode cX10_askCustoms 9 = .ok (.if_icmp .ge 75, 3) := by decide +kernel
theorem dX10_askCustoms_12 : decode cX10_askCustoms 12 = .ok (.aload_n 0, 1) := by decide +kernel
theorem dX10_askCustoms_13 : decode cX10_askCustoms 13 = .ok (.getfield 24, 3) := by decide +kernel
theorem dX10_askCustoms_16 : decode cX10_askCustoms 16 = .ok (.iload_n 2, 1) := by decide +kernel
theorem dX10_askCustoms_17 : decode cX10_askCustoms 17 = .ok (.iaload, 1) := by decide +kernel
theorem dX10_askCustoms_18 : decode cX10_askCustoms 18 = .ok (.ifCond .le 18, 3) := by decide +kernel
theorem dX10_askCustoms_21 : decode cX10_askCustoms 21 = .ok (.aload_n 0, 1) := by decide +kernel
theorem dX10_askCustoms_22 : decode cX10_askCustoms 22 = .ok (.getfield 39, 3) := by decide +kernel
theorem dX10_askCustoms_25 : decode cX10_askCustoms 25 = .ok (.iload_n 2, 1) := by decide +kernel
theorem dX10_askCustoms_26 : decode cX10_askCustoms 26 = .ok (.iload_n 1, 1) := by decide +kernel
theorem dX10_askCustoms_27 : decode cX10_askCustoms 27 = .ok (.invokevirtual 89, 3) := by decide +kernel
theorem dX10_askCustoms_30 : decode cX10_askCustoms 30 = .ok (.invokestatic 66, 3) := by decide +kernel
theorem dX10_askCustoms_33 : decode cX10_askCustoms 33 = .ok (.goto 5, 3) := by decide +kernel
theorem dX10_askCustoms_36 : decode cX10_askCustoms 36 = .ok (.bipush (-3), 2) := by decide +kernel
theorem dX10_askCustoms_38 : decode cX10_askCustoms 38 = .ok (.istore_n 3, 1) := by decide +kernel
theorem dX10_askCustoms_39 : decode cX10_askCustoms 39 = .ok (.iload_n 3, 1) := by decide +kernel
theorem dX10_askCustoms_40 : decode cX10_askCustoms 40 = .ok (.ifCond .lt 38, 3) := by decide +kernel
theorem dX10_askCustoms_43 : decode cX10_askCustoms 43 = .ok (.aload_n 0, 1) := by decide +kernel
theorem dX10_askCustoms_44 : decode cX10_askCustoms 44 = .ok (.getfield 27, 3) := by decide +kernel
theorem dX10_askCustoms_47 : decode cX10_askCustoms 47 = .ok (.aload_n 0, 1) := by decide +kernel
theorem dX10_askCustoms_48 : decode cX10_askCustoms 48 = .ok (.getfield 79, 3) := by decide +kernel
theorem dX10_askCustoms_51 : decode cX10_askCustoms 51 = .ok (.iload_n 3, 1) := by decide +kernel
theorem dX10_askCustoms_52 : decode cX10_askCustoms 52 = .ok (.iastore, 1) := by decide +kernel
theorem dX10_askCustoms_53 : decode cX10_askCustoms 53 = .ok (.aload_n 0, 1) := by decide +kernel
theorem dX10_askCustoms_54 : decode cX10_askCustoms 54 = .ok (.getfield 30, 3) := by decide +kernel
theorem dX10_askCustoms_57 : decode cX10_askCustoms 57 = .ok (.aload_n 0, 1) := by decide +kernel
theorem dX10_askCustoms_58 : decode cX10_askCustoms 58 = .ok (.getfield 79, 3) := by decide +kernel
theorem dX10_askCustoms_61 : decode cX10_askCustoms 61 = .ok (.aload_n 0, 1) := by decide +kernel
theorem dX10_askCustoms_62 : decode cX10_askCustoms 62 = .ok (.getfield 24, 3) := by decide +kernel
theorem dX10_askCustoms_65 : decode cX10_askCustoms 65 = .ok (.iload_n 2, 1) := by decide +kernel
theorem dX10_askCustoms_66 : decode cX10_askCustoms 66 = .ok (.iaload, 1) := by decide +kernel
theorem dX10_askCustoms_67 : decode cX10_askCustoms 67 = .ok (.iastore, 1) := by decide +kernel
theorem dX10_askCustoms_68 : decode cX10_askCustoms 68 = .ok (.aload_n 0, 1) := by decide +kernel
theorem dX10_askCustoms_69 : decode cX10_askCustoms 69 = .ok (.dup, 1) := by decide +kernel
theorem dX10_askCustoms_70 : decode cX10_askCustoms 70 = .ok (.getfield 79, 3) := by decide +kernel
theorem dX10_askCustoms_73 : decode cX10_askCustoms 73 = .ok (.iconst 1, 1) := by decide +kernel
theorem dX10_askCustoms_74 : decode cX10_askCustoms 74 = .ok (.iadd, 1) := by decide +kernel
theorem dX10_askCustoms_75 : decode cX10_askCustoms 75 = .ok (.putfield 79, 3) := by decide +kernel
theorem dX10_askCustoms_78 : decode cX10_askCustoms 78 = .ok (.iinc 2 1, 3) := by decide +kernel
theorem dX10_askCustoms_81 : decode cX10_askCustoms 81 = .ok (.goto (-74), 3) := by decide +kernel
theorem dX10_askCustoms_84 : decode cX10_askCustoms 84 = .ok (.return_, 1) := by decide +kernel
theorem dX10_peopleWith_0 : decode cX10_peopleWith 0 = .ok (.iconst 0, 1) := by decide +kernel
theorem dX10_peopleWith_1 : decode cX10_peopleWith 1 = .ok (.istore_n 2, 1) := by decide +kernel
theorem dX10_peopleWith_2 : decode cX10_peopleWith 2 = .ok (.iconst 0, 1) := by decide +kernel
theorem dX10_peopleWith_3 : decode cX10_peopleWith 3 = .ok (.istore_n 3, 1) := by decide +kernel
theorem dX10_peopleWith_4 : decode cX10_peopleWith 4 = .ok (.iload_n 3, 1) := by decide +kernel
theorem dX10_peopleWith_5 : decode cX10_peopleWith 5 = .ok (.aload_n 0, 1) := by decide +kernel
theorem dX10_peopleWith_6 : decode cX10_peopleWith 6 = .ok (.getfield 79, 3) := by decide +kernel
theorem dX10_peopleWith_9 : decode cX10_peopleWith 9 = .ok (.if_icmp .ge 28, 3) := by decide +kernel
theorem dX10_peopleWith_12 : decode cX10_peopleWith 12 = .ok (.aload_n 0, 1) := by decide +kernel
theorem dX10_peopleWith_13 : decode cX10_peopleWith 13 = .ok (.getfield 27, 3) := by decide +kernel
theorem dX10_peopleWith_16 : decode cX10_peopleWith 16 = .ok (.iload_n 3, 1) := by decide +kernel
theorem dX10_peopleWith_17 : decode cX10_peopleWith 17 = .ok (.iaload, 1) := by decide +kernel
theorem dX10_peopleWith_18 : decode cX10_peopleWith 18 = .ok (.iload_n 1, 1) := by decide +kernel
theorem dX10_peopleWith_19 : decode cX10_peopleWith 19 = .ok (.if_icmp .ne 12, 3) := by decide +kernel
theorem dX10_peopleWith_22 : decode cX10_peopleWith 22 = .ok (.iload_n 2, 1) := by decide +kernel
theorem dX10_peopleWith_23 : decode cX10_peopleWith 23 = .ok (.aload_n 0, 1) := by decide +kernel
theorem dX10_peopleWith_24 : decode cX10_peopleWith 24 = .ok (.getfield 30, 3) := by decide +kernel
theorem dX10_peopleWith_27 : decode cX10_peopleWith 27 = .ok (.iload_n 3, 1) := by decide +kernel
theorem dX10_peopleWith_28 : decode cX10_peopleWith 28 = .ok (.iaload, 1) := by decide +kernel
theorem dX10_peopleWith_29 : decode cX10_peopleWith 29 = .ok (.iadd, 1) := by decide +kernel
theorem dX10_peopleWith_30 : decode cX10_peopleWith 30 = .ok (.istore_n 2, 1) := by decide +kernel
theorem dX10_peopleWith_31 : decode cX10_peopleWith 31 = .ok (.iinc 3 1, 3) := by decide +kernel
theorem dX10_peopleWith_34 : decode cX10_peopleWith 34 = .ok (.goto (-30), 3) := by decide +kernel
theorem dX10_peopleWith_37 : decode cX10_peopleWith 37 = .ok (.iload_n 2, 1) := by decide +kernel
theorem dX10_peopleWith_38 : decode cX10_peopleWith 38 = .ok (.ireturn, 1) := by decide +kernel
