/-! the printed decode rows -/
theorem dX0_init_0 : decode cX0_init 0 = .ok (.aload_n 0, 1) := by decide +kernel
theorem dX0_init_1 : decode cX0_init 1 = .ok (.invokespecial 3, 3) := by decide +kernel
theorem dX0_init_4 : decode cX0_init 4 = .ok (.aload_n 0, 1) := by decide +kernel
theorem dX0_init_5 : decode cX0_init 5 = .ok (.bipush 100, 2) := by decide +kernel
theorem dX0_init_7 : decode cX0_init 7 = .ok (.newarray .int, 2) := by decide +kernel
theorem dX0_init_9 : decode cX0_init 9 = .ok (.putfield 11, 3) := by decide +kernel
theorem dX0_init_12 : decode cX0_init 12 = .ok (.aload_n 0, 1) := by decide +kernel
theorem dX0_init_13 : decode cX0_init 13 = .ok (.bipush 100, 2) := by decide +kernel
theorem dX0_init_15 : decode cX0_init 15 = .ok (.newarray .int, 2) := by decide +kernel
theorem dX0_init_17 : decode cX0_init 17 = .ok (.putfield 15, 3) := by decide +kernel
theorem dX0_init_20 : decode cX0_init 20 = .ok (.aload_n 0, 1) := by decide +kernel
theorem dX0_init_21 : decode cX0_init 21 = .ok (.bipush 100, 2) := by decide +kernel
theorem dX0_init_23 : decode cX0_init 23 = .ok (.newarray .int, 2) := by decide +kernel
theorem dX0_init_25 : decode cX0_init 25 = .ok (.putfield 18, 3) := by decide +kernel
theorem dX0_init_28 : decode cX0_init 28 = .ok (.aload_n 0, 1) := by decide +kernel
theorem dX0_init_29 : decode cX0_init 29 = .ok (.bipush 24, 2) := by decide +kernel
theorem dX0_init_31 : decode cX0_init 31 = .ok (.newarray .int, 2) := by decide +kernel
theorem dX0_init_33 : decode cX0_init 33 = .ok (.putfield 21, 3) := by decide +kernel
theorem dX0_init_36 : decode cX0_init 36 = .ok (.return_, 1) := by decide +kernel
theorem dX0_isFull_0 : decode cX0_isFull 0 = .ok (.aload_n 0, 1) := by decide +kernel
theorem dX0_isFull_1 : decode cX0_isFull 1 = .ok (.getfield 24, 3) := by decide +kernel
theorem dX0_isFull_4 : decode cX0_isFull 4 = .ok (.bipush 100, 2) := by decide +kernel
theorem dX0_isFull_6 : decode cX0_isFull 6 = .ok (.if_icmp .lt 7, 3) := by decide +kernel
theorem dX0_isFull_9 : decode cX0_isFull 9 = .ok (.iconst 1, 1) := by decide +kernel
theorem dX0_isFull_10 : decode cX0_isFull 10 = .ok (.goto 4, 3) := by decide +kernel
theorem dX0_isFull_13 : decode cX0_isFull 13 = .ok (.iconst 0, 1) := by decide +kernel
theorem dX0_isFull_14 : decode cX0_isFull 14 = .ok (.ireturn, 1) := by decide +kernel
theorem dX0_add_0 : decode cX0_add 0 = .ok (.aload_n 0, 1) := by decide +kernel
theorem dX0_add_1 : decode cX0_add 1 = .ok (.getfield 11, 3) := by decide +kernel
theorem dX0_add_4 : decode cX0_add 4 = .ok (.aload_n 0, 1) := by decide +kernel
theorem dX0_add_5 : decode cX0_add 5 = .ok (.getfield 24, 3) := by decide +kernel
theorem dX0_add_8 : decode cX0_add 8 = .ok (.iload_n 1, 1) := by decide +kernel
theorem dX0_add_9 : decode cX0_add 9 = .ok (.iastore, 1) := by decide +kernel
theorem dX0_add_10 : decode cX0_add 10 = .ok (.aload_n 0, 1) := by decide +kernel
theorem dX0_add_11 : decode cX0_add 11 = .ok (.getfield 15, 3) := by decide +kernel
theorem dX0_add_14 : decode cX0_add 14 = .ok (.aload_n 0, 1) := by decide +kernel
theorem dX0_add_15 : decode cX0_add 15 = .ok (.getfield 24, 3) := by decide +kernel
theorem dX0_add_18 : decode cX0_add 18 = .ok (.iload_n 2, 1) := by decide +kernel
theorem dX0_add_19 : decode cX0_add 19 = .ok (.iastore, 1) := by decide +kernel
theorem dX0_add_20 : decode cX0_add 20 = .ok (.aload_n 0, 1) := by decide +kernel
theorem dX0_add_21 : decode cX0_add 21 = .ok (.getfield 18, 3) := by decide +kernel
theorem dX0_add_24 : decode cX0_add 24 = .ok (.aload_n 0, 1) := by decide +kernel
theorem dX0_add_25 : decode cX0_add 25 = .ok (.getfield 24, 3) := by decide +kernel
theorem dX0_add_28 : decode cX0_add 28 = .ok (.iload_n 3, 1) := by decide +kernel
theorem dX0_add_29 : decode cX0_add 29 = .ok (.iastore, 1) := by decide +kernel
theorem dX0_add_30 : decode cX0_add 30 = .ok (.aload_n 0, 1) := by decide +kernel
theorem dX0_add_31 : decode cX0_add 31 = .ok (.dup, 1) := by decide +kernel
theorem dX0_add_32 : decode cX0_add 32 = .ok (.getfield 24, 3) := by decide +kernel
theorem dX0_add_35 : decode cX0_add 35 = .ok (.iconst 1, 1) := by decide +kernel
theorem dX0_add_36 : decode cX0_add 36 = .ok (.iadd, 1) := by decide +kernel
theorem dX0_add_37 : decode cX0_add 37 = .ok (.putfield 24, 3) := by decide +kernel
theorem dX0_add_40 : decode cX0_add 40 = .ok (.aload_n 0, 1) := by decide +kernel
theorem dX0_add_41 : decode cX0_add 41 = .ok (.getfield 24, 3) := by decide +kernel
theorem dX0_add_44 : decode cX0_add 44 = .ok (.iconst 1, 1) := by decide +kernel
theorem dX0_add_45 : decode cX0_add 45 = .ok (.isub, 1) := by decide +kernel
theorem dX0_add_46 : decode cX0_add 46 = .ok (.ireturn, 1) := by decide +kernel
theorem dX0_formsLeft_0 : decode cX0_formsLeft 0 = .ok (.iconst 0, 1) := by decide +kernel
theorem dX0_formsLeft_1 : decode cX0_formsLeft 1 = .ok (.istore_n 2, 1) := by decide +kernel
theorem dX0_formsLeft_2 : decode cX0_formsLeft 2 = .ok (.iconst 0, 1) := by decide +kernel
theorem dX0_formsLeft_3 : decode cX0_formsLeft 3 = .ok (.istore_n 3, 1) := by decide +kernel
theorem dX0_formsLeft_4 : decode cX0_formsLeft 4 = .ok (.iload_n 3, 1) := by decide +kernel
theorem dX0_formsLeft_5 : decode cX0_formsLeft 5 = .ok (.bipush 72, 2) := by decide +kernel
theorem dX0_formsLeft_7 : decode cX0_formsLeft 7 = .ok (.if_icmp .ge 21, 3) := by decide +kernel
theorem dX0_formsLeft_10 : decode cX0_formsLeft 10 = .ok (.aload_n 0, 1) := by decide +kernel
theorem dX0_formsLeft_11 : decode cX0_formsLeft 11 = .ok (.iload_n 1, 1) := by decide +kernel
theorem dX0_formsLeft_12 : decode cX0_formsLeft 12 = .ok (.iload_n 3, 1) := by decide +kernel
theorem dX0_formsLeft_13 : decode cX0_formsLeft 13 = .ok (.invokevirtual 28, 3) := by decide +kernel
theorem dX0_formsLeft_16 : decode cX0_formsLeft 16 = .ok (.ifCond .eq 6, 3) := by decide +kernel
theorem dX0_formsLeft_19 : decode cX0_formsLeft 19 = .ok (.iinc 2 1, 3) := by decide +kernel
theorem dX0_formsLeft_22 : decode cX0_formsLeft 22 = .ok (.iinc 3 1, 3) := by decide +kernel
theorem dX0_formsLeft_25 : decode cX0_formsLeft 25 = .ok (.goto (-21), 3) := by decide +kernel
theorem dX0_formsLeft_28 : decode cX0_formsLeft 28 = .ok (.iload_n 2, 1) := by decide +kernel
theorem dX0_formsLeft_29 : decode cX0_formsLeft 29 = .ok (.ireturn, 1) := by decide +kernel
theorem dX0_formLeft_0 : decode cX0_formLeft 0 = .ok (.iconst 0, 1) := by decide +kernel
theorem dX0_formLeft_1 : decode cX0_formLeft 1 = .ok (.istore_n 3, 1) := by decide +kernel
theorem dX0_formLeft_2 : decode cX0_formLeft 2 = .ok (.iconst 0, 1) := by decide +kernel
theorem dX0_formLeft_3 : decode cX0_formLeft 3 = .ok (.istore 4, 2) := by decide +kernel
theorem dX0_formLeft_5 : decode cX0_formLeft 5 = .ok (.iload 4, 2) := by decide +kernel
theorem dX0_formLeft_7 : decode cX0_formLeft 7 = .ok (.bipush 72, 2) := by decide +kernel
theorem dX0_formLeft_9 : decode cX0_formLeft 9 = .ok (.if_icmp .ge 30, 3) := by decide +kernel
theorem dX0_formLeft_12 : decode cX0_formLeft 12 = .ok (.aload_n 0, 1) := by decide +kernel
theorem dX0_formLeft_13 : decode cX0_formLeft 13 = .ok (.iload_n 1, 1) := by decide +kernel
theorem dX0_formLeft_14 : decode cX0_formLeft 14 = .ok (.iload 4, 2) := by decide +kernel
theorem dX0_formLeft_16 : decode cX0_formLeft 16 = .ok (.invokevirtual 28, 3) := by decide +kernel
theorem dX0_formLeft_19 : decode cX0_formLeft 19 = .ok (.ifCond .eq 14, 3) := by decide +kernel
theorem dX0_formLeft_22 : decode cX0_formLeft 22 = .ok (.iload_n 3, 1) := by decide +kernel
theorem dX0_formLeft_23 : decode cX0_formLeft 23 = .ok (.iload_n 2, 1) := by decide +kernel
theorem dX0_formLeft_24 : decode cX0_formLeft 24 = .ok (.if_icmp .ne 6, 3) := by decide +kernel
theorem dX0_formLeft_27 : decode cX0_formLeft 27 = .ok (.iload 4, 2) := by decide +kernel
theorem dX0_formLeft_29 : decode cX0_formLeft 29 = .ok (.ireturn, 1) := by decide +kernel
theorem dX0_formLeft_30 : decode cX0_formLeft 30 = .ok (.iinc 3 1, 3) := by decide +kernel
theorem dX0_formLeft_33 : decode cX0_formLeft 33 = .ok (.iinc 4 1, 3) := by decide +kernel
theorem dX0_formLeft_36 : decode cX0_formLeft 36 = .ok (.goto (-31), 3) := by decide +kernel
theorem dX0_formLeft_39 : decode cX0_formLeft 39 = .ok (.iconst (-1), 1) := by decide +kernel
theorem dX0_formLeft_40 : decode cX0_formLeft 40 = .ok (.ireturn, 1) := by decide +kernel
theorem dX0_bestParting_0 : decode cX0_bestParting 0 = .ok (.aload_n 0, 1) := by decide +kernel
theorem dX0_bestParting_1 : decode cX0_bestParting 1 = .ok (.iload_n 1, 1) := by decide +kernel
theorem dX0_bestParting_2 : decode cX0_bestParting 2 = .ok (.invokevirtual 32, 3) := by decide +kernel
theorem dX0_bestParting_5 : decode cX0_bestParting 5 = .ok (.iconst 0, 1) := by decide +kernel
theorem dX0_bestParting_6 : decode cX0_bestParting 6 = .ok (.istore_n 2, 1) := by decide +kernel
theorem dX0_bestParting_7 : decode cX0_bestParting 7 = .ok (.aload_n 0, 1) := by decide +kernel
theorem dX0_bestParting_8 : decode cX0_bestParting 8 = .ok (.iconst 0, 1) := by decide +kernel
theorem dX0_bestParting_9 : decode cX0_bestParting 9 = .ok (.invokevirtual 36, 3) := by decide +kernel
theorem dX0_bestParting_12 : decode cX0_bestParting 12 = .ok (.istore_n 3, 1) := by decide +kernel
theorem dX0_bestParting_13 : decode cX0_bestParting 13 = .ok (.iconst 1, 1) := by decide +kernel
theorem dX0_bestParting_14 : decode cX0_bestParting 14 = .ok (.istore 4, 2) := by decide +kernel
theorem dX0_bestParting_16 : decode cX0_bestParting 16 = .ok (.iload 4, 2) := by decide +kernel
theorem dX0_bestParting_18 : decode cX0_bestParting 18 = .ok (.sipush 1536, 3) := by decide +kernel
theorem dX0_bestParting_21 : decode cX0_bestParting 21 = .ok (.if_icmp .ge 29, 3) := by decide +kernel
theorem dX0_bestParting_24 : decode cX0_bestParting 24 = .ok (.aload_n 0, 1) := by decide +kernel
theorem dX0_bestParting_25 : decode cX0_bestParting 25 = .ok (.iload 4, 2) := by decide +kernel
theorem dX0_bestParting_27 : decode cX0_bestParting 27 = .ok (.invokevirtual 36, 3) := by decide +kernel
theorem dX0_bestParting_30 : decode cX0_bestParting 30 = .ok (.istore 5, 2) := by decide +kernel
theorem dX0_bestParting_32 : decode cX0_bestParting 32 = .ok (.iload 5, 2) := by decide +kernel
theorem dX0_bestParting_34 : decode cX0_bestParting 34 = .ok (.iload_n 3, 1) := by decide +kernel
theorem dX0_bestParting_35 : decode cX0_bestParting 35 = .ok (.if_icmp .le 9, 3) := by decide +kernel
theorem dX0_bestParting_38 : decode cX0_bestParting 38 = .ok (.iload 4, 2) := by decide +kernel
theorem dX0_bestParting_40 : decode cX0_bestParting 40 = .ok (.istore_n 2, 1) := by decide +kernel
theorem dX0_bestParting_41 : decode cX0_bestParting 41 = .ok (.iload 5, 2) := by decide +kernel
theorem dX0_bestParting_43 : decode cX0_bestParting 43 = .ok (.istore_n 3, 1) := by decide +kernel
theorem dX0_bestParting_44 : decode cX0_bestParting 44 = .ok (.iinc 4 1, 3) := by decide +kernel
theorem dX0_bestParting_47 : decode cX0_bestParting 47 = .ok (.goto (-31), 3) := by decide +kernel
theorem dX0_bestParting_50 : decode cX0_bestParting 50 = .ok (.iload_n 2, 1) := by decide +kernel
theorem dX0_bestParting_51 : decode cX0_bestParting 51 = .ok (.ireturn, 1) := by decide +kernel
theorem dX0_lesserPart_0 : decode cX0_lesserPart 0 = .ok (.iconst 0, 1) := by decide +kernel
theorem dX0_lesserPart_1 : decode cX0_lesserPart 1 = .ok (.istore_n 2, 1) := by decide +kernel
theorem dX0_lesserPart_2 : decode cX0_lesserPart 2 = .ok (.iconst 0, 1) := by decide +kernel
theorem dX0_lesserPart_3 : decode cX0_lesserPart 3 = .ok (.istore_n 3, 1) := by decide +kernel
theorem dX0_lesserPart_4 : decode cX0_lesserPart 4 = .ok (.iload_n 3, 1) := by decide +kernel
theorem dX0_lesserPart_5 : decode cX0_lesserPart 5 = .ok (.bipush 6, 2) := by decide +kernel
theorem dX0_lesserPart_7 : decode cX0_lesserPart 7 = .ok (.if_icmp .ge 26, 3) := by decide +kernel
theorem dX0_lesserPart_10 : decode cX0_lesserPart 10 = .ok (.iload_n 2, 1) := by decide +kernel
theorem dX0_lesserPart_11 : decode cX0_lesserPart 11 = .ok (.aload_n 0, 1) := by decide +kernel
theorem dX0_lesserPart_12 : decode cX0_lesserPart 12 = .ok (.getfield 21, 3) := by decide +kernel
theorem dX0_lesserPart_15 : decode cX0_lesserPart 15 = .ok (.iload_n 3, 1) := by decide +kernel
theorem dX0_lesserPart_16 : decode cX0_lesserPart 16 = .ok (.iconst 4, 1) := by decide +kernel
theorem dX0_lesserPart_17 : decode cX0_lesserPart 17 = .ok (.imul, 1) := by decide +kernel
theorem dX0_lesserPart_18 : decode cX0_lesserPart 18 = .ok (.iload_n 1, 1) := by decide +kernel
theorem dX0_lesserPart_19 : decode cX0_lesserPart 19 = .ok (.iload_n 3, 1) := by decide +kernel
theorem dX0_lesserPart_20 : decode cX0_lesserPart 20 = .ok (.invokestatic 40, 3) := by decide +kernel
theorem dX0_lesserPart_23 : decode cX0_lesserPart 23 = .ok (.iadd, 1) := by decide +kernel
theorem dX0_lesserPart_24 : decode cX0_lesserPart 24 = .ok (.iaload, 1) := by decide +kernel
theorem dX0_lesserPart_25 : decode cX0_lesserPart 25 = .ok (.iadd, 1) := by decide +kernel
theorem dX0_lesserPart_26 : decode cX0_lesserPart 26 = .ok (.istore_n 2, 1) := by decide +kernel
theorem dX0_lesserPart_27 : decode cX0_lesserPart 27 = .ok (.iinc 3 1, 3) := by decide +kernel
theorem dX0_lesserPart_30 : decode cX0_lesserPart 30 = .ok (.goto (-26), 3) := by decide +kernel
theorem dX0_lesserPart_33 : decode cX0_lesserPart 33 = .ok (.iload_n 2, 1) := by decide +kernel
theorem dX0_lesserPart_34 : decode cX0_lesserPart 34 = .ok (.aload_n 0, 1) := by decide +kernel
theorem dX0_lesserPart_35 : decode cX0_lesserPart 35 = .ok (.getfield 44, 3) := by decide +kernel
theorem dX0_lesserPart_38 : decode cX0_lesserPart 38 = .ok (.iload_n 2, 1) := by decide +kernel
theorem dX0_lesserPart_39 : decode cX0_lesserPart 39 = .ok (.isub, 1) := by decide +kernel
theorem dX0_lesserPart_40 : decode cX0_lesserPart 40 = .ok (.invokestatic 47, 3) := by decide +kernel
theorem dX0_lesserPart_43 : decode cX0_lesserPart 43 = .ok (.ireturn, 1) := by decide +kernel
theorem dX0_firstInQuarrel_0 : decode cX0_firstInQuarrel 0 = .ok (.iconst 0, 1) := by decide +kernel
theorem dX0_firstInQuarrel_1 : decode cX0_firstInQuarrel 1 = .ok (.istore_n 2, 1) := by decide +kernel
theorem dX0_firstInQuarrel_2 : decode cX0_firstInQuarrel 2 = .ok (.iload_n 2, 1) := by decide +kernel
theorem dX0_firstInQuarrel_3 : decode cX0_firstInQuarrel 3 = .ok (.aload_n 0, 1) := by decide +kernel
theorem dX0_firstInQuarrel_4 : decode cX0_firstInQuarrel 4 = .ok (.getfield 24, 3) := by decide +kernel
theorem dX0_firstInQuarrel_7 : decode cX0_firstInQuarrel 7 = .ok (.if_icmp .ge 29, 3) := by decide +kernel
theorem dX0_firstInQuarrel_10 : decode cX0_firstInQuarrel 10 = .ok (.aload_n 0, 1) := by decide +kernel
theorem dX0_firstInQuarrel_11 : decode cX0_firstInQuarrel 11 = .ok (.getfield 11, 3) := by decide +kernel
theorem dX0_firstInQuarrel_14 : decode cX0_firstInQuarrel 14 = .ok (.iload_n 2, 1) := by decide +kernel
theorem dX0_firstInQuarrel_15 : decode cX0_firstInQuarrel 15 = .ok (.iaload, 1) := by decide +kernel
theorem dX0_firstInQuarrel_16 : decode cX0_firstInQuarrel 16 = .ok (.iload_n 1, 1) := by decide +kernel
theorem dX0_firstInQuarrel_17 : decode cX0_firstInQuarrel 17 = .ok (.if_icmp .ne 13, 3) := by decide +kernel
theorem dX0_firstInQuarrel_20 : decode cX0_firstInQuarrel 20 = .ok (.aload_n 0, 1) := by decide +kernel
theorem dX0_firstInQuarrel_21 : decode cX0_firstInQuarrel 21 = .ok (.iload_n 2, 1) := by decide +kernel
theorem dX0_firstInQuarrel_22 : decode cX0_firstInQuarrel 22 = .ok (.invokevirtual 52, 3) := by decide +kernel
theorem dX0_firstInQuarrel_25 : decode cX0_firstInQuarrel 25 = .ok (.ifCond .lt 5, 3) := by decide +kernel
theorem dX0_firstInQuarrel_28 : decode cX0_firstInQuarrel 28 = .ok (.iload_n 2, 1) := by decide +kernel
theorem dX0_firstInQuarrel_29 : decode cX0_firstInQuarrel 29 = .ok (.ireturn, 1) := by decide +kernel
theorem dX0_firstInQuarrel_30 : decode cX0_firstInQuarrel 30 = .ok (.iinc 2 1, 3) := by decide +kernel
theorem dX0_firstInQuarrel_33 : decode cX0_firstInQuarrel 33 = .ok (.goto (-31), 3) := by decide +kernel
theorem dX0_firstInQuarrel_36 : decode cX0_firstInQuarrel 36 = .ok (.iconst (-1), 1) := by decide +kernel
theorem dX0_firstInQuarrel_37 : decode cX0_firstInQuarrel 37 = .ok (.ireturn, 1) := by decide +kernel
theorem dX0_rival_0 : decode cX0_rival 0 = .ok (.iload_n 1, 1) := by decide +kernel
theorem dX0_rival_1 : decode cX0_rival 1 = .ok (.iconst 1, 1) := by decide +kernel
theorem dX0_rival_2 : decode cX0_rival 2 = .ok (.iadd, 1) := by decide +kernel
theorem dX0_rival_3 : decode cX0_rival 3 = .ok (.istore_n 2, 1) := by decide +kernel
theorem dX0_rival_4 : decode cX0_rival 4 = .ok (.iload_n 2, 1) := by decide +kernel
theorem dX0_rival_5 : decode cX0_rival 5 = .ok (.aload_n 0, 1) := by decide +kernel
theorem dX0_rival_6 : decode cX0_rival 6 = .ok (.getfield 24, 3) := by decide +kernel
theorem dX0_rival_9 : decode cX0_rival 9 = .ok (.if_icmp .ge 66, 3) := by decide +kernel
theorem dX0_rival_12 : decode cX0_rival 12 = .ok (.aload_n 0, 1) := by decide +kernel
theorem dX0_rival_13 : decode cX0_rival 13 = .ok (.getfield 11, 3) := by decide +kernel
theorem dX0_rival_16 : decode cX0_rival 16 = .ok (.iload_n 2, 1) := by decide +kernel
theorem dX0_rival_17 : decode cX0_rival 17 = .ok (.iaload, 1) := by decide +kernel
theorem dX0_rival_18 : decode cX0_rival 18 = .ok (.aload_n 0, 1) := by decide +kernel
theorem dX0_rival_19 : decode cX0_rival 19 = .ok (.getfield 11, 3) := by decide +kernel
theorem dX0_rival_22 : decode cX0_rival 22 = .ok (.iload_n 1, 1) := by decide +kernel
theorem dX0_rival_23 : decode cX0_rival 23 = .ok (.iaload, 1) := by decide +kernel
theorem dX0_rival_24 : decode cX0_rival 24 = .ok (.if_icmp .ne 22, 3) := by decide +kernel
theorem dX0_rival_27 : decode cX0_rival 27 = .ok (.aload_n 0, 1) := by decide +kernel
theorem dX0_rival_28 : decode cX0_rival 28 = .ok (.getfield 15, 3) := by decide +kernel
theorem dX0_rival_31 : decode cX0_rival 31 = .ok (.iload_n 2, 1) := by decide +kernel
theorem dX0_rival_32 : decode cX0_rival 32 = .ok (.iaload, 1) := by decide +kernel
theorem dX0_rival_33 : decode cX0_rival 33 = .ok (.aload_n 0, 1) := by decide +kernel
theorem dX0_rival_34 : decode cX0_rival 34 = .ok (.getfield 15, 3) := by decide +kernel
theorem dX0_rival_37 : decode cX0_rival 37 = .ok (.iload_n 1, 1) := by decide +kernel
theorem dX0_rival_38 : decode cX0_rival 38 = .ok (.iaload, 1) := by decide +kernel
theorem dX0_rival_39 : decode cX0_rival 39 = .ok (.if_icmp .ne 7, 3) := by decide +kernel
theorem dX0_rival_42 : decode cX0_rival 42 = .ok (.iconst 1, 1) := by decide +kernel
theorem dX0_rival_43 : decode cX0_rival 43 = .ok (.goto 4, 3) := by decide +kernel
theorem dX0_rival_46 : decode cX0_rival 46 = .ok (.iconst 0, 1) := by decide +kernel
theorem dX0_rival_47 : decode cX0_rival 47 = .ok (.istore_n 3, 1) := by decide +kernel
theorem dX0_rival_48 : decode cX0_rival 48 = .ok (.iload_n 3, 1) := by decide +kernel
theorem dX0_rival_49 : decode cX0_rival 49 = .ok (.ifCond .eq 20, 3) := by decide +kernel
theorem dX0_rival_52 : decode cX0_rival 52 = .ok (.aload_n 0, 1) := by decide +kernel
theorem dX0_rival_53 : decode cX0_rival 53 = .ok (.getfield 18, 3) := by decide +kernel
theorem dX0_rival_56 : decode cX0_rival 56 = .ok (.iload_n 2, 1) := by decide +kernel
theorem dX0_rival_57 : decode cX0_rival 57 = .ok (.iaload, 1) := by decide +kernel
theorem dX0_rival_58 : decode cX0_rival 58 = .ok (.aload_n 0, 1) := by decide +kernel
theorem dX0_rival_59 : decode cX0_rival 59 = .ok (.getfield 18, 3) := by decide +kernel
theorem dX0_rival_62 : decode cX0_rival 62 = .ok (.iload_n 1, 1) := by decide +kernel
theorem dX0_rival_63 : decode cX0_rival 63 = .ok (.iaload, 1) := by decide +kernel
theorem dX0_rival_64 : decode cX0_rival 64 = .ok (.if_icmp .eq 5, 3) := by decide +kernel
theorem dX0_rival_67 : decode cX0_rival 67 = .ok (.iload_n 2, 1) := by decide +kernel
theorem dX0_rival_68 : decode cX0_rival 68 = .ok (.ireturn, 1) := by decide +kernel
theorem dX0_rival_69 : decode cX0_rival 69 = .ok (.iinc 2 1, 3) := by decide +kernel
theorem dX0_rival_72 : decode cX0_rival 72 = .ok (.goto (-68), 3) := by decide +kernel
theorem dX0_rival_75 : decode cX0_rival 75 = .ok (.iconst (-1), 1) := by decide +kernel
theorem dX0_rival_76 : decode cX0_rival 76 = .ok (.ireturn, 1) := by decide +kernel
theorem dX0_countHolding_0 : decode cX0_countHolding 0 = .ok (.aload_n 0, 1) := by decide +kernel
theorem dX0_countHolding_1 : decode cX0_countHolding 1 = .ok (.getfield 21, 3) := by decide +kernel
theorem dX0_countHolding_4 : decode cX0_countHolding 4 = .ok (.iconst 0, 1) := by decide +kernel
theorem dX0_countHolding_5 : decode cX0_countHolding 5 = .ok (.invokestatic 55, 3) := by decide +kernel
theorem dX0_countHolding_8 : decode cX0_countHolding 8 = .ok (.aload_n 0, 1) := by decide +kernel
theorem dX0_countHolding_9 : decode cX0_countHolding 9 = .ok (.iconst 0, 1) := by decide +kernel
theorem dX0_countHolding_10 : decode cX0_countHolding 10 = .ok (.putfield 44, 3) := by decide +kernel
theorem dX0_countHolding_13 : decode cX0_countHolding 13 = .ok (.iconst 0, 1) := by decide +kernel
theorem dX0_countHolding_14 : decode cX0_countHolding 14 = .ok (.istore_n 2, 1) := by decide +kernel
theorem dX0_countHolding_15 : decode cX0_countHolding 15 = .ok (.iload_n 2, 1) := by decide +kernel
theorem dX0_countHolding_16 : decode cX0_countHolding 16 = .ok (.bipush 72, 2) := by decide +kernel
theorem dX0_countHolding_18 : decode cX0_countHolding 18 = .ok (.if_icmp .ge 33, 3) := by decide +kernel
theorem dX0_countHolding_21 : decode cX0_countHolding 21 = .ok (.aload_n 0, 1) := by decide +kernel
theorem dX0_countHolding_22 : decode cX0_countHolding 22 = .ok (.iload_n 1, 1) := by decide +kernel
theorem dX0_countHolding_23 : decode cX0_countHolding 23 = .ok (.iload_n 2, 1) := by decide +kernel
theorem dX0_countHolding_24 : decode cX0_countHolding 24 = .ok (.invokevirtual 28, 3) := by decide +kernel
theorem dX0_countHolding_27 : decode cX0_countHolding 27 = .ok (.ifCond .eq 18, 3) := by decide +kernel
theorem dX0_countHolding_30 : decode cX0_countHolding 30 = .ok (.aload_n 0, 1) := by decide +kernel
theorem dX0_countHolding_31 : decode cX0_countHolding 31 = .ok (.dup, 1) := by decide +kernel
theorem dX0_countHolding_32 : decode cX0_countHolding 32 = .ok (.getfield 44, 3) := by decide +kernel
theorem dX0_countHolding_35 : decode cX0_countHolding 35 = .ok (.iconst 1, 1) := by decide +kernel
theorem dX0_countHolding_36 : decode cX0_countHolding 36 = .ok (.iadd, 1) := by decide +kernel
theorem dX0_countHolding_37 : decode cX0_countHolding 37 = .ok (.putfield 44, 3) := by decide +kernel
theorem dX0_countHolding_40 : decode cX0_countHolding 40 = .ok (.aload_n 0, 1) := by decide +kernel
theorem dX0_countHolding_41 : decode cX0_countHolding 41 = .ok (.iload_n 2, 1) := by decide +kernel
theorem dX0_countHolding_42 : decode cX0_countHolding 42 = .ok (.invokevirtual 61, 3) := by decide +kernel
theorem dX0_countHolding_45 : decode cX0_countHolding 45 = .ok (.iinc 2 1, 3) := by decide +kernel
theorem dX0_countHolding_48 : decode cX0_countHolding 48 = .ok (.goto (-33), 3) := by decide +kernel
theorem dX0_countHolding_51 : decode cX0_countHolding 51 = .ok (.return_, 1) := by decide +kernel
theorem dX0_countHoldingOf_0 : decode cX0_countHoldingOf 0 = .ok (.iload_n 1, 1) := by decide +kernel
theorem dX0_countHoldingOf_1 : decode cX0_countHoldingOf 1 = .ok (.bipush 12, 2) := by decide +kernel
theorem dX0_countHoldingOf_3 : decode cX0_countHoldingOf 3 = .ok (.idiv, 1) := by decide +kernel
theorem dX0_countHoldingOf_4 : decode cX0_countHoldingOf 4 = .ok (.istore_n 2, 1) := by decide +kernel
theorem dX0_countHoldingOf_5 : decode cX0_countHoldingOf 5 = .ok (.iconst 0, 1) := by decide +kernel
theorem dX0_countHoldingOf_6 : decode cX0_countHoldingOf 6 = .ok (.istore_n 3, 1) := by decide +kernel
theorem dX0_countHoldingOf_7 : decode cX0_countHoldingOf 7 = .ok (.iload_n 3, 1) := by decide +kernel
theorem dX0_countHoldingOf_8 : decode cX0_countHoldingOf 8 = .ok (.iload_n 2, 1) := by decide +kernel
theorem dX0_countHoldingOf_9 : decode cX0_countHoldingOf 9 = .ok (.invokestatic 64, 3) := by decide +kernel
theorem dX0_countHoldingOf_12 : decode cX0_countHoldingOf 12 = .ok (.if_icmp .ge 38, 3) := by decide +kernel
theorem dX0_countHoldingOf_15 : decode cX0_countHoldingOf 15 = .ok (.iload_n 3, 1) := by decide +kernel
theorem dX0_countHoldingOf_16 : decode cX0_countHoldingOf 16 = .ok (.iload_n 1, 1) := by decide +kernel
theorem dX0_countHoldingOf_17 : decode cX0_countHoldingOf 17 = .ok (.iconst 4, 1) := by decide +kernel
theorem dX0_countHoldingOf_18 : decode cX0_countHoldingOf 18 = .ok (.idiv, 1) := by decide +kernel
theorem dX0_countHoldingOf_19 : decode cX0_countHoldingOf 19 = .ok (.iconst 3, 1) := by decide +kernel
theorem dX0_countHoldingOf_20 : decode cX0_countHoldingOf 20 = .ok (.irem, 1) := by decide +kernel
theorem dX0_countHoldingOf_21 : decode cX0_countHoldingOf 21 = .ok (.iload_n 1, 1) := by decide +kernel
theorem dX0_countHoldingOf_22 : decode cX0_countHoldingOf 22 = .ok (.iconst 4, 1) := by decide +kernel
theorem dX0_countHoldingOf_23 : decode cX0_countHoldingOf 23 = .ok (.irem, 1) := by decide +kernel
theorem dX0_countHoldingOf_24 : decode cX0_countHoldingOf 24 = .ok (.invokestatic 67, 3) := by decide +kernel
theorem dX0_countHoldingOf_27 : decode cX0_countHoldingOf 27 = .ok (.ifCond .eq 17, 3) := by decide +kernel
theorem dX0_countHoldingOf_30 : decode cX0_countHoldingOf 30 = .ok (.aload_n 0, 1) := by decide +kernel
theorem dX0_countHoldingOf_31 : decode cX0_countHoldingOf 31 = .ok (.getfield 21, 3) := by decide +kernel
theorem dX0_countHoldingOf_34 : decode cX0_countHoldingOf 34 = .ok (.iload_n 2, 1) := by decide +kernel
theorem dX0_countHoldingOf_35 : decode cX0_countHoldingOf 35 = .ok (.iconst 4, 1) := by decide +kernel
theorem dX0_countHoldingOf_36 : decode cX0_countHoldingOf 36 = .ok (.imul, 1) := by decide +kernel
theorem dX0_countHoldingOf_37 : decode cX0_countHoldingOf 37 = .ok (.iload_n 3, 1) := by decide +kernel
theorem dX0_countHoldingOf_38 : decode cX0_countHoldingOf 38 = .ok (.iadd, 1) := by decide +kernel
theorem dX0_countHoldingOf_39 : decode cX0_countHoldingOf 39 = .ok (.dup2, 1) := by decide +kernel
theorem dX0_countHoldingOf_40 : decode cX0_countHoldingOf 40 = .ok (.iaload, 1) := by decide +kernel
theorem dX0_countHoldingOf_41 : decode cX0_countHoldingOf 41 = .ok (.iconst 1, 1) := by decide +kernel
theorem dX0_countHoldingOf_42 : decode cX0_countHoldingOf 42 = .ok (.iadd, 1) := by decide +kernel
theorem dX0_countHoldingOf_43 : decode cX0_countHoldingOf 43 = .ok (.iastore, 1) := by decide +kernel
theorem dX0_countHoldingOf_44 : decode cX0_countHoldingOf 44 = .ok (.iinc 3 1, 3) := by decide +kernel
theorem dX0_countHoldingOf_47 : decode cX0_countHoldingOf 47 = .ok (.goto (-40), 3) := by decide +kernel
theorem dX0_countHoldingOf_50 : decode cX0_countHoldingOf 50 = .ok (.return_, 1) := by decide +kernel
theorem dX0_isLeft_0 : decode cX0_isLeft 0 = .ok (.iconst (-1), 1) := by decide +kernel
theorem dX0_isLeft_1 : decode cX0_isLeft 1 = .ok (.istore_n 3, 1) := by decide +kernel
theorem dX0_isLeft_2 : decode cX0_isLeft 2 = .ok (.iconst (-1), 1) := by decide +kernel
theorem dX0_isLeft_3 : decode cX0_isLeft 3 = .ok (.istore 4, 2) := by decide +kernel
theorem dX0_isLeft_5 : decode cX0_isLeft 5 = .ok (.iconst 0, 1) := by decide +kernel
theorem dX0_isLeft_6 : decode cX0_isLeft 6 = .ok (.istore 5, 2) := by decide +kernel
theorem dX0_isLeft_8 : decode cX0_isLeft 8 = .ok (.iload 5, 2) := by decide +kernel
theorem dX0_isLeft_10 : decode cX0_isLeft 10 = .ok (.aload_n 0, 1) := by decide +kernel
theorem dX0_isLeft_11 : decode cX0_isLeft 11 = .ok (.getfield 24, 3) := by decide +kernel
theorem dX0_isLeft_14 : decode cX0_isLeft 14 = .ok (.if_icmp .ge 108, 3) := by decide +kernel
theorem dX0_isLeft_17 : decode cX0_isLeft 17 = .ok (.aload_n 0, 1) := by decide +kernel
theorem dX0_isLeft_18 : decode cX0_isLeft 18 = .ok (.getfield 11, 3) := by decide +kernel
theorem dX0_isLeft_21 : decode cX0_isLeft 21 = .ok (.iload 5, 2) := by decide +kernel
theorem dX0_isLeft_23 : decode cX0_isLeft 23 = .ok (.iaload, 1) := by decide +kernel
theorem dX0_isLeft_24 : decode cX0_isLeft 24 = .ok (.iload_n 1, 1) := by decide +kernel
theorem dX0_isLeft_25 : decode cX0_isLeft 25 = .ok (.if_icmp .eq 6, 3) := by decide +kernel
theorem dX0_isLeft_28 : decode cX0_isLeft 28 = .ok (.goto 88, 3) := by decide +kernel
theorem dX0_isLeft_31 : decode cX0_isLeft 31 = .ok (.aload_n 0, 1) := by decide +kernel
theorem dX0_isLeft_32 : decode cX0_isLeft 32 = .ok (.getfield 15, 3) := by decide +kernel
theorem dX0_isLeft_35 : decode cX0_isLeft 35 = .ok (.iload 5, 2) := by decide +kernel
theorem dX0_isLeft_37 : decode cX0_isLeft 37 = .ok (.iaload, 1) := by decide +kernel
theorem dX0_isLeft_38 : decode cX0_isLeft 38 = .ok (.iload_n 2, 1) := by decide +kernel
theorem dX0_isLeft_39 : decode cX0_isLeft 39 = .ok (.bipush 12, 2) := by decide +kernel
theorem dX0_isLeft_41 : decode cX0_isLeft 41 = .ok (.idiv, 1) := by decide +kernel
theorem dX0_isLeft_42 : decode cX0_isLeft 42 = .ok (.invokestatic 40, 3) := by decide +kernel
theorem dX0_isLeft_45 : decode cX0_isLeft 45 = .ok (.iload_n 2, 1) := by decide +kernel
theorem dX0_isLeft_46 : decode cX0_isLeft 46 = .ok (.iconst 4, 1) := by decide +kernel
theorem dX0_isLeft_47 : decode cX0_isLeft 47 = .ok (.idiv, 1) := by decide +kernel
theorem dX0_isLeft_48 : decode cX0_isLeft 48 = .ok (.iconst 3, 1) := by decide +kernel
theorem dX0_isLeft_49 : decode cX0_isLeft 49 = .ok (.irem, 1) := by decide +kernel
theorem dX0_isLeft_50 : decode cX0_isLeft 50 = .ok (.iload_n 2, 1) := by decide +kernel
theorem dX0_isLeft_51 : decode cX0_isLeft 51 = .ok (.iconst 4, 1) := by decide +kernel
theorem dX0_isLeft_52 : decode cX0_isLeft 52 = .ok (.irem, 1) := by decide +kernel
theorem dX0_isLeft_53 : decode cX0_isLeft 53 = .ok (.invokestatic 67, 3) := by decide +kernel
theorem dX0_isLeft_56 : decode cX0_isLeft 56 = .ok (.istore 6, 2) := by decide +kernel
theorem dX0_isLeft_58 : decode cX0_isLeft 58 = .ok (.iload 6, 2) := by decide +kernel
theorem dX0_isLeft_60 : decode cX0_isLeft 60 = .ok (.ifCond .eq 7, 3) := by decide +kernel
theorem dX0_isLeft_63 : decode cX0_isLeft 63 = .ok (.iload_n 3, 1) := by decide +kernel
theorem dX0_isLeft_64 : decode cX0_isLeft 64 = .ok (.goto 5, 3) := by decide +kernel
theorem dX0_isLeft_67 : decode cX0_isLeft 67 = .ok (.iload 4, 2) := by decide +kernel
theorem dX0_isLeft_69 : decode cX0_isLeft 69 = .ok (.istore 7, 2) := by decide +kernel
theorem dX0_isLeft_71 : decode cX0_isLeft 71 = .ok (.iload 7, 2) := by decide +kernel
theorem dX0_isLeft_73 : decode cX0_isLeft 73 = .ok (.iconst (-1), 1) := by decide +kernel
theorem dX0_isLeft_74 : decode cX0_isLeft 74 = .ok (.if_icmp .eq 17, 3) := by decide +kernel
theorem dX0_isLeft_77 : decode cX0_isLeft 77 = .ok (.iload 7, 2) := by decide +kernel
theorem dX0_isLeft_79 : decode cX0_isLeft 79 = .ok (.aload_n 0, 1) := by decide +kernel
theorem dX0_isLeft_80 : decode cX0_isLeft 80 = .ok (.getfield 18, 3) := by decide +kernel
theorem dX0_isLeft_83 : decode cX0_isLeft 83 = .ok (.iload 5, 2) := by decide +kernel
theorem dX0_isLeft_85 : decode cX0_isLeft 85 = .ok (.iaload, 1) := by decide +kernel
theorem dX0_isLeft_86 : decode cX0_isLeft 86 = .ok (.if_icmp .eq 5, 3) := by decide +kernel
theorem dX0_isLeft_89 : decode cX0_isLeft 89 = .ok (.iconst 0, 1) := by decide +kernel
theorem dX0_isLeft_90 : decode cX0_isLeft 90 = .ok (.ireturn, 1) := by decide +kernel
theorem dX0_isLeft_91 : decode cX0_isLeft 91 = .ok (.iload 6, 2) := by decide +kernel
theorem dX0_isLeft_93 : decode cX0_isLeft 93 = .ok (.ifCond .eq 14, 3) := by decide +kernel
theorem dX0_isLeft_96 : decode cX0_isLeft 96 = .ok (.aload_n 0, 1) := by decide +kernel
theorem dX0_isLeft_97 : decode cX0_isLeft 97 = .ok (.getfield 18, 3) := by decide +kernel
theorem dX0_isLeft_100 : decode cX0_isLeft 100 = .ok (.iload 5, 2) := by decide +kernel
theorem dX0_isLeft_102 : decode cX0_isLeft 102 = .ok (.iaload, 1) := by decide +kernel
theorem dX0_isLeft_103 : decode cX0_isLeft 103 = .ok (.istore_n 3, 1) := by decide +kernel
theorem dX0_isLeft_104 : decode cX0_isLeft 104 = .ok (.goto 12, 3) := by decide +kernel
theorem dX0_isLeft_107 : decode cX0_isLeft 107 = .ok (.aload_n 0, 1) := by decide +kernel
theorem dX0_isLeft_108 : decode cX0_isLeft 108 = .ok (.getfield 18, 3) := by decide +kernel
theorem dX0_isLeft_111 : decode cX0_isLeft 111 = .ok (.iload 5, 2) := by decide +kernel
theorem dX0_isLeft_113 : decode cX0_isLeft 113 = .ok (.iaload, 1) := by decide +kernel
theorem dX0_isLeft_114 : decode cX0_isLeft 114 = .ok (.istore 4, 2) := by decide +kernel
theorem dX0_isLeft_116 : decode cX0_isLeft 116 = .ok (.iinc 5 1, 3) := by decide +kernel
theorem dX0_isLeft_119 : decode cX0_isLeft 119 = .ok (.goto (-111), 3) := by decide +kernel
theorem dX0_isLeft_122 : decode cX0_isLeft 122 = .ok (.iconst 1, 1) := by decide +kernel
theorem dX0_isLeft_123 : decode cX0_isLeft 123 = .ok (.ireturn, 1) := by decide +kernel
theorem dX1_init_0 : decode cX1_init 0 = .ok (.aload_n 0, 1) := by decide +kernel
theorem dX1_init_1 : decode cX1_init 1 = .ok (.invokespecial 3, 3) := by decide +kernel
theorem dX1_init_4 : decode cX1_init 4 = .ok (.aload_n 0, 1) := by decide +kernel
theorem dX1_init_5 : decode cX1_init 5 = .ok (.bipush 8, 2) := by decide +kernel
theorem dX1_init_7 : decode cX1_init 7 = .ok (.newarray .int, 2) := by decide +kernel
theorem dX1_init_9 : decode cX1_init 9 = .ok (.putfield 11, 3) := by decide +kernel
theorem dX1_init_12 : decode cX1_init 12 = .ok (.aload_n 0, 1) := by decide +kernel
theorem dX1_init_13 : decode cX1_init 13 = .ok (.bipush 8, 2) := by decide +kernel
theorem dX1_init_15 : decode cX1_init 15 = .ok (.newarray .int, 2) := by decide +kernel
theorem dX1_init_17 : decode cX1_init 17 = .ok (.putfield 15, 3) := by decide +kernel
theorem dX1_init_20 : decode cX1_init 20 = .ok (.aload_n 0, 1) := by decide +kernel
theorem dX1_init_21 : decode cX1_init 21 = .ok (.bipush 8, 2) := by decide +kernel
theorem dX1_init_23 : decode cX1_init 23 = .ok (.newarray .int, 2) := by decide +kernel
theorem dX1_init_25 : decode cX1_init 25 = .ok (.putfield 18, 3) := by decide +kernel
theorem dX1_init_28 : decode cX1_init 28 = .ok (.aload_n 0, 1) := by decide +kernel
theorem dX1_init_29 : decode cX1_init 29 = .ok (.bipush 8, 2) := by decide +kernel
theorem dX1_init_31 : decode cX1_init 31 = .ok (.newarray .int, 2) := by decide +kernel
theorem dX1_init_33 : decode cX1_init 33 = .ok (.putfield 21, 3) := by decide +kernel
theorem dX1_init_36 : decode cX1_init 36 = .ok (.aload_n 0, 1) := by decide +kernel
theorem dX1_init_37 : decode cX1_init 37 = .ok (.bipush 60, 2) := by decide +kernel
theorem dX1_init_39 : decode cX1_init 39 = .ok (.newarray .int, 2) := by decide +kernel
theorem dX1_init_41 : decode cX1_init 41 = .ok (.putfield 24, 3) := by decide +kernel
theorem dX1_init_44 : decode cX1_init 44 = .ok (.aload_n 0, 1) := by decide +kernel
theorem dX1_init_45 : decode cX1_init 45 = .ok (.bipush 60, 2) := by decide +kernel
theorem dX1_init_47 : decode cX1_init 47 = .ok (.newarray .int, 2) := by decide +kernel
theorem dX1_init_49 : decode cX1_init 49 = .ok (.putfield 27, 3) := by decide +kernel
theorem dX1_init_52 : decode cX1_init 52 = .ok (.aload_n 0, 1) := by decide +kernel
theorem dX1_init_53 : decode cX1_init 53 = .ok (.bipush 60, 2) := by decide +kernel
theorem dX1_init_55 : decode cX1_init 55 = .ok (.newarray .int, 2) := by decide +kernel
theorem dX1_init_57 : decode cX1_init 57 = .ok (.putfield 30, 3) := by decide +kernel
theorem dX1_init_60 : decode cX1_init 60 = .ok (.aload_n 0, 1) := by decide +kernel
theorem dX1_init_61 : decode cX1_init 61 = .ok (.aload_n 1, 1) := by decide +kernel
theorem dX1_init_62 : decode cX1_init 62 = .ok (.putfield 33, 3) := by decide +kernel
theorem dX1_init_65 : decode cX1_init 65 = .ok (.return_, 1) := by decide +kernel
theorem dX1_has_0 : decode cX1_has 0 = .ok (.iload_n 1, 1) := by decide +kernel
theorem dX1_has_1 : decode cX1_has 1 = .ok (.ifCond .lt 15, 3) := by decide +kernel
theorem dX1_has_4 : decode cX1_has 4 = .ok (.iload_n 1, 1) := by decide +kernel
theorem dX1_has_5 : decode cX1_has 5 = .ok (.aload_n 0, 1) := by decide +kernel
theorem dX1_has_6 : decode cX1_has 6 = .ok (.getfield 37, 3) := by decide +kernel
theorem dX1_has_9 : decode cX1_has 9 = .ok (.if_icmp .ge 7, 3) := by decide +kernel
theorem dX1_has_12 : decode cX1_has 12 = .ok (.iconst 1, 1) := by decide +kernel
theorem dX1_has_13 : decode cX1_has 13 = .ok (.goto 4, 3) := by decide +kernel
theorem dX1_has_16 : decode cX1_has 16 = .ok (.iconst 0, 1) := by decide +kernel
theorem dX1_has_17 : decode cX1_has 17 = .ok (.ireturn, 1) := by decide +kernel
theorem dX1_isFull_0 : decode cX1_isFull 0 = .ok (.aload_n 0, 1) := by decide +kernel
theorem dX1_isFull_1 : decode cX1_isFull 1 = .ok (.getfield 37, 3) := by decide +kernel
theorem dX1_isFull_4 : decode cX1_isFull 4 = .ok (.bipush 8, 2) := by decide +kernel
theorem dX1_isFull_6 : decode cX1_isFull 6 = .ok (.if_icmp .lt 7, 3) := by decide +kernel
theorem dX1_isFull_9 : decode cX1_isFull 9 = .ok (.iconst 1, 1) := by decide +kernel
theorem dX1_isFull_10 : decode cX1_isFull 10 = .ok (.goto 4, 3) := by decide +kernel
theorem dX1_isFull_13 : decode cX1_isFull 13 = .ok (.iconst 0, 1) := by decide +kernel
theorem dX1_isFull_14 : decode cX1_isFull 14 = .ok (.ireturn, 1) := by decide +kernel
theorem dX1_add_0 : decode cX1_add 0 = .ok (.aload_n 0, 1) := by decide +kernel
theorem dX1_add_1 : decode cX1_add 1 = .ok (.getfield 11, 3) := by decide +kernel
theorem dX1_add_4 : decode cX1_add 4 = .ok (.aload_n 0, 1) := by decide +kernel
theorem dX1_add_5 : decode cX1_add 5 = .ok (.getfield 37, 3) := by decide +kernel
theorem dX1_add_8 : decode cX1_add 8 = .ok (.iload_n 1, 1) := by decide +kernel
theorem dX1_add_9 : decode cX1_add 9 = .ok (.iastore, 1) := by decide +kernel
theorem dX1_add_10 : decode cX1_add 10 = .ok (.aload_n 0, 1) := by decide +kernel
theorem dX1_add_11 : decode cX1_add 11 = .ok (.getfield 15, 3) := by decide +kernel
theorem dX1_add_14 : decode cX1_add 14 = .ok (.aload_n 0, 1) := by decide +kernel
theorem dX1_add_15 : decode cX1_add 15 = .ok (.getfield 37, 3) := by decide +kernel
theorem dX1_add_18 : decode cX1_add 18 = .ok (.iload_n 2, 1) := by decide +kernel
theorem dX1_add_19 : decode cX1_add 19 = .ok (.iastore, 1) := by decide +kernel
theorem dX1_add_20 : decode cX1_add 20 = .ok (.aload_n 0, 1) := by decide +kernel
theorem dX1_add_21 : decode cX1_add 21 = .ok (.getfield 18, 3) := by decide +kernel
theorem dX1_add_24 : decode cX1_add 24 = .ok (.aload_n 0, 1) := by decide +kernel
theorem dX1_add_25 : decode cX1_add 25 = .ok (.getfield 37, 3) := by decide +kernel
theorem dX1_add_28 : decode cX1_add 28 = .ok (.iconst (-1), 1) := by decide +kernel
theorem dX1_add_29 : decode cX1_add 29 = .ok (.iastore, 1) := by decide +kernel
theorem dX1_add_30 : decode cX1_add 30 = .ok (.aload_n 0, 1) := by decide +kernel
theorem dX1_add_31 : decode cX1_add 31 = .ok (.dup, 1) := by decide +kernel
theorem dX1_add_32 : decode cX1_add 32 = .ok (.getfield 37, 3) := by decide +kernel
theorem dX1_add_35 : decode cX1_add 35 = .ok (.iconst 1, 1) := by decide +kernel
theorem dX1_add_36 : decode cX1_add 36 = .ok (.iadd, 1) := by decide +kernel
theorem dX1_add_37 : decode cX1_add 37 = .ok (.putfield 37, 3) := by decide +kernel
theorem dX1_add_40 : decode cX1_add 40 = .ok (.aload_n 0, 1) := by decide +kernel
theorem dX1_add_41 : decode cX1_add 41 = .ok (.getfield 37, 3) := by decide +kernel
theorem dX1_add_44 : decode cX1_add 44 = .ok (.iconst 1, 1) := by decide +kernel
theorem dX1_add_45 : decode cX1_add 45 = .ok (.isub, 1) := by decide +kernel
theorem dX1_add_46 : decode cX1_add 46 = .ok (.ireturn, 1) := by decide +kernel
theorem dX1_hasCode_0 : decode cX1_hasCode 0 = .ok (.aload_n 0, 1) := by decide +kernel
theorem dX1_hasCode_1 : decode cX1_hasCode 1 = .ok (.getfield 18, 3) := by decide +kernel
theorem dX1_hasCode_4 : decode cX1_hasCode 4 = .ok (.iload_n 1, 1) := by decide +kernel
theorem dX1_hasCode_5 : decode cX1_hasCode 5 = .ok (.iaload, 1) := by decide +kernel
theorem dX1_hasCode_6 : decode cX1_hasCode 6 = .ok (.iconst (-1), 1) := by decide +kernel
theorem dX1_hasCode_7 : decode cX1_hasCode 7 = .ok (.if_icmp .eq 17, 3) := by decide +kernel
theorem dX1_hasCode_10 : decode cX1_hasCode 10 = .ok (.aload_n 0, 1) := by decide +kernel
theorem dX1_hasCode_11 : decode cX1_hasCode 11 = .ok (.getfield 18, 3) := by decide +kernel
theorem dX1_hasCode_14 : decode cX1_hasCode 14 = .ok (.iload_n 1, 1) := by decide +kernel
theorem dX1_hasCode_15 : decode cX1_hasCode 15 = .ok (.iaload, 1) := by decide +kernel
theorem dX1_hasCode_16 : decode cX1_hasCode 16 = .ok (.iload_n 2, 1) := by decide +kernel
theorem dX1_hasCode_17 : decode cX1_hasCode 17 = .ok (.if_icmp .gt 7, 3) := by decide +kernel
theorem dX1_hasCode_20 : decode cX1_hasCode 20 = .ok (.iconst 1, 1) := by decide +kernel
theorem dX1_hasCode_21 : decode cX1_hasCode 21 = .ok (.goto 4, 3) := by decide +kernel
theorem dX1_hasCode_24 : decode cX1_hasCode 24 = .ok (.iconst 0, 1) := by decide +kernel
theorem dX1_hasCode_25 : decode cX1_hasCode 25 = .ok (.ireturn, 1) := by decide +kernel
theorem dX1_isUnder_0 : decode cX1_isUnder 0 = .ok (.aload_n 0, 1) := by decide +kernel
theorem dX1_isUnder_1 : decode cX1_isUnder 1 = .ok (.iload_n 1, 1) := by decide +kernel
theorem dX1_isUnder_2 : decode cX1_isUnder 2 = .ok (.iload_n 3, 1) := by decide +kernel
theorem dX1_isUnder_3 : decode cX1_isUnder 3 = .ok (.invokevirtual 41, 3) := by decide +kernel
theorem dX1_isUnder_6 : decode cX1_isUnder 6 = .ok (.istore 4, 2) := by decide +kernel
theorem dX1_isUnder_8 : decode cX1_isUnder 8 = .ok (.iload_n 2, 1) := by decide +kernel
theorem dX1_isUnder_9 : decode cX1_isUnder 9 = .ok (.iconst 5, 1) := by decide +kernel
theorem dX1_isUnder_10 : decode cX1_isUnder 10 = .ok (.if_icmp .ne 8, 3) := by decide +kernel
theorem dX1_isUnder_13 : decode cX1_isUnder 13 = .ok (.iload 4, 2) := by decide +kernel
theorem dX1_isUnder_15 : decode cX1_isUnder 15 = .ok (.goto 23, 3) := by decide +kernel
theorem dX1_isUnder_18 : decode cX1_isUnder 18 = .ok (.iload 4, 2) := by decide +kernel
theorem dX1_isUnder_20 : decode cX1_isUnder 20 = .ok (.ifCond .ne 17, 3) := by decide +kernel
theorem dX1_isUnder_23 : decode cX1_isUnder 23 = .ok (.aload_n 0, 1) := by decide +kernel
theorem dX1_isUnder_24 : decode cX1_isUnder 24 = .ok (.getfield 11, 3) := by decide +kernel
theorem dX1_isUnder_27 : decode cX1_isUnder 27 = .ok (.iload_n 1, 1) := by decide +kernel
theorem dX1_isUnder_28 : decode cX1_isUnder 28 = .ok (.iaload, 1) := by decide +kernel
theorem dX1_isUnder_29 : decode cX1_isUnder 29 = .ok (.iload_n 2, 1) := by decide +kernel
theorem dX1_isUnder_30 : decode cX1_isUnder 30 = .ok (.if_icmp .ne 7, 3) := by decide +kernel
theorem dX1_isUnder_33 : decode cX1_isUnder 33 = .ok (.iconst 1, 1) := by decide +kernel
theorem dX1_isUnder_34 : decode cX1_isUnder 34 = .ok (.goto 4, 3) := by decide +kernel
theorem dX1_isUnder_37 : decode cX1_isUnder 37 = .ok (.iconst 0, 1) := by decide +kernel
theorem dX1_isUnder_38 : decode cX1_isUnder 38 = .ok (.ireturn, 1) := by decide +kernel
theorem dX1_peopleUnder_0 : decode cX1_peopleUnder 0 = .ok (.iconst 0, 1) := by decide +kernel
theorem dX1_peopleUnder_1 : decode cX1_peopleUnder 1 = .ok (.istore_n 3, 1) := by decide +kernel
theorem dX1_peopleUnder_2 : decode cX1_peopleUnder 2 = .ok (.iconst 0, 1) := by decide +kernel
theorem dX1_peopleUnder_3 : decode cX1_peopleUnder 3 = .ok (.istore 4, 2) := by decide +kernel
theorem dX1_peopleUnder_5 : decode cX1_peopleUnder 5 = .ok (.iload 4, 2) := by decide +kernel
theorem dX1_peopleUnder_7 : decode cX1_peopleUnder 7 = .ok (.aload_n 0, 1) := by decide +kernel
theorem dX1_peopleUnder_8 : decode cX1_peopleUnder 8 = .ok (.getfield 37, 3) := by decide +kernel
theorem dX1_peopleUnder_11 : decode cX1_peopleUnder 11 = .ok (.if_icmp .ge 30, 3) := by decide +kernel
theorem dX1_peopleUnder_14 : decode cX1_peopleUnder 14 = .ok (.aload_n 0, 1) := by decide +kernel
theorem dX1_peopleUnder_15 : decode cX1_peopleUnder 15 = .ok (.iload 4, 2) := by decide +kernel
theorem dX1_peopleUnder_17 : decode cX1_peopleUnder 17 = .ok (.iload_n 1, 1) := by decide +kernel
theorem dX1_peopleUnder_18 : decode cX1_peopleUnder 18 = .ok (.iload_n 2, 1) := by decide +kernel
theorem dX1_peopleUnder_19 : decode cX1_peopleUnder 19 = .ok (.invokevirtual 45, 3) := by decide +kernel
theorem dX1_peopleUnder_22 : decode cX1_peopleUnder 22 = .ok (.ifCond .eq 13, 3) := by decide +kernel
theorem dX1_peopleUnder_25 : decode cX1_peopleUnder 25 = .ok (.iload_n 3, 1) := by decide +kernel
theorem dX1_peopleUnder_26 : decode cX1_peopleUnder 26 = .ok (.aload_n 0, 1) := by decide +kernel
theorem dX1_peopleUnder_27 : decode cX1_peopleUnder 27 = .ok (.getfield 15, 3) := by decide +kernel
theorem dX1_peopleUnder_30 : decode cX1_peopleUnder 30 = .ok (.iload 4, 2) := by decide +kernel
theorem dX1_peopleUnder_32 : decode cX1_peopleUnder 32 = .ok (.iaload, 1) := by decide +kernel
theorem dX1_peopleUnder_33 : decode cX1_peopleUnder 33 = .ok (.iadd, 1) := by decide +kernel
theorem dX1_peopleUnder_34 : decode cX1_peopleUnder 34 = .ok (.istore_n 3, 1) := by decide +kernel
theorem dX1_peopleUnder_35 : decode cX1_peopleUnder 35 = .ok (.iinc 4 1, 3) := by decide +kernel
theorem dX1_peopleUnder_38 : decode cX1_peopleUnder 38 = .ok (.goto (-33), 3) := by decide +kernel
theorem dX1_peopleUnder_41 : decode cX1_peopleUnder 41 = .ok (.iload_n 3, 1) := by decide +kernel
theorem dX1_peopleUnder_42 : decode cX1_peopleUnder 42 = .ok (.ireturn, 1) := by decide +kernel
theorem dX1_peopleOf_0 : decode cX1_peopleOf 0 = .ok (.iconst 0, 1) := by decide +kernel
theorem dX1_peopleOf_1 : decode cX1_peopleOf 1 = .ok (.istore_n 2, 1) := by decide +kernel
theorem dX1_peopleOf_2 : decode cX1_peopleOf 2 = .ok (.iconst 0, 1) := by decide +kernel
theorem dX1_peopleOf_3 : decode cX1_peopleOf 3 = .ok (.istore_n 3, 1) := by decide +kernel
theorem dX1_peopleOf_4 : decode cX1_peopleOf 4 = .ok (.iload_n 3, 1) := by decide +kernel
theorem dX1_peopleOf_5 : decode cX1_peopleOf 5 = .ok (.aload_n 0, 1) := by decide +kernel
theorem dX1_peopleOf_6 : decode cX1_peopleOf 6 = .ok (.getfield 37, 3) := by decide +kernel
theorem dX1_peopleOf_9 : decode cX1_peopleOf 9 = .ok (.if_icmp .ge 28, 3) := by decide +kernel
theorem dX1_peopleOf_12 : decode cX1_peopleOf 12 = .ok (.aload_n 0, 1) := by decide +kernel
theorem dX1_peopleOf_13 : decode cX1_peopleOf 13 = .ok (.getfield 11, 3) := by decide +kernel
theorem dX1_peopleOf_16 : decode cX1_peopleOf 16 = .ok (.iload_n 3, 1) := by decide +kernel
theorem dX1_peopleOf_17 : decode cX1_peopleOf 17 = .ok (.iaload, 1) := by decide +kernel
theorem dX1_peopleOf_18 : decode cX1_peopleOf 18 = .ok (.iload_n 1, 1) := by decide +kernel
theorem dX1_peopleOf_19 : decode cX1_peopleOf 19 = .ok (.if_icmp .ne 12, 3) := by decide +kernel
theorem dX1_peopleOf_22 : decode cX1_peopleOf 22 = .ok (.iload_n 2, 1) := by decide +kernel
theorem dX1_peopleOf_23 : decode cX1_peopleOf 23 = .ok (.aload_n 0, 1) := by decide +kernel
theorem dX1_peopleOf_24 : decode cX1_peopleOf 24 = .ok (.getfield 15, 3) := by decide +kernel
theorem dX1_peopleOf_27 : decode cX1_peopleOf 27 = .ok (.iload_n 3, 1) := by decide +kernel
theorem dX1_peopleOf_28 : decode cX1_peopleOf 28 = .ok (.iaload, 1) := by decide +kernel
theorem dX1_peopleOf_29 : decode cX1_peopleOf 29 = .ok (.iadd, 1) := by decide +kernel
theorem dX1_peopleOf_30 : decode cX1_peopleOf 30 = .ok (.istore_n 2, 1) := by decide +kernel
theorem dX1_peopleOf_31 : decode cX1_peopleOf 31 = .ok (.iinc 3 1, 3) := by decide +kernel
theorem dX1_peopleOf_34 : decode cX1_peopleOf 34 = .ok (.goto (-30), 3) := by decide +kernel
theorem dX1_peopleOf_37 : decode cX1_peopleOf 37 = .ok (.iload_n 2, 1) := by decide +kernel
theorem dX1_peopleOf_38 : decode cX1_peopleOf 38 = .ok (.ireturn, 1) := by decide +kernel
theorem dX1_lawOf_0 : decode cX1_lawOf 0 = .ok (.aload_n 0, 1) := by decide +kernel
theorem dX1_lawOf_1 : decode cX1_lawOf 1 = .ok (.iload_n 1, 1) := by decide +kernel
theorem dX1_lawOf_2 : decode cX1_lawOf 2 = .ok (.iload_n 3, 1) := by decide +kernel
theorem dX1_lawOf_3 : decode cX1_lawOf 3 = .ok (.invokevirtual 41, 3) := by decide +kernel
theorem dX1_lawOf_6 : decode cX1_lawOf 6 = .ok (.ifCond .eq 16, 3) := by decide +kernel
theorem dX1_lawOf_9 : decode cX1_lawOf 9 = .ok (.aload_n 0, 1) := by decide +kernel
theorem dX1_lawOf_10 : decode cX1_lawOf 10 = .ok (.getfield 33, 3) := by decide +kernel
theorem dX1_lawOf_13 : decode cX1_lawOf 13 = .ok (.iconst 5, 1) := by decide +kernel
theorem dX1_lawOf_14 : decode cX1_lawOf 14 = .ok (.iload_n 2, 1) := by decide +kernel
theorem dX1_lawOf_15 : decode cX1_lawOf 15 = .ok (.iload_n 3, 1) := by decide +kernel
theorem dX1_lawOf_16 : decode cX1_lawOf 16 = .ok (.iload 5, 2) := by decide +kernel
theorem dX1_lawOf_18 : decode cX1_lawOf 18 = .ok (.invokevirtual 49, 3) := by decide +kernel
theorem dX1_lawOf_21 : decode cX1_lawOf 21 = .ok (.ireturn, 1) := by decide +kernel
theorem dX1_lawOf_22 : decode cX1_lawOf 22 = .ok (.aload_n 0, 1) := by decide +kernel
theorem dX1_lawOf_23 : decode cX1_lawOf 23 = .ok (.iload_n 1, 1) := by decide +kernel
theorem dX1_lawOf_24 : decode cX1_lawOf 24 = .ok (.iload 4, 2) := by decide +kernel
theorem dX1_lawOf_26 : decode cX1_lawOf 26 = .ok (.invokevirtual 41, 3) := by decide +kernel
theorem dX1_lawOf_29 : decode cX1_lawOf 29 = .ok (.ifCond .eq 29, 3) := by decide +kernel
theorem dX1_lawOf_32 : decode cX1_lawOf 32 = .ok (.aload_n 0, 1) := by decide +kernel
theorem dX1_lawOf_33 : decode cX1_lawOf 33 = .ok (.getfield 33, 3) := by decide +kernel
theorem dX1_lawOf_36 : decode cX1_lawOf 36 = .ok (.bipush 6, 2) := by decide +kernel
theorem dX1_lawOf_38 : decode cX1_lawOf 38 = .ok (.iload_n 2, 1) := by decide +kernel
theorem dX1_lawOf_39 : decode cX1_lawOf 39 = .ok (.iload 4, 2) := by decide +kernel
theorem dX1_lawOf_41 : decode cX1_lawOf 41 = .ok (.iload 5, 2) := by decide +kernel
theorem dX1_lawOf_43 : decode cX1_lawOf 43 = .ok (.invokevirtual 49, 3) := by decide +kernel
theorem dX1_lawOf_46 : decode cX1_lawOf 46 = .ok (.istore 6, 2) := by decide +kernel
theorem dX1_lawOf_48 : decode cX1_lawOf 48 = .ok (.iload 6, 2) := by decide +kernel
theorem dX1_lawOf_50 : decode cX1_lawOf 50 = .ok (.bipush (-3), 2) := by decide +kernel
theorem dX1_lawOf_52 : decode cX1_lawOf 52 = .ok (.if_icmp .eq 6, 3) := by decide +kernel
theorem dX1_lawOf_55 : decode cX1_lawOf 55 = .ok (.iload 6, 2) := by decide +kernel
theorem dX1_lawOf_57 : decode cX1_lawOf 57 = .ok (.ireturn, 1) := by decide +kernel
theorem dX1_lawOf_58 : decode cX1_lawOf 58 = .ok (.aload_n 0, 1) := by decide +kernel
theorem dX1_lawOf_59 : decode cX1_lawOf 59 = .ok (.getfield 33, 3) := by decide +kernel
theorem dX1_lawOf_62 : decode cX1_lawOf 62 = .ok (.aload_n 0, 1) := by decide +kernel
theorem dX1_lawOf_63 : decode cX1_lawOf 63 = .ok (.getfield 11, 3) := by decide +kernel
theorem dX1_lawOf_66 : decode cX1_lawOf 66 = .ok (.iload_n 1, 1) := by decide +kernel
theorem dX1_lawOf_67 : decode cX1_lawOf 67 = .ok (.iaload, 1) := by decide +kernel
theorem dX1_lawOf_68 : decode cX1_lawOf 68 = .ok (.iload_n 2, 1) := by decide +kernel
theorem dX1_lawOf_69 : decode cX1_lawOf 69 = .ok (.iload_n 3, 1) := by decide +kernel
theorem dX1_lawOf_70 : decode cX1_lawOf 70 = .ok (.iload 5, 2) := by decide +kernel
theorem dX1_lawOf_72 : decode cX1_lawOf 72 = .ok (.invokevirtual 49, 3) := by decide +kernel
theorem dX1_lawOf_75 : decode cX1_lawOf 75 = .ok (.ireturn, 1) := by decide +kernel
theorem dX1_allChests_0 : decode cX1_allChests 0 = .ok (.iconst 0, 1) := by decide +kernel
theorem dX1_allChests_1 : decode cX1_allChests 1 = .ok (.istore_n 1, 1) := by decide +kernel
theorem dX1_allChests_2 : decode cX1_allChests 2 = .ok (.iconst 0, 1) := by decide +kernel
theorem dX1_allChests_3 : decode cX1_allChests 3 = .ok (.istore_n 2, 1) := by decide +kernel
theorem dX1_allChests_4 : decode cX1_allChests 4 = .ok (.iload_n 2, 1) := by decide +kernel
theorem dX1_allChests_5 : decode cX1_allChests 5 = .ok (.aload_n 0, 1) := by decide +kernel
theorem dX1_allChests_6 : decode cX1_allChests 6 = .ok (.getfield 37, 3) := by decide +kernel
theorem dX1_allChests_9 : decode cX1_allChests 9 = .ok (.if_icmp .ge 18, 3) := by decide +kernel
theorem dX1_allChests_12 : decode cX1_allChests 12 = .ok (.iload_n 1, 1) := by decide +kernel
theorem dX1_allChests_13 : decode cX1_allChests 13 = .ok (.aload_n 0, 1) := by decide +kernel
theorem dX1_allChests_14 : decode cX1_allChests 14 = .ok (.getfield 21, 3) := by decide +kernel
theorem dX1_allChests_17 : decode cX1_allChests 17 = .ok (.iload_n 2, 1) := by decide +kernel
theorem dX1_allChests_18 : decode cX1_allChests 18 = .ok (.iaload, 1) := by decide +kernel
theorem dX1_allChests_19 : decode cX1_allChests 19 = .ok (.iadd, 1) := by decide +kernel
theorem dX1_allChests_20 : decode cX1_allChests 20 = .ok (.istore_n 1, 1) := by decide +kernel
theorem dX1_allChests_21 : decode cX1_allChests 21 = .ok (.iinc 2 1, 3) := by decide +kernel
theorem dX1_allChests_24 : decode cX1_allChests 24 = .ok (.goto (-20), 3) := by decide +kernel
theorem dX1_allChests_27 : decode cX1_allChests 27 = .ok (.iload_n 1, 1) := by decide +kernel
theorem dX1_allChests_28 : decode cX1_allChests 28 = .ok (.ireturn, 1) := by decide +kernel
theorem dX1_hasDeed_0 : decode cX1_hasDeed 0 = .ok (.iload_n 1, 1) := by decide +kernel
theorem dX1_hasDeed_1 : decode cX1_hasDeed 1 = .ok (.ifCond .lt 15, 3) := by decide +kernel
theorem dX1_hasDeed_4 : decode cX1_hasDeed 4 = .ok (.iload_n 1, 1) := by decide +kernel
theorem dX1_hasDeed_5 : decode cX1_hasDeed 5 = .ok (.aload_n 0, 1) := by decide +kernel
theorem dX1_hasDeed_6 : decode cX1_hasDeed 6 = .ok (.getfield 55, 3) := by decide +kernel
theorem dX1_hasDeed_9 : decode cX1_hasDeed 9 = .ok (.if_icmp .ge 7, 3) := by decide +kernel
theorem dX1_hasDeed_12 : decode cX1_hasDeed 12 = .ok (.iconst 1, 1) := by decide +kernel
theorem dX1_hasDeed_13 : decode cX1_hasDeed 13 = .ok (.goto 4, 3) := by decide +kernel
theorem dX1_hasDeed_16 : decode cX1_hasDeed 16 = .ok (.iconst 0, 1) := by decide +kernel
theorem dX1_hasDeed_17 : decode cX1_hasDeed 17 = .ok (.ireturn, 1) := by decide +kernel
theorem dX1_isFullOfDeeds_0 : decode cX1_isFullOfDeeds 0 = .ok (.aload_n 0, 1) := by decide +kernel
theorem dX1_isFullOfDeeds_1 : decode cX1_isFullOfDeeds 1 = .ok (.getfield 55, 3) := by decide +kernel
theorem dX1_isFullOfDeeds_4 : decode cX1_isFullOfDeeds 4 = .ok (.bipush 60, 2) := by decide +kernel
theorem dX1_isFullOfDeeds_6 : decode cX1_isFullOfDeeds 6 = .ok (.if_icmp .lt 7, 3) := by decide +kernel
theorem dX1_isFullOfDeeds_9 : decode cX1_isFullOfDeeds 9 = .ok (.iconst 1, 1) := by decide +kernel
theorem dX1_isFullOfDeeds_10 : decode cX1_isFullOfDeeds 10 = .ok (.goto 4, 3) := by decide +kernel
theorem dX1_isFullOfDeeds_13 : decode cX1_isFullOfDeeds 13 = .ok (.iconst 0, 1) := by decide +kernel
theorem dX1_isFullOfDeeds_14 : decode cX1_isFullOfDeeds 14 = .ok (.ireturn, 1) := by decide +kernel
theorem dX1_addDeed_0 : decode cX1_addDeed 0 = .ok (.aload_n 0, 1) := by decide +kernel
theorem dX1_addDeed_1 : decode cX1_addDeed 1 = .ok (.getfield 24, 3) := by decide +kernel
theorem dX1_addDeed_4 : decode cX1_addDeed 4 = .ok (.aload_n 0, 1) := by decide +kernel
theorem dX1_addDeed_5 : decode cX1_addDeed 5 = .ok (.getfield 55, 3) := by decide +kernel
theorem dX1_addDeed_8 : decode cX1_addDeed 8 = .ok (.iload_n 1, 1) := by decide +kernel
theorem dX1_addDeed_9 : decode cX1_addDeed 9 = .ok (.iastore, 1) := by decide +kernel
theorem dX1_addDeed_10 : decode cX1_addDeed 10 = .ok (.aload_n 0, 1) := by decide +kernel
theorem dX1_addDeed_11 : decode cX1_addDeed 11 = .ok (.getfield 27, 3) := by decide +kernel
theorem dX1_addDeed_14 : decode cX1_addDeed 14 = .ok (.aload_n 0, 1) := by decide +kernel
theorem dX1_addDeed_15 : decode cX1_addDeed 15 = .ok (.getfield 55, 3) := by decide +kernel
theorem dX1_addDeed_18 : decode cX1_addDeed 18 = .ok (.iload_n 2, 1) := by decide +kernel
theorem dX1_addDeed_19 : decode cX1_addDeed 19 = .ok (.iastore, 1) := by decide +kernel
theorem dX1_addDeed_20 : decode cX1_addDeed 20 = .ok (.aload_n 0, 1) := by decide +kernel
theorem dX1_addDeed_21 : decode cX1_addDeed 21 = .ok (.getfield 30, 3) := by decide +kernel
theorem dX1_addDeed_24 : decode cX1_addDeed 24 = .ok (.aload_n 0, 1) := by decide +kernel
theorem dX1_addDeed_25 : decode cX1_addDeed 25 = .ok (.getfield 55, 3) := by decide +kernel
theorem dX1_addDeed_28 : decode cX1_addDeed 28 = .ok (.iload_n 3, 1) := by decide +kernel
theorem dX1_addDeed_29 : decode cX1_addDeed 29 = .ok (.iastore, 1) := by decide +kernel
theorem dX1_addDeed_30 : decode cX1_addDeed 30 = .ok (.aload_n 0, 1) := by decide +kernel
theorem dX1_addDeed_31 : decode cX1_addDeed 31 = .ok (.dup, 1) := by decide +kernel
theorem dX1_addDeed_32 : decode cX1_addDeed 32 = .ok (.getfield 55, 3) := by decide +kernel
theorem dX1_addDeed_35 : decode cX1_addDeed 35 = .ok (.iconst 1, 1) := by decide +kernel
theorem dX1_addDeed_36 : decode cX1_addDeed 36 = .ok (.iadd, 1) := by decide +kernel
theorem dX1_addDeed_37 : decode cX1_addDeed 37 = .ok (.putfield 55, 3) := by decide +kernel
theorem dX1_addDeed_40 : decode cX1_addDeed 40 = .ok (.aload_n 0, 1) := by decide +kernel
theorem dX1_addDeed_41 : decode cX1_addDeed 41 = .ok (.getfield 55, 3) := by decide +kernel
theorem dX1_addDeed_44 : decode cX1_addDeed 44 = .ok (.iconst 1, 1) := by decide +kernel
theorem dX1_addDeed_45 : decode cX1_addDeed 45 = .ok (.isub, 1) := by decide +kernel
theorem dX1_addDeed_46 : decode cX1_addDeed 46 = .ok (.ireturn, 1) := by decide +kernel
theorem dX1_isLost_0 : decode cX1_isLost 0 = .ok (.aload_n 0, 1) := by decide +kernel
theorem dX1_isLost_1 : decode cX1_isLost 1 = .ok (.getfield 24, 3) := by decide +kernel
theorem dX1_isLost_4 : decode cX1_isLost 4 = .ok (.iload_n 1, 1) := by decide +kernel
theorem dX1_isLost_5 : decode cX1_isLost 5 = .ok (.iaload, 1) := by decide +kernel
theorem dX1_isLost_6 : decode cX1_isLost 6 = .ok (.istore_n 3, 1) := by decide +kernel
theorem dX1_isLost_7 : decode cX1_isLost 7 = .ok (.aload_n 0, 1) := by decide +kernel
theorem dX1_isLost_8 : decode cX1_isLost 8 = .ok (.getfield 27, 3) := by decide +kernel
theorem dX1_isLost_11 : decode cX1_isLost 11 = .ok (.iload_n 1, 1) := by decide +kernel
theorem dX1_isLost_12 : decode cX1_isLost 12 = .ok (.iaload, 1) := by decide +kernel
theorem dX1_isLost_13 : decode cX1_isLost 13 = .ok (.istore 4, 2) := by decide +kernel
theorem dX1_isLost_15 : decode cX1_isLost 15 = .ok (.aload_n 0, 1) := by decide +kernel
theorem dX1_isLost_16 : decode cX1_isLost 16 = .ok (.getfield 30, 3) := by decide +kernel
theorem dX1_isLost_19 : decode cX1_isLost 19 = .ok (.iload_n 1, 1) := by decide +kernel
theorem dX1_isLost_20 : decode cX1_isLost 20 = .ok (.iaload, 1) := by decide +kernel
theorem dX1_isLost_21 : decode cX1_isLost 21 = .ok (.istore 5, 2) := by decide +kernel
theorem dX1_isLost_23 : decode cX1_isLost 23 = .ok (.aload_n 0, 1) := by decide +kernel
theorem dX1_isLost_24 : decode cX1_isLost 24 = .ok (.iload_n 3, 1) := by decide +kernel
theorem dX1_isLost_25 : decode cX1_isLost 25 = .ok (.iload 4, 2) := by decide +kernel
theorem dX1_isLost_27 : decode cX1_isLost 27 = .ok (.iload 5, 2) := by decide +kernel
theorem dX1_isLost_29 : decode cX1_isLost 29 = .ok (.iload_n 2, 1) := by decide +kernel
theorem dX1_isLost_30 : decode cX1_isLost 30 = .ok (.iload_n 2, 1) := by decide +kernel
theorem dX1_isLost_31 : decode cX1_isLost 31 = .ok (.invokevirtual 58, 3) := by decide +kernel
theorem dX1_isLost_34 : decode cX1_isLost 34 = .ok (.aload_n 0, 1) := by decide +kernel
theorem dX1_isLost_35 : decode cX1_isLost 35 = .ok (.iload_n 3, 1) := by decide +kernel
theorem dX1_isLost_36 : decode cX1_isLost 36 = .ok (.iload 4, 2) := by decide +kernel
theorem dX1_isLost_38 : decode cX1_isLost 38 = .ok (.iload 5, 2) := by decide +kernel
theorem dX1_isLost_40 : decode cX1_isLost 40 = .ok (.iload 5, 2) := by decide +kernel
theorem dX1_isLost_42 : decode cX1_isLost 42 = .ok (.iload 5, 2) := by decide +kernel
theorem dX1_isLost_44 : decode cX1_isLost 44 = .ok (.invokevirtual 58, 3) := by decide +kernel
theorem dX1_isLost_47 : decode cX1_isLost 47 = .ok (.if_icmp .eq 7, 3) := by decide +kernel
theorem dX1_isLost_50 : decode cX1_isLost 50 = .ok (.iconst 1, 1) := by decide +kernel
theorem dX1_isLost_51 : decode cX1_isLost 51 = .ok (.goto 4, 3) := by decide +kernel
theorem dX1_isLost_54 : decode cX1_isLost 54 = .ok (.iconst 0, 1) := by decide +kernel
theorem dX1_isLost_55 : decode cX1_isLost 55 = .ok (.ireturn, 1) := by decide +kernel
theorem dX2_init_0 : decode cX2_init 0 = .ok (.aload_n 0, 1) := by decide +kernel
theorem dX2_init_1 : decode cX2_init 1 = .ok (.invokespecial 1, 3) := by decide +kernel
theorem dX2_init_4 : decode cX2_init 4 = .ok (.aload_n 0, 1) := by decide +kernel
theorem dX2_init_5 : decode cX2_init 5 = .ok (.bipush 8, 2) := by decide +kernel
theorem dX2_init_7 : decode cX2_init 7 = .ok (.newarray .int, 2) := by decide +kernel
theorem dX2_init_9 : decode cX2_init 9 = .ok (.putfield 9, 3) := by decide +kernel
theorem dX2_init_12 : decode cX2_init 12 = .ok (.aload_n 0, 1) := by decide +kernel
theorem dX2_init_13 : decode cX2_init 13 = .ok (.bipush 8, 2) := by decide +kernel
theorem dX2_init_15 : decode cX2_init 15 = .ok (.newarray .int, 2) := by decide +kernel
theorem dX2_init_17 : decode cX2_init 17 = .ok (.putfield 15, 3) := by decide +kernel
theorem dX2_init_20 : decode cX2_init 20 = .ok (.aload_n 0, 1) := by decide +kernel
theorem dX2_init_21 : decode cX2_init 21 = .ok (.bipush 8, 2) := by decide +kernel
theorem dX2_init_23 : decode cX2_init 23 = .ok (.newarray .int, 2) := by decide +kernel
theorem dX2_init_25 : decode cX2_init 25 = .ok (.putfield 18, 3) := by decide +kernel
theorem dX2_init_28 : decode cX2_init 28 = .ok (.aload_n 0, 1) := by decide +kernel
theorem dX2_init_29 : decode cX2_init 29 = .ok (.sipush 256, 3) := by decide +kernel
theorem dX2_init_32 : decode cX2_init 32 = .ok (.newarray .int, 2) := by decide +kernel
theorem dX2_init_34 : decode cX2_init 34 = .ok (.putfield 21, 3) := by decide +kernel
theorem dX2_init_37 : decode cX2_init 37 = .ok (.aload_n 0, 1) := by decide +kernel
theorem dX2_init_38 : decode cX2_init 38 = .ok (.getfield 9, 3) := by decide +kernel
theorem dX2_init_41 : decode cX2_init 41 = .ok (.iconst 1, 1) := by decide +kernel
theorem dX2_init_42 : decode cX2_init 42 = .ok (.invokestatic 24, 3) := by decide +kernel
theorem dX2_init_45 : decode cX2_init 45 = .ok (.aload_n 0, 1) := by decide +kernel
theorem dX2_init_46 : decode cX2_init 46 = .ok (.getfield 18, 3) := by decide +kernel
theorem dX2_init_49 : decode cX2_init 49 = .ok (.iconst (-1), 1) := by decide +kernel
theorem dX2_init_50 : decode cX2_init 50 = .ok (.invokestatic 24, 3) := by decide +kernel
theorem dX2_init_53 : decode cX2_init 53 = .ok (.return_, 1) := by decide +kernel
theorem dX2_goesRound_0 : decode cX2_goesRound 0 = .ok (.iload_n 2, 1) := by decide +kernel
theorem dX2_goesRound_1 : decode cX2_goesRound 1 = .ok (.istore_n 3, 1) := by decide +kernel
theorem dX2_goesRound_2 : decode cX2_goesRound 2 = .ok (.iconst 0, 1) := by decide +kernel
theorem dX2_goesRound_3 : decode cX2_goesRound 3 = .ok (.istore 4, 2) := by decide +kernel
theorem dX2_goesRound_5 : decode cX2_goesRound 5 = .ok (.iload 4, 2) := by decide +kernel
theorem dX2_goesRound_7 : decode cX2_goesRound 7 = .ok (.aload_n 0, 1) := by decide +kernel
theorem dX2_goesRound_8 : decode cX2_goesRound 8 = .ok (.getfield 18, 3) := by decide +kernel
theorem dX2_goesRound_11 : decode cX2_goesRound 11 = .ok (.arraylength, 1) := by decide +kernel
theorem dX2_goesRound_12 : decode cX2_goesRound 12 = .ok (.if_icmp .ge 28, 3) := by decide +kernel
theorem dX2_goesRound_15 : decode cX2_goesRound 15 = .ok (.iload_n 3, 1) := by decide +kernel
theorem dX2_goesRound_16 : decode cX2_goesRound 16 = .ok (.iconst (-1), 1) := by decide +kernel
theorem dX2_goesRound_17 : decode cX2_goesRound 17 = .ok (.if_icmp .eq 23, 3) := by decide +kernel
theorem dX2_goesRound_20 : decode cX2_goesRound 20 = .ok (.iload_n 3, 1) := by decide +kernel
theorem dX2_goesRound_21 : decode cX2_goesRound 21 = .ok (.iload_n 1, 1) := by decide +kernel
theorem dX2_goesRound_22 : decode cX2_goesRound 22 = .ok (.if_icmp .ne 5, 3) := by decide +kernel
theorem dX2_goesRound_25 : decode cX2_goesRound 25 = .ok (.iconst 1, 1) := by decide +kernel
theorem dX2_goesRound_26 : decode cX2_goesRound 26 = .ok (.ireturn, 1) := by decide +kernel
theorem dX2_goesRound_27 : decode cX2_goesRound 27 = .ok (.aload_n 0, 1) := by decide +kernel
theorem dX2_goesRound_28 : decode cX2_goesRound 28 = .ok (.getfield 18, 3) := by decide +kernel
theorem dX2_goesRound_31 : decode cX2_goesRound 31 = .ok (.iload_n 3, 1) := by decide +kernel
theorem dX2_goesRound_32 : decode cX2_goesRound 32 = .ok (.iaload, 1) := by decide +kernel
theorem dX2_goesRound_33 : decode cX2_goesRound 33 = .ok (.istore_n 3, 1) := by decide +kernel
theorem dX2_goesRound_34 : decode cX2_goesRound 34 = .ok (.iinc 4 1, 3) := by decide +kernel
theorem dX2_goesRound_37 : decode cX2_goesRound 37 = .ok (.goto (-32), 3) := by decide +kernel
theorem dX2_goesRound_40 : decode cX2_goesRound 40 = .ok (.iconst 0, 1) := by decide +kernel
theorem dX2_goesRound_41 : decode cX2_goesRound 41 = .ok (.ireturn, 1) := by decide +kernel
theorem dX2_leastWaiting_0 : decode cX2_leastWaiting 0 = .ok (.iconst 1, 1) := by decide +kernel
theorem dX2_leastWaiting_1 : decode cX2_leastWaiting 1 = .ok (.iload_n 1, 1) := by decide +kernel
theorem dX2_leastWaiting_2 : decode cX2_leastWaiting 2 = .ok (.ishl, 1) := by decide +kernel
theorem dX2_leastWaiting_3 : decode cX2_leastWaiting 3 = .ok (.iconst 1, 1) := by decide +kernel
theorem dX2_leastWaiting_4 : decode cX2_leastWaiting 4 = .ok (.isub, 1) := by decide +kernel
theorem dX2_leastWaiting_5 : decode cX2_leastWaiting 5 = .ok (.istore_n 2, 1) := by decide +kernel
theorem dX2_leastWaiting_6 : decode cX2_leastWaiting 6 = .ok (.aload_n 0, 1) := by decide +kernel
theorem dX2_leastWaiting_7 : decode cX2_leastWaiting 7 = .ok (.getfield 21, 3) := by decide +kernel
theorem dX2_leastWaiting_10 : decode cX2_leastWaiting 10 = .ok (.iload_n 2, 1) := by decide +kernel
theorem dX2_leastWaiting_11 : decode cX2_leastWaiting 11 = .ok (.iconst 0, 1) := by decide +kernel
theorem dX2_leastWaiting_12 : decode cX2_leastWaiting 12 = .ok (.iastore, 1) := by decide +kernel
theorem dX2_leastWaiting_13 : decode cX2_leastWaiting 13 = .ok (.iload_n 2, 1) := by decide +kernel
theorem dX2_leastWaiting_14 : decode cX2_leastWaiting 14 = .ok (.iconst 1, 1) := by decide +kernel
theorem dX2_leastWaiting_15 : decode cX2_leastWaiting 15 = .ok (.isub, 1) := by decide +kernel
theorem dX2_leastWaiting_16 : decode cX2_leastWaiting 16 = .ok (.istore_n 3, 1) := by decide +kernel
theorem dX2_leastWaiting_17 : decode cX2_leastWaiting 17 = .ok (.iload_n 3, 1) := by decide +kernel
theorem dX2_leastWaiting_18 : decode cX2_leastWaiting 18 = .ok (.ifCond .lt 60, 3) := by decide +kernel
theorem dX2_leastWaiting_21 : decode cX2_leastWaiting 21 = .ok (.ldc 30, 2) := by decide +kernel
theorem dX2_leastWaiting_23 : decode cX2_leastWaiting 23 = .ok (.istore 4, 2) := by decide +kernel
theorem dX2_leastWaiting_25 : decode cX2_leastWaiting 25 = .ok (.iconst 0, 1) := by decide +kernel
theorem dX2_leastWaiting_26 : decode cX2_leastWaiting 26 = .ok (.istore 5, 2) := by decide +kernel
theorem dX2_leastWaiting_28 : decode cX2_leastWaiting 28 = .ok (.iload 5, 2) := by decide +kernel
theorem dX2_leastWaiting_30 : decode cX2_leastWaiting 30 = .ok (.iload_n 1, 1) := by decide +kernel
theorem dX2_leastWaiting_31 : decode cX2_leastWaiting 31 = .ok (.if_icmp .ge 33, 3) := by decide +kernel
theorem dX2_leastWaiting_34 : decode cX2_leastWaiting 34 = .ok (.aload_n 0, 1) := by decide +kernel
theorem dX2_leastWaiting_35 : decode cX2_leastWaiting 35 = .ok (.iload 5, 2) := by decide +kernel
theorem dX2_leastWaiting_37 : decode cX2_leastWaiting 37 = .ok (.iload_n 3, 1) := by decide +kernel
theorem dX2_leastWaiting_38 : decode cX2_leastWaiting 38 = .ok (.invokevirtual 31, 3) := by decide +kernel
theorem dX2_leastWaiting_41 : decode cX2_leastWaiting 41 = .ok (.ifCond .eq 17, 3) := by decide +kernel
theorem dX2_leastWaiting_44 : decode cX2_leastWaiting 44 = .ok (.iload 4, 2) := by decide +kernel
theorem dX2_leastWaiting_46 : decode cX2_leastWaiting 46 = .ok (.aload_n 0, 1) := by decide +kernel
theorem dX2_leastWaiting_47 : decode cX2_leastWaiting 47 = .ok (.iload 5, 2) := by decide +kernel
theorem dX2_leastWaiting_49 : decode cX2_leastWaiting 49 = .ok (.iload_n 3, 1) := by decide +kernel
theorem dX2_leastWaiting_50 : decode cX2_leastWaiting 50 = .ok (.invokevirtual 35, 3) := by decide +kernel
theorem dX2_leastWaiting_53 : decode cX2_leastWaiting 53 = .ok (.invokestatic 39, 3) := by decide +kernel
theorem dX2_leastWaiting_56 : decode cX2_leastWaiting 56 = .ok (.istore 4, 2) := by decide +kernel
theorem dX2_leastWaiting_58 : decode cX2_leastWaiting 58 = .ok (.iinc 5 1, 3) := by decide +kernel
theorem dX2_leastWaiting_61 : decode cX2_leastWaiting 61 = .ok (.goto (-33), 3) := by decide +kernel
theorem dX2_leastWaiting_64 : decode cX2_leastWaiting 64 = .ok (.aload_n 0, 1) := by decide +kernel
theorem dX2_leastWaiting_65 : decode cX2_leastWaiting 65 = .ok (.getfield 21, 3) := by decide +kernel
theorem dX2_leastWaiting_68 : decode cX2_leastWaiting 68 = .ok (.iload_n 3, 1) := by decide +kernel
theorem dX2_leastWaiting_69 : decode cX2_leastWaiting 69 = .ok (.iload 4, 2) := by decide +kernel
theorem dX2_leastWaiting_71 : decode cX2_leastWaiting 71 = .ok (.iastore, 1) := by decide +kernel
theorem dX2_leastWaiting_72 : decode cX2_leastWaiting 72 = .ok (.iinc 3 (-1), 3) := by decide +kernel
theorem dX2_leastWaiting_75 : decode cX2_leastWaiting 75 = .ok (.goto (-58), 3) := by decide +kernel
theorem dX2_leastWaiting_78 : decode cX2_leastWaiting 78 = .ok (.aload_n 0, 1) := by decide +kernel
theorem dX2_leastWaiting_79 : decode cX2_leastWaiting 79 = .ok (.getfield 21, 3) := by decide +kernel
theorem dX2_leastWaiting_82 : decode cX2_leastWaiting 82 = .ok (.iconst 0, 1) := by decide +kernel
theorem dX2_leastWaiting_83 : decode cX2_leastWaiting 83 = .ok (.iaload, 1) := by decide +kernel
theorem dX2_leastWaiting_84 : decode cX2_leastWaiting 84 = .ok (.ireturn, 1) := by decide +kernel
theorem dX2_taughtAt_0 : decode cX2_taughtAt 0 = .ok (.aload_n 0, 1) := by decide +kernel
theorem dX2_taughtAt_1 : decode cX2_taughtAt 1 = .ok (.iload_n 2, 1) := by decide +kernel
theorem dX2_taughtAt_2 : decode cX2_taughtAt 2 = .ok (.invokevirtual 44, 3) := by decide +kernel
theorem dX2_taughtAt_5 : decode cX2_taughtAt 5 = .ok (.pop, 1) := by decide +kernel
theorem dX2_taughtAt_6 : decode cX2_taughtAt 6 = .ok (.iconst 0, 1) := by decide +kernel
theorem dX2_taughtAt_7 : decode cX2_taughtAt 7 = .ok (.istore_n 3, 1) := by decide +kernel
theorem dX2_taughtAt_8 : decode cX2_taughtAt 8 = .ok (.iconst 0, 1) := by decide +kernel
theorem dX2_taughtAt_9 : decode cX2_taughtAt 9 = .ok (.istore 4, 2) := by decide +kernel
theorem dX2_taughtAt_11 : decode cX2_taughtAt 11 = .ok (.iload 4, 2) := by decide +kernel
theorem dX2_taughtAt_13 : decode cX2_taughtAt 13 = .ok (.iload_n 1, 1) := by decide +kernel
theorem dX2_taughtAt_14 : decode cX2_taughtAt 14 = .ok (.if_icmp .ge 20, 3) := by decide +kernel
theorem dX2_taughtAt_17 : decode cX2_taughtAt 17 = .ok (.iload_n 3, 1) := by decide +kernel
theorem dX2_taughtAt_18 : decode cX2_taughtAt 18 = .ok (.iconst 1, 1) := by decide +kernel
theorem dX2_taughtAt_19 : decode cX2_taughtAt 19 = .ok (.aload_n 0, 1) := by decide +kernel
theorem dX2_taughtAt_20 : decode cX2_taughtAt 20 = .ok (.iload_n 3, 1) := by decide +kernel
theorem dX2_taughtAt_21 : decode cX2_taughtAt 21 = .ok (.iload_n 2, 1) := by decide +kernel
theorem dX2_taughtAt_22 : decode cX2_taughtAt 22 = .ok (.invokevirtual 48, 3) := by decide +kernel
theorem dX2_taughtAt_25 : decode cX2_taughtAt 25 = .ok (.ishl, 1) := by decide +kernel
theorem dX2_taughtAt_26 : decode cX2_taughtAt 26 = .ok (.ior, 1) := by decide +kernel
theorem dX2_taughtAt_27 : decode cX2_taughtAt 27 = .ok (.istore_n 3, 1) := by decide +kernel
theorem dX2_taughtAt_28 : decode cX2_taughtAt 28 = .ok (.iinc 4 1, 3) := by decide +kernel
theorem dX2_taughtAt_31 : decode cX2_taughtAt 31 = .ok (.goto (-20), 3) := by decide +kernel
theorem dX2_taughtAt_34 : decode cX2_taughtAt 34 = .ok (.aload_n 0, 1) := by decide +kernel
theorem dX2_taughtAt_35 : decode cX2_taughtAt 35 = .ok (.iload_n 3, 1) := by decide +kernel
theorem dX2_taughtAt_36 : decode cX2_taughtAt 36 = .ok (.iload_n 2, 1) := by decide +kernel
theorem dX2_taughtAt_37 : decode cX2_taughtAt 37 = .ok (.invokevirtual 48, 3) := by decide +kernel
theorem dX2_taughtAt_40 : decode cX2_taughtAt 40 = .ok (.ireturn, 1) := by decide +kernel
theorem dX2_nextTaught_0 : decode cX2_nextTaught 0 = .ok (.iconst 0, 1) := by decide +kernel
theorem dX2_nextTaught_1 : decode cX2_nextTaught 1 = .ok (.istore_n 3, 1) := by decide +kernel
theorem dX2_nextTaught_2 : decode cX2_nextTaught 2 = .ok (.iload_n 3, 1) := by decide +kernel
theorem dX2_nextTaught_3 : decode cX2_nextTaught 3 = .ok (.iload_n 2, 1) := by decide +kernel
theorem dX2_nextTaught_4 : decode cX2_nextTaught 4 = .ok (.if_icmp .ge 35, 3) := by decide +kernel
theorem dX2_nextTaught_7 : decode cX2_nextTaught 7 = .ok (.aload_n 0, 1) := by decide +kernel
theorem dX2_nextTaught_8 : decode cX2_nextTaught 8 = .ok (.iload_n 3, 1) := by decide +kernel
theorem dX2_nextTaught_9 : decode cX2_nextTaught 9 = .ok (.iload_n 1, 1) := by decide +kernel
theorem dX2_nextTaught_10 : decode cX2_nextTaught 10 = .ok (.invokevirtual 31, 3) := by decide +kernel
theorem dX2_nextTaught_13 : decode cX2_nextTaught 13 = .ok (.ifCond .eq 20, 3) := by decide +kernel
theorem dX2_nextTaught_16 : decode cX2_nextTaught 16 = .ok (.aload_n 0, 1) := by decide +kernel
theorem dX2_nextTaught_17 : decode cX2_nextTaught 17 = .ok (.iload_n 3, 1) := by decide +kernel
theorem dX2_nextTaught_18 : decode cX2_nextTaught 18 = .ok (.iload_n 1, 1) := by decide +kernel
theorem dX2_nextTaught_19 : decode cX2_nextTaught 19 = .ok (.invokevirtual 35, 3) := by decide +kernel
theorem dX2_nextTaught_22 : decode cX2_nextTaught 22 = .ok (.aload_n 0, 1) := by decide +kernel
theorem dX2_nextTaught_23 : decode cX2_nextTaught 23 = .ok (.getfield 21, 3) := by decide +kernel
theorem dX2_nextTaught_26 : decode cX2_nextTaught 26 = .ok (.iload_n 1, 1) := by decide +kernel
theorem dX2_nextTaught_27 : decode cX2_nextTaught 27 = .ok (.iaload, 1) := by decide +kernel
theorem dX2_nextTaught_28 : decode cX2_nextTaught 28 = .ok (.if_icmp .ne 5, 3) := by decide +kernel
theorem dX2_nextTaught_31 : decode cX2_nextTaught 31 = .ok (.iload_n 3, 1) := by decide +kernel
theorem dX2_nextTaught_32 : decode cX2_nextTaught 32 = .ok (.ireturn, 1) := by decide +kernel
theorem dX2_nextTaught_33 : decode cX2_nextTaught 33 = .ok (.iinc 3 1, 3) := by decide +kernel
theorem dX2_nextTaught_36 : decode cX2_nextTaught 36 = .ok (.goto (-34), 3) := by decide +kernel
theorem dX2_nextTaught_39 : decode cX2_nextTaught 39 = .ok (.iconst 0, 1) := by decide +kernel
theorem dX2_nextTaught_40 : decode cX2_nextTaught 40 = .ok (.ireturn, 1) := by decide +kernel
theorem dX2_mayFollow_0 : decode cX2_mayFollow 0 = .ok (.aload_n 0, 1) := by decide +kernel
theorem dX2_mayFollow_1 : decode cX2_mayFollow 1 = .ok (.getfield 18, 3) := by decide +kernel
theorem dX2_mayFollow_4 : decode cX2_mayFollow 4 = .ok (.iload_n 1, 1) := by decide +kernel
theorem dX2_mayFollow_5 : decode cX2_mayFollow 5 = .ok (.iaload, 1) := by decide +kernel
theorem dX2_mayFollow_6 : decode cX2_mayFollow 6 = .ok (.iconst (-1), 1) := by decide +kernel
theorem dX2_mayFollow_7 : decode cX2_mayFollow 7 = .ok (.if_icmp .eq 16, 3) := by decide +kernel
theorem dX2_mayFollow_10 : decode cX2_mayFollow 10 = .ok (.iload_n 2, 1) := by decide +kernel
theorem dX2_mayFollow_11 : decode cX2_mayFollow 11 = .ok (.aload_n 0, 1) := by decide +kernel
theorem dX2_mayFollow_12 : decode cX2_mayFollow 12 = .ok (.getfield 18, 3) := by decide +kernel
theorem dX2_mayFollow_15 : decode cX2_mayFollow 15 = .ok (.iload_n 1, 1) := by decide +kernel
theorem dX2_mayFollow_16 : decode cX2_mayFollow 16 = .ok (.iaload, 1) := by decide +kernel
theorem dX2_mayFollow_17 : decode cX2_mayFollow 17 = .ok (.ishr, 1) := by decide +kernel
theorem dX2_mayFollow_18 : decode cX2_mayFollow 18 = .ok (.iconst 1, 1) := by decide +kernel
theorem dX2_mayFollow_19 : decode cX2_mayFollow 19 = .ok (.iand, 1) := by decide +kernel
theorem dX2_mayFollow_20 : decode cX2_mayFollow 20 = .ok (.ifCond .eq 7, 3) := by decide +kernel
theorem dX2_mayFollow_23 : decode cX2_mayFollow 23 = .ok (.iconst 1, 1) := by decide +kernel
theorem dX2_mayFollow_24 : decode cX2_mayFollow 24 = .ok (.goto 4, 3) := by decide +kernel
theorem dX2_mayFollow_27 : decode cX2_mayFollow 27 = .ok (.iconst 0, 1) := by decide +kernel
theorem dX2_mayFollow_28 : decode cX2_mayFollow 28 = .ok (.istore_n 3, 1) := by decide +kernel
theorem dX2_mayFollow_29 : decode cX2_mayFollow 29 = .ok (.iload_n 3, 1) := by decide +kernel
theorem dX2_mayFollow_30 : decode cX2_mayFollow 30 = .ok (.ifCond .eq 15, 3) := by decide +kernel
theorem dX2_mayFollow_33 : decode cX2_mayFollow 33 = .ok (.iload_n 2, 1) := by decide +kernel
theorem dX2_mayFollow_34 : decode cX2_mayFollow 34 = .ok (.iload_n 1, 1) := by decide +kernel
theorem dX2_mayFollow_35 : decode cX2_mayFollow 35 = .ok (.ishr, 1) := by decide +kernel
theorem dX2_mayFollow_36 : decode cX2_mayFollow 36 = .ok (.iconst 1, 1) := by decide +kernel
theorem dX2_mayFollow_37 : decode cX2_mayFollow 37 = .ok (.iand, 1) := by decide +kernel
theorem dX2_mayFollow_38 : decode cX2_mayFollow 38 = .ok (.ifCond .ne 7, 3) := by decide +kernel
theorem dX2_mayFollow_41 : decode cX2_mayFollow 41 = .ok (.iconst 1, 1) := by decide +kernel
theorem dX2_mayFollow_42 : decode cX2_mayFollow 42 = .ok (.goto 4, 3) := by decide +kernel
theorem dX2_mayFollow_45 : decode cX2_mayFollow 45 = .ok (.iconst 0, 1) := by decide +kernel
theorem dX2_mayFollow_46 : decode cX2_mayFollow 46 = .ok (.ireturn, 1) := by decide +kernel
theorem dX2_waitsIfNext_0 : decode cX2_waitsIfNext 0 = .ok (.aload_n 0, 1) := by decide +kernel
theorem dX2_waitsIfNext_1 : decode cX2_waitsIfNext 1 = .ok (.getfield 9, 3) := by decide +kernel
theorem dX2_waitsIfNext_4 : decode cX2_waitsIfNext 4 = .ok (.iload_n 1, 1) := by decide +kernel
theorem dX2_waitsIfNext_5 : decode cX2_waitsIfNext 5 = .ok (.iaload, 1) := by decide +kernel
theorem dX2_waitsIfNext_6 : decode cX2_waitsIfNext 6 = .ok (.istore_n 3, 1) := by decide +kernel
theorem dX2_waitsIfNext_7 : decode cX2_waitsIfNext 7 = .ok (.iconst 0, 1) := by decide +kernel
theorem dX2_waitsIfNext_8 : decode cX2_waitsIfNext 8 = .ok (.istore 4, 2) := by decide +kernel
theorem dX2_waitsIfNext_10 : decode cX2_waitsIfNext 10 = .ok (.iload 4, 2) := by decide +kernel
theorem dX2_waitsIfNext_12 : decode cX2_waitsIfNext 12 = .ok (.aload_n 0, 1) := by decide +kernel
theorem dX2_waitsIfNext_13 : decode cX2_waitsIfNext 13 = .ok (.getfield 9, 3) := by decide +kernel
theorem dX2_waitsIfNext_16 : decode cX2_waitsIfNext 16 = .ok (.arraylength, 1) := by decide +kernel
theorem dX2_waitsIfNext_17 : decode cX2_waitsIfNext 17 = .ok (.if_icmp .ge 28, 3) := by decide +kernel
theorem dX2_waitsIfNext_20 : decode cX2_waitsIfNext 20 = .ok (.iload_n 2, 1) := by decide +kernel
theorem dX2_waitsIfNext_21 : decode cX2_waitsIfNext 21 = .ok (.iload 4, 2) := by decide +kernel
theorem dX2_waitsIfNext_23 : decode cX2_waitsIfNext 23 = .ok (.ishr, 1) := by decide +kernel
theorem dX2_waitsIfNext_24 : decode cX2_waitsIfNext 24 = .ok (.iconst 1, 1) := by decide +kernel
theorem dX2_waitsIfNext_25 : decode cX2_waitsIfNext 25 = .ok (.iand, 1) := by decide +kernel
theorem dX2_waitsIfNext_26 : decode cX2_waitsIfNext 26 = .ok (.ifCond .eq 13, 3) := by decide +kernel
theorem dX2_waitsIfNext_29 : decode cX2_waitsIfNext 29 = .ok (.iload_n 3, 1) := by decide +kernel
theorem dX2_waitsIfNext_30 : decode cX2_waitsIfNext 30 = .ok (.aload_n 0, 1) := by decide +kernel
theorem dX2_waitsIfNext_31 : decode cX2_waitsIfNext 31 = .ok (.getfield 9, 3) := by decide +kernel
theorem dX2_waitsIfNext_34 : decode cX2_waitsIfNext 34 = .ok (.iload 4, 2) := by decide +kernel
theorem dX2_waitsIfNext_36 : decode cX2_waitsIfNext 36 = .ok (.iaload, 1) := by decide +kernel
theorem dX2_waitsIfNext_37 : decode cX2_waitsIfNext 37 = .ok (.iadd, 1) := by decide +kernel
theorem dX2_waitsIfNext_38 : decode cX2_waitsIfNext 38 = .ok (.istore_n 3, 1) := by decide +kernel
theorem dX2_waitsIfNext_39 : decode cX2_waitsIfNext 39 = .ok (.iinc 4 1, 3) := by decide +kernel
theorem dX2_waitsIfNext_42 : decode cX2_waitsIfNext 42 = .ok (.goto (-32), 3) := by decide +kernel
theorem dX2_waitsIfNext_45 : decode cX2_waitsIfNext 45 = .ok (.iload_n 3, 1) := by decide +kernel
theorem dX2_waitsIfNext_46 : decode cX2_waitsIfNext 46 = .ok (.aload_n 0, 1) := by decide +kernel
theorem dX2_waitsIfNext_47 : decode cX2_waitsIfNext 47 = .ok (.getfield 15, 3) := by decide +kernel
theorem dX2_waitsIfNext_50 : decode cX2_waitsIfNext 50 = .ok (.iload_n 1, 1) := by decide +kernel
theorem dX2_waitsIfNext_51 : decode cX2_waitsIfNext 51 = .ok (.iaload, 1) := by decide +kernel
theorem dX2_waitsIfNext_52 : decode cX2_waitsIfNext 52 = .ok (.imul, 1) := by decide +kernel
theorem dX2_waitsIfNext_53 : decode cX2_waitsIfNext 53 = .ok (.aload_n 0, 1) := by decide +kernel
theorem dX2_waitsIfNext_54 : decode cX2_waitsIfNext 54 = .ok (.getfield 21, 3) := by decide +kernel
theorem dX2_waitsIfNext_57 : decode cX2_waitsIfNext 57 = .ok (.iload_n 2, 1) := by decide +kernel
theorem dX2_waitsIfNext_58 : decode cX2_waitsIfNext 58 = .ok (.iconst 1, 1) := by decide +kernel
theorem dX2_waitsIfNext_59 : decode cX2_waitsIfNext 59 = .ok (.iload_n 1, 1) := by decide +kernel
theorem dX2_waitsIfNext_60 : decode cX2_waitsIfNext 60 = .ok (.ishl, 1) := by decide +kernel
theorem dX2_waitsIfNext_61 : decode cX2_waitsIfNext 61 = .ok (.ior, 1) := by decide +kernel
theorem dX2_waitsIfNext_62 : decode cX2_waitsIfNext 62 = .ok (.iaload, 1) := by decide +kernel
theorem dX2_waitsIfNext_63 : decode cX2_waitsIfNext 63 = .ok (.iadd, 1) := by decide +kernel
theorem dX2_waitsIfNext_64 : decode cX2_waitsIfNext 64 = .ok (.ireturn, 1) := by decide +kernel
theorem dX3_init_0 : decode cX3_init 0 = .ok (.aload_n 0, 1) := by decide +kernel
theorem dX3_init_1 : decode cX3_init 1 = .ok (.invokespecial 3, 3) := by decide +kernel
theorem dX3_init_4 : decode cX3_init 4 = .ok (.aload_n 0, 1) := by decide +kernel
theorem dX3_init_5 : decode cX3_init 5 = .ok (.bipush 30, 2) := by decide +kernel
theorem dX3_init_7 : decode cX3_init 7 = .ok (.newarray .int, 2) := by decide +kernel
theorem dX3_init_9 : decode cX3_init 9 = .ok (.putfield 11, 3) := by decide +kernel
theorem dX3_init_12 : decode cX3_init 12 = .ok (.aload_n 0, 1) := by decide +kernel
theorem dX3_init_13 : decode cX3_init 13 = .ok (.bipush 30, 2) := by decide +kernel
theorem dX3_init_15 : decode cX3_init 15 = .ok (.newarray .int, 2) := by decide +kernel
theorem dX3_init_17 : decode cX3_init 17 = .ok (.putfield 15, 3) := by decide +kernel
theorem dX3_init_20 : decode cX3_init 20 = .ok (.aload_n 0, 1) := by decide +kernel
theorem dX3_init_21 : decode cX3_init 21 = .ok (.bipush 30, 2) := by decide +kernel
theorem dX3_init_23 : decode cX3_init 23 = .ok (.newarray .int, 2) := by decide +kernel
theorem dX3_init_25 : decode cX3_init 25 = .ok (.putfield 18, 3) := by decide +kernel
theorem dX3_init_28 : decode cX3_init 28 = .ok (.aload_n 0, 1) := by decide +kernel
theorem dX3_init_29 : decode cX3_init 29 = .ok (.bipush 30, 2) := by decide +kernel
theorem dX3_init_31 : decode cX3_init 31 = .ok (.newarray .int, 2) := by decide +kernel
theorem dX3_init_33 : decode cX3_init 33 = .ok (.putfield 21, 3) := by decide +kernel
theorem dX3_init_36 : decode cX3_init 36 = .ok (.aload_n 0, 1) := by decide +kernel
theorem dX3_init_37 : decode cX3_init 37 = .ok (.bipush 30, 2) := by decide +kernel
theorem dX3_init_39 : decode cX3_init 39 = .ok (.newarray .int, 2) := by decide +kernel
theorem dX3_init_41 : decode cX3_init 41 = .ok (.putfield 24, 3) := by decide +kernel
theorem dX3_init_44 : decode cX3_init 44 = .ok (.aload_n 0, 1) := by decide +kernel
theorem dX3_init_45 : decode cX3_init 45 = .ok (.bipush 30, 2) := by decide +kernel
theorem dX3_init_47 : decode cX3_init 47 = .ok (.newarray .int, 2) := by decide +kernel
theorem dX3_init_49 : decode cX3_init 49 = .ok (.putfield 27, 3) := by decide +kernel
theorem dX3_init_52 : decode cX3_init 52 = .ok (.aload_n 0, 1) := by decide +kernel
theorem dX3_init_53 : decode cX3_init 53 = .ok (.bipush 30, 2) := by decide +kernel
theorem dX3_init_55 : decode cX3_init 55 = .ok (.newarray .int, 2) := by decide +kernel
theorem dX3_init_57 : decode cX3_init 57 = .ok (.putfield 30, 3) := by decide +kernel
theorem dX3_init_60 : decode cX3_init 60 = .ok (.aload_n 0, 1) := by decide +kernel
theorem dX3_init_61 : decode cX3_init 61 = .ok (.bipush 30, 2) := by decide +kernel
theorem dX3_init_63 : decode cX3_init 63 = .ok (.newarray .int, 2) := by decide +kernel
theorem dX3_init_65 : decode cX3_init 65 = .ok (.putfield 33, 3) := by decide +kernel
theorem dX3_init_68 : decode cX3_init 68 = .ok (.aload_n 0, 1) := by decide +kernel
theorem dX3_init_69 : decode cX3_init 69 = .ok (.aload_n 1, 1) := by decide +kernel
theorem dX3_init_70 : decode cX3_init 70 = .ok (.putfield 36, 3) := by decide +kernel
theorem dX3_init_73 : decode cX3_init 73 = .ok (.return_, 1) := by decide +kernel
theorem dX3_has_0 : decode cX3_has 0 = .ok (.iload_n 1, 1) := by decide +kernel
theorem dX3_has_1 : decode cX3_has 1 = .ok (.ifCond .lt 15, 3) := by decide +kernel
theorem dX3_has_4 : decode cX3_has 4 = .ok (.iload_n 1, 1) := by decide +kernel
theorem dX3_has_5 : decode cX3_has 5 = .ok (.aload_n 0, 1) := by decide +kernel
theorem dX3_has_6 : decode cX3_has 6 = .ok (.getfield 40, 3) := by decide +kernel
theorem dX3_has_9 : decode cX3_has 9 = .ok (.if_icmp .ge 7, 3) := by decide +kernel
theorem dX3_has_12 : decode cX3_has 12 = .ok (.iconst 1, 1) := by decide +kernel
theorem dX3_has_13 : decode cX3_has 13 = .ok (.goto 4, 3) := by decide +kernel
theorem dX3_has_16 : decode cX3_has 16 = .ok (.iconst 0, 1) := by decide +kernel
theorem dX3_has_17 : decode cX3_has 17 = .ok (.ireturn, 1) := by decide +kernel
theorem dX3_isFull_0 : decode cX3_isFull 0 = .ok (.aload_n 0, 1) := by decide +kernel
theorem dX3_isFull_1 : decode cX3_isFull 1 = .ok (.getfield 40, 3) := by decide +kernel
theorem dX3_isFull_4 : decode cX3_isFull 4 = .ok (.bipush 30, 2) := by decide +kernel
theorem dX3_isFull_6 : decode cX3_isFull 6 = .ok (.if_icmp .lt 7, 3) := by decide +kernel
theorem dX3_isFull_9 : decode cX3_isFull 9 = .ok (.iconst 1, 1) := by decide +kernel
theorem dX3_isFull_10 : decode cX3_isFull 10 = .ok (.goto 4, 3) := by decide +kernel
theorem dX3_isFull_13 : decode cX3_isFull 13 = .ok (.iconst 0, 1) := by decide +kernel
theorem dX3_isFull_14 : decode cX3_isFull 14 = .ok (.ireturn, 1) := by decide +kernel
theorem dX3_add_0 : decode cX3_add 0 = .ok (.aload_n 0, 1) := by decide +kernel
theorem dX3_add_1 : decode cX3_add 1 = .ok (.getfield 11, 3) := by decide +kernel
theorem dX3_add_4 : decode cX3_add 4 = .ok (.aload_n 0, 1) := by decide +kernel
theorem dX3_add_5 : decode cX3_add 5 = .ok (.getfield 40, 3) := by decide +kernel
theorem dX3_add_8 : decode cX3_add 8 = .ok (.iload_n 1, 1) := by decide +kernel
theorem dX3_add_9 : decode cX3_add 9 = .ok (.iastore, 1) := by decide +kernel
theorem dX3_add_10 : decode cX3_add 10 = .ok (.aload_n 0, 1) := by decide +kernel
theorem dX3_add_11 : decode cX3_add 11 = .ok (.getfield 15, 3) := by decide +kernel
theorem dX3_add_14 : decode cX3_add 14 = .ok (.aload_n 0, 1) := by decide +kernel
theorem dX3_add_15 : decode cX3_add 15 = .ok (.getfield 40, 3) := by decide +kernel
theorem dX3_add_18 : decode cX3_add 18 = .ok (.iload_n 2, 1) := by decide +kernel
theorem dX3_add_19 : decode cX3_add 19 = .ok (.iastore, 1) := by decide +kernel
theorem dX3_add_20 : decode cX3_add 20 = .ok (.aload_n 0, 1) := by decide +kernel
theorem dX3_add_21 : decode cX3_add 21 = .ok (.getfield 18, 3) := by decide +kernel
theorem dX3_add_24 : decode cX3_add 24 = .ok (.aload_n 0, 1) := by decide +kernel
theorem dX3_add_25 : decode cX3_add 25 = .ok (.getfield 40, 3) := by decide +kernel
theorem dX3_add_28 : decode cX3_add 28 = .ok (.iload_n 3, 1) := by decide +kernel
theorem dX3_add_29 : decode cX3_add 29 = .ok (.iastore, 1) := by decide +kernel
theorem dX3_add_30 : decode cX3_add 30 = .ok (.aload_n 0, 1) := by decide +kernel
theorem dX3_add_31 : decode cX3_add 31 = .ok (.getfield 21, 3) := by decide +kernel
theorem dX3_add_34 : decode cX3_add 34 = .ok (.aload_n 0, 1) := by decide +kernel
theorem dX3_add_35 : decode cX3_add 35 = .ok (.getfield 40, 3) := by decide +kernel
theorem dX3_add_38 : decode cX3_add 38 = .ok (.iload 4, 2) := by decide +kernel
theorem dX3_add_40 : decode cX3_add 40 = .ok (.iastore, 1) := by decide +kernel
theorem dX3_add_41 : decode cX3_add 41 = .ok (.aload_n 0, 1) := by decide +kernel
theorem dX3_add_42 : decode cX3_add 42 = .ok (.getfield 24, 3) := by decide +kernel
theorem dX3_add_45 : decode cX3_add 45 = .ok (.aload_n 0, 1) := by decide +kernel
theorem dX3_add_46 : decode cX3_add 46 = .ok (.getfield 40, 3) := by decide +kernel
theorem dX3_add_49 : decode cX3_add 49 = .ok (.iload 5, 2) := by decide +kernel
theorem dX3_add_51 : decode cX3_add 51 = .ok (.iastore, 1) := by decide +kernel
theorem dX3_add_52 : decode cX3_add 52 = .ok (.aload_n 0, 1) := by decide +kernel
theorem dX3_add_53 : decode cX3_add 53 = .ok (.getfield 27, 3) := by decide +kernel
theorem dX3_add_56 : decode cX3_add 56 = .ok (.aload_n 0, 1) := by decide +kernel
theorem dX3_add_57 : decode cX3_add 57 = .ok (.getfield 40, 3) := by decide +kernel
theorem dX3_add_60 : decode cX3_add 60 = .ok (.iload 6, 2) := by decide +kernel
theorem dX3_add_62 : decode cX3_add 62 = .ok (.iastore, 1) := by decide +kernel
theorem dX3_add_63 : decode cX3_add 63 = .ok (.aload_n 0, 1) := by decide +kernel
theorem dX3_add_64 : decode cX3_add 64 = .ok (.getfield 30, 3) := by decide +kernel
theorem dX3_add_67 : decode cX3_add 67 = .ok (.aload_n 0, 1) := by decide +kernel
theorem dX3_add_68 : decode cX3_add 68 = .ok (.getfield 40, 3) := by decide +kernel
theorem dX3_add_71 : decode cX3_add 71 = .ok (.iconst 0, 1) := by decide +kernel
theorem dX3_add_72 : decode cX3_add 72 = .ok (.iastore, 1) := by decide +kernel
theorem dX3_add_73 : decode cX3_add 73 = .ok (.aload_n 0, 1) := by decide +kernel
theorem dX3_add_74 : decode cX3_add 74 = .ok (.getfield 33, 3) := by decide +kernel
theorem dX3_add_77 : decode cX3_add 77 = .ok (.aload_n 0, 1) := by decide +kernel
theorem dX3_add_78 : decode cX3_add 78 = .ok (.getfield 40, 3) := by decide +kernel
theorem dX3_add_81 : decode cX3_add 81 = .ok (.iconst (-1), 1) := by decide +kernel
theorem dX3_add_82 : decode cX3_add 82 = .ok (.iastore, 1) := by decide +kernel
theorem dX3_add_83 : decode cX3_add 83 = .ok (.aload_n 0, 1) := by decide +kernel
theorem dX3_add_84 : decode cX3_add 84 = .ok (.dup, 1) := by decide +kernel
theorem dX3_add_85 : decode cX3_add 85 = .ok (.getfield 40, 3) := by decide +kernel
theorem dX3_add_88 : decode cX3_add 88 = .ok (.iconst 1, 1) := by decide +kernel
theorem dX3_add_89 : decode cX3_add 89 = .ok (.iadd, 1) := by decide +kernel
theorem dX3_add_90 : decode cX3_add 90 = .ok (.putfield 40, 3) := by decide +kernel
theorem dX3_add_93 : decode cX3_add 93 = .ok (.aload_n 0, 1) := by decide +kernel
theorem dX3_add_94 : decode cX3_add 94 = .ok (.getfield 40, 3) := by decide +kernel
theorem dX3_add_97 : decode cX3_add 97 = .ok (.iconst 1, 1) := by decide +kernel
theorem dX3_add_98 : decode cX3_add 98 = .ok (.isub, 1) := by decide +kernel
theorem dX3_add_99 : decode cX3_add 99 = .ok (.ireturn, 1) := by decide +kernel
theorem dX3_lives_0 : decode cX3_lives 0 = .ok (.aload_n 0, 1) := by decide +kernel
theorem dX3_lives_1 : decode cX3_lives 1 = .ok (.getfield 30, 3) := by decide +kernel
theorem dX3_lives_4 : decode cX3_lives 4 = .ok (.iload_n 1, 1) := by decide +kernel
theorem dX3_lives_5 : decode cX3_lives 5 = .ok (.iaload, 1) := by decide +kernel
theorem dX3_lives_6 : decode cX3_lives 6 = .ok (.ifCond .ne 7, 3) := by decide +kernel
theorem dX3_lives_9 : decode cX3_lives 9 = .ok (.iconst 1, 1) := by decide +kernel
theorem dX3_lives_10 : decode cX3_lives 10 = .ok (.goto 4, 3) := by decide +kernel
theorem dX3_lives_13 : decode cX3_lives 13 = .ok (.iconst 0, 1) := by decide +kernel
theorem dX3_lives_14 : decode cX3_lives 14 = .ok (.ireturn, 1) := by decide +kernel
theorem dX3_isQuarrelled_0 : decode cX3_isQuarrelled 0 = .ok (.aload_n 0, 1) := by decide +kernel
theorem dX3_isQuarrelled_1 : decode cX3_isQuarrelled 1 = .ok (.getfield 30, 3) := by decide +kernel
theorem dX3_isQuarrelled_4 : decode cX3_isQuarrelled 4 = .ok (.iload_n 1, 1) := by decide +kernel
theorem dX3_isQuarrelled_5 : decode cX3_isQuarrelled 5 = .ok (.iaload, 1) := by decide +kernel
theorem dX3_isQuarrelled_6 : decode cX3_isQuarrelled 6 = .ok (.iconst 2, 1) := by decide +kernel
theorem dX3_isQuarrelled_7 : decode cX3_isQuarrelled 7 = .ok (.if_icmp .ne 7, 3) := by decide +kernel
theorem dX3_isQuarrelled_10 : decode cX3_isQuarrelled 10 = .ok (.iconst 1, 1) := by decide +kernel
theorem dX3_isQuarrelled_11 : decode cX3_isQuarrelled 11 = .ok (.goto 4, 3) := by decide +kernel
theorem dX3_isQuarrelled_14 : decode cX3_isQuarrelled 14 = .ok (.iconst 0, 1) := by decide +kernel
theorem dX3_isQuarrelled_15 : decode cX3_isQuarrelled 15 = .ok (.ireturn, 1) := by decide +kernel
theorem dX3_inState_0 : decode cX3_inState 0 = .ok (.iconst 0, 1) := by decide +kernel
theorem dX3_inState_1 : decode cX3_inState 1 = .ok (.istore_n 2, 1) := by decide +kernel
theorem dX3_inState_2 : decode cX3_inState 2 = .ok (.iconst 0, 1) := by decide +kernel
theorem dX3_inState_3 : decode cX3_inState 3 = .ok (.istore_n 3, 1) := by decide +kernel
theorem dX3_inState_4 : decode cX3_inState 4 = .ok (.iload_n 3, 1) := by decide +kernel
theorem dX3_inState_5 : decode cX3_inState 5 = .ok (.aload_n 0, 1) := by decide +kernel
theorem dX3_inState_6 : decode cX3_inState 6 = .ok (.getfield 40, 3) := by decide +kernel
theorem dX3_inState_9 : decode cX3_inState 9 = .ok (.if_icmp .ge 22, 3) := by decide +kernel
theorem dX3_inState_12 : decode cX3_inState 12 = .ok (.aload_n 0, 1) := by decide +kernel
theorem dX3_inState_13 : decode cX3_inState 13 = .ok (.getfield 30, 3) := by decide +kernel
theorem dX3_inState_16 : decode cX3_inState 16 = .ok (.iload_n 3, 1) := by decide +kernel
theorem dX3_inState_17 : decode cX3_inState 17 = .ok (.iaload, 1) := by decide +kernel
theorem dX3_inState_18 : decode cX3_inState 18 = .ok (.iload_n 1, 1) := by decide +kernel
theorem dX3_inState_19 : decode cX3_inState 19 = .ok (.if_icmp .ne 6, 3) := by decide +kernel
theorem dX3_inState_22 : decode cX3_inState 22 = .ok (.iinc 2 1, 3) := by decide +kernel
theorem dX3_inState_25 : decode cX3_inState 25 = .ok (.iinc 3 1, 3) := by decide +kernel
theorem dX3_inState_28 : decode cX3_inState 28 = .ok (.goto (-24), 3) := by decide +kernel
theorem dX3_inState_31 : decode cX3_inState 31 = .ok (.iload_n 2, 1) := by decide +kernel
theorem dX3_inState_32 : decode cX3_inState 32 = .ok (.ireturn, 1) := by decide +kernel
theorem dX3_allCoins_0 : decode cX3_allCoins 0 = .ok (.iconst 0, 1) := by decide +kernel
theorem dX3_allCoins_1 : decode cX3_allCoins 1 = .ok (.istore_n 1, 1) := by decide +kernel
theorem dX3_allCoins_2 : decode cX3_allCoins 2 = .ok (.iconst 0, 1) := by decide +kernel
theorem dX3_allCoins_3 : decode cX3_allCoins 3 = .ok (.istore_n 2, 1) := by decide +kernel
theorem dX3_allCoins_4 : decode cX3_allCoins 4 = .ok (.iload_n 2, 1) := by decide +kernel
theorem dX3_allCoins_5 : decode cX3_allCoins 5 = .ok (.aload_n 0, 1) := by decide +kernel
theorem dX3_allCoins_6 : decode cX3_allCoins 6 = .ok (.getfield 40, 3) := by decide +kernel
theorem dX3_allCoins_9 : decode cX3_allCoins 9 = .ok (.if_icmp .ge 18, 3) := by decide +kernel
theorem dX3_allCoins_12 : decode cX3_allCoins 12 = .ok (.iload_n 1, 1) := by decide +kernel
theorem dX3_allCoins_13 : decode cX3_allCoins 13 = .ok (.aload_n 0, 1) := by decide +kernel
theorem dX3_allCoins_14 : decode cX3_allCoins 14 = .ok (.getfield 27, 3) := by decide +kernel
theorem dX3_allCoins_17 : decode cX3_allCoins 17 = .ok (.iload_n 2, 1) := by decide +kernel
theorem dX3_allCoins_18 : decode cX3_allCoins 18 = .ok (.iaload, 1) := by decide +kernel
theorem dX3_allCoins_19 : decode cX3_allCoins 19 = .ok (.iadd, 1) := by decide +kernel
theorem dX3_allCoins_20 : decode cX3_allCoins 20 = .ok (.istore_n 1, 1) := by decide +kernel
theorem dX3_allCoins_21 : decode cX3_allCoins 21 = .ok (.iinc 2 1, 3) := by decide +kernel
theorem dX3_allCoins_24 : decode cX3_allCoins 24 = .ok (.goto (-20), 3) := by decide +kernel
theorem dX3_allCoins_27 : decode cX3_allCoins 27 = .ok (.iload_n 1, 1) := by decide +kernel
theorem dX3_allCoins_28 : decode cX3_allCoins 28 = .ok (.ireturn, 1) := by decide +kernel
theorem dX3_livingChildren_0 : decode cX3_livingChildren 0 = .ok (.iconst 0, 1) := by decide +kernel
theorem dX3_livingChildren_1 : decode cX3_livingChildren 1 = .ok (.istore_n 3, 1) := by decide +kernel
theorem dX3_livingChildren_2 : decode cX3_livingChildren 2 = .ok (.iconst 0, 1) := by decide +kernel
theorem dX3_livingChildren_3 : decode cX3_livingChildren 3 = .ok (.istore 4, 2) := by decide +kernel
theorem dX3_livingChildren_5 : decode cX3_livingChildren 5 = .ok (.iload 4, 2) := by decide +kernel
theorem dX3_livingChildren_7 : decode cX3_livingChildren 7 = .ok (.aload_n 0, 1) := by decide +kernel
theorem dX3_livingChildren_8 : decode cX3_livingChildren 8 = .ok (.getfield 40, 3) := by decide +kernel
theorem dX3_livingChildren_11 : decode cX3_livingChildren 11 = .ok (.if_icmp .ge 23, 3) := by decide +kernel
theorem dX3_livingChildren_14 : decode cX3_livingChildren 14 = .ok (.aload_n 0, 1) := by decide +kernel
theorem dX3_livingChildren_15 : decode cX3_livingChildren 15 = .ok (.iload 4, 2) := by decide +kernel
theorem dX3_livingChildren_17 : decode cX3_livingChildren 17 = .ok (.iload_n 1, 1) := by decide +kernel
theorem dX3_livingChildren_18 : decode cX3_livingChildren 18 = .ok (.iload_n 2, 1) := by decide +kernel
theorem dX3_livingChildren_19 : decode cX3_livingChildren 19 = .ok (.invokevirtual 44, 3) := by decide +kernel
theorem dX3_livingChildren_22 : decode cX3_livingChildren 22 = .ok (.ifCond .eq 6, 3) := by decide +kernel
theorem dX3_livingChildren_25 : decode cX3_livingChildren 25 = .ok (.iinc 3 1, 3) := by decide +kernel
theorem dX3_livingChildren_28 : decode cX3_livingChildren 28 = .ok (.iinc 4 1, 3) := by decide +kernel
theorem dX3_livingChildren_31 : decode cX3_livingChildren 31 = .ok (.goto (-26), 3) := by decide +kernel
theorem dX3_livingChildren_34 : decode cX3_livingChildren 34 = .ok (.iload_n 3, 1) := by decide +kernel
theorem dX3_livingChildren_35 : decode cX3_livingChildren 35 = .ok (.ireturn, 1) := by decide +kernel
theorem dX3_bury_0 : decode cX3_bury 0 = .ok (.aload_n 0, 1) := by decide +kernel
theorem dX3_bury_1 : decode cX3_bury 1 = .ok (.getfield 33, 3) := by decide +kernel
theorem dX3_bury_4 : decode cX3_bury 4 = .ok (.iload_n 1, 1) := by decide +kernel
theorem dX3_bury_5 : decode cX3_bury 5 = .ok (.aload_n 0, 1) := by decide +kernel
theorem dX3_bury_6 : decode cX3_bury 6 = .ok (.iload_n 1, 1) := by decide +kernel
theorem dX3_bury_7 : decode cX3_bury 7 = .ok (.invokevirtual 48, 3) := by decide +kernel
theorem dX3_bury_10 : decode cX3_bury 10 = .ok (.iastore, 1) := by decide +kernel
theorem dX3_bury_11 : decode cX3_bury 11 = .ok (.aload_n 0, 1) := by decide +kernel
theorem dX3_bury_12 : decode cX3_bury 12 = .ok (.getfield 30, 3) := by decide +kernel
theorem dX3_bury_15 : decode cX3_bury 15 = .ok (.iload_n 1, 1) := by decide +kernel
theorem dX3_bury_16 : decode cX3_bury 16 = .ok (.iconst 2, 1) := by decide +kernel
theorem dX3_bury_17 : decode cX3_bury 17 = .ok (.iastore, 1) := by decide +kernel
theorem dX3_bury_18 : decode cX3_bury 18 = .ok (.return_, 1) := by decide +kernel
theorem dX3_endQuarrel_0 : decode cX3_endQuarrel 0 = .ok (.aload_n 0, 1) := by decide +kernel
theorem dX3_endQuarrel_1 : decode cX3_endQuarrel 1 = .ok (.getfield 36, 3) := by decide +kernel
theorem dX3_endQuarrel_4 : decode cX3_endQuarrel 4 = .ok (.aload_n 0, 1) := by decide +kernel
theorem dX3_endQuarrel_5 : decode cX3_endQuarrel 5 = .ok (.getfield 11, 3) := by decide +kernel
theorem dX3_endQuarrel_8 : decode cX3_endQuarrel 8 = .ok (.iload_n 1, 1) := by decide +kernel
theorem dX3_endQuarrel_9 : decode cX3_endQuarrel 9 = .ok (.iaload, 1) := by decide +kernel
theorem dX3_endQuarrel_10 : decode cX3_endQuarrel 10 = .ok (.aload_n 0, 1) := by decide +kernel
theorem dX3_endQuarrel_11 : decode cX3_endQuarrel 11 = .ok (.getfield 33, 3) := by decide +kernel
theorem dX3_endQuarrel_14 : decode cX3_endQuarrel 14 = .ok (.iload_n 1, 1) := by decide +kernel
theorem dX3_endQuarrel_15 : decode cX3_endQuarrel 15 = .ok (.iaload, 1) := by decide +kernel
theorem dX3_endQuarrel_16 : decode cX3_endQuarrel 16 = .ok (.iload_n 2, 1) := by decide +kernel
theorem dX3_endQuarrel_17 : decode cX3_endQuarrel 17 = .ok (.iload_n 2, 1) := by decide +kernel
theorem dX3_endQuarrel_18 : decode cX3_endQuarrel 18 = .ok (.iload_n 2, 1) := by decide +kernel
theorem dX3_endQuarrel_19 : decode cX3_endQuarrel 19 = .ok (.invokevirtual 52, 3) := by decide +kernel
theorem dX3_endQuarrel_22 : decode cX3_endQuarrel 22 = .ok (.istore_n 3, 1) := by decide +kernel
theorem dX3_endQuarrel_23 : decode cX3_endQuarrel 23 = .ok (.iload_n 3, 1) := by decide +kernel
theorem dX3_endQuarrel_24 : decode cX3_endQuarrel 24 = .ok (.ifCond .lt 16, 3) := by decide +kernel
theorem dX3_endQuarrel_27 : decode cX3_endQuarrel 27 = .ok (.aload_n 0, 1) := by decide +kernel
theorem dX3_endQuarrel_28 : decode cX3_endQuarrel 28 = .ok (.getfield 30, 3) := by decide +kernel
theorem dX3_endQuarrel_31 : decode cX3_endQuarrel 31 = .ok (.iload_n 1, 1) := by decide +kernel
theorem dX3_endQuarrel_32 : decode cX3_endQuarrel 32 = .ok (.iconst 1, 1) := by decide +kernel
theorem dX3_endQuarrel_33 : decode cX3_endQuarrel 33 = .ok (.iastore, 1) := by decide +kernel
theorem dX3_endQuarrel_34 : decode cX3_endQuarrel 34 = .ok (.aload_n 0, 1) := by decide +kernel
theorem dX3_endQuarrel_35 : decode cX3_endQuarrel 35 = .ok (.iload_n 1, 1) := by decide +kernel
theorem dX3_endQuarrel_36 : decode cX3_endQuarrel 36 = .ok (.iload_n 3, 1) := by decide +kernel
theorem dX3_endQuarrel_37 : decode cX3_endQuarrel 37 = .ok (.invokevirtual 58, 3) := by decide +kernel
theorem dX3_endQuarrel_40 : decode cX3_endQuarrel 40 = .ok (.iload_n 3, 1) := by decide +kernel
theorem dX3_endQuarrel_41 : decode cX3_endQuarrel 41 = .ok (.ireturn, 1) := by decide +kernel
theorem dX3_sortOf_0 : decode cX3_sortOf 0 = .ok (.aload_n 0, 1) := by decide +kernel
theorem dX3_sortOf_1 : decode cX3_sortOf 1 = .ok (.iload_n 1, 1) := by decide +kernel
theorem dX3_sortOf_2 : decode cX3_sortOf 2 = .ok (.iconst (-1), 1) := by decide +kernel
theorem dX3_sortOf_3 : decode cX3_sortOf 3 = .ok (.invokevirtual 62, 3) := by decide +kernel
theorem dX3_sortOf_6 : decode cX3_sortOf 6 = .ok (.iconst 3, 1) := by decide +kernel
theorem dX3_sortOf_7 : decode cX3_sortOf 7 = .ok (.invokestatic 66, 3) := by decide +kernel
theorem dX3_sortOf_10 : decode cX3_sortOf 10 = .ok (.istore_n 2, 1) := by decide +kernel
theorem dX3_sortOf_11 : decode cX3_sortOf 11 = .ok (.aload_n 0, 1) := by decide +kernel
theorem dX3_sortOf_12 : decode cX3_sortOf 12 = .ok (.getfield 27, 3) := by decide +kernel
theorem dX3_sortOf_15 : decode cX3_sortOf 15 = .ok (.iload_n 1, 1) := by decide +kernel
theorem dX3_sortOf_16 : decode cX3_sortOf 16 = .ok (.iaload, 1) := by decide +kernel
theorem dX3_sortOf_17 : decode cX3_sortOf 17 = .ok (.bipush 100, 2) := by decide +kernel
theorem dX3_sortOf_19 : decode cX3_sortOf 19 = .ok (.idiv, 1) := by decide +kernel
theorem dX3_sortOf_20 : decode cX3_sortOf 20 = .ok (.iconst 3, 1) := by decide +kernel
theorem dX3_sortOf_21 : decode cX3_sortOf 21 = .ok (.invokestatic 66, 3) := by decide +kernel
theorem dX3_sortOf_24 : decode cX3_sortOf 24 = .ok (.istore_n 3, 1) := by decide +kernel
theorem dX3_sortOf_25 : decode cX3_sortOf 25 = .ok (.bipush 8, 2) := by decide +kernel
theorem dX3_sortOf_27 : decode cX3_sortOf 27 = .ok (.aload_n 0, 1) := by decide +kernel
theorem dX3_sortOf_28 : decode cX3_sortOf 28 = .ok (.getfield 18, 3) := by decide +kernel
theorem dX3_sortOf_31 : decode cX3_sortOf 31 = .ok (.iload_n 1, 1) := by decide +kernel
theorem dX3_sortOf_32 : decode cX3_sortOf 32 = .ok (.iaload, 1) := by decide +kernel
theorem dX3_sortOf_33 : decode cX3_sortOf 33 = .ok (.iadd, 1) := by decide +kernel
theorem dX3_sortOf_34 : decode cX3_sortOf 34 = .ok (.iconst 3, 1) := by decide +kernel
theorem dX3_sortOf_35 : decode cX3_sortOf 35 = .ok (.imul, 1) := by decide +kernel
theorem dX3_sortOf_36 : decode cX3_sortOf 36 = .ok (.aload_n 0, 1) := by decide +kernel
theorem dX3_sortOf_37 : decode cX3_sortOf 37 = .ok (.getfield 21, 3) := by decide +kernel
theorem dX3_sortOf_40 : decode cX3_sortOf 40 = .ok (.iload_n 1, 1) := by decide +kernel
theorem dX3_sortOf_41 : decode cX3_sortOf 41 = .ok (.iaload, 1) := by decide +kernel
theorem dX3_sortOf_42 : decode cX3_sortOf 42 = .ok (.iadd, 1) := by decide +kernel
theorem dX3_sortOf_43 : decode cX3_sortOf 43 = .ok (.istore 4, 2) := by decide +kernel
theorem dX3_sortOf_45 : decode cX3_sortOf 45 = .ok (.iload 4, 2) := by decide +kernel
theorem dX3_sortOf_47 : decode cX3_sortOf 47 = .ok (.iconst 4, 1) := by decide +kernel
theorem dX3_sortOf_48 : decode cX3_sortOf 48 = .ok (.imul, 1) := by decide +kernel
theorem dX3_sortOf_49 : decode cX3_sortOf 49 = .ok (.iload_n 2, 1) := by decide +kernel
theorem dX3_sortOf_50 : decode cX3_sortOf 50 = .ok (.iadd, 1) := by decide +kernel
theorem dX3_sortOf_51 : decode cX3_sortOf 51 = .ok (.iconst 2, 1) := by decide +kernel
theorem dX3_sortOf_52 : decode cX3_sortOf 52 = .ok (.imul, 1) := by decide +kernel
theorem dX3_sortOf_53 : decode cX3_sortOf 53 = .ok (.aload_n 0, 1) := by decide +kernel
theorem dX3_sortOf_54 : decode cX3_sortOf 54 = .ok (.getfield 24, 3) := by decide +kernel
theorem dX3_sortOf_57 : decode cX3_sortOf 57 = .ok (.iload_n 1, 1) := by decide +kernel
theorem dX3_sortOf_58 : decode cX3_sortOf 58 = .ok (.iaload, 1) := by decide +kernel
theorem dX3_sortOf_59 : decode cX3_sortOf 59 = .ok (.iadd, 1) := by decide +kernel
theorem dX3_sortOf_60 : decode cX3_sortOf 60 = .ok (.iconst 4, 1) := by decide +kernel
theorem dX3_sortOf_61 : decode cX3_sortOf 61 = .ok (.imul, 1) := by decide +kernel
theorem dX3_sortOf_62 : decode cX3_sortOf 62 = .ok (.iload_n 3, 1) := by decide +kernel
theorem dX3_sortOf_63 : decode cX3_sortOf 63 = .ok (.iadd, 1) := by decide +kernel
theorem dX3_sortOf_64 : decode cX3_sortOf 64 = .ok (.ireturn, 1) := by decide +kernel
theorem dX3_partCoins_0 : decode cX3_partCoins 0 = .ok (.aload_n 0, 1) := by decide +kernel
theorem dX3_partCoins_1 : decode cX3_partCoins 1 = .ok (.getfield 27, 3) := by decide +kernel
theorem dX3_partCoins_4 : decode cX3_partCoins 4 = .ok (.iload_n 1, 1) := by decide +kernel
theorem dX3_partCoins_5 : decode cX3_partCoins 5 = .ok (.iaload, 1) := by decide +kernel
theorem dX3_partCoins_6 : decode cX3_partCoins 6 = .ok (.istore_n 3, 1) := by decide +kernel
theorem dX3_partCoins_7 : decode cX3_partCoins 7 = .ok (.aload_n 0, 1) := by decide +kernel
theorem dX3_partCoins_8 : decode cX3_partCoins 8 = .ok (.getfield 27, 3) := by decide +kernel
theorem dX3_partCoins_11 : decode cX3_partCoins 11 = .ok (.iload_n 1, 1) := by decide +kernel
theorem dX3_partCoins_12 : decode cX3_partCoins 12 = .ok (.iconst 0, 1) := by decide +kernel
theorem dX3_partCoins_13 : decode cX3_partCoins 13 = .ok (.iastore, 1) := by decide +kernel
theorem dX3_partCoins_14 : decode cX3_partCoins 14 = .ok (.iload_n 2, 1) := by decide +kernel
theorem dX3_partCoins_15 : decode cX3_partCoins 15 = .ok (.ifCond .ne 12, 3) := by decide +kernel
theorem dX3_partCoins_18 : decode cX3_partCoins 18 = .ok (.aload_n 0, 1) := by decide +kernel
theorem dX3_partCoins_19 : decode cX3_partCoins 19 = .ok (.iload_n 1, 1) := by decide +kernel
theorem dX3_partCoins_20 : decode cX3_partCoins 20 = .ok (.iload_n 3, 1) := by decide +kernel
theorem dX3_partCoins_21 : decode cX3_partCoins 21 = .ok (.invokevirtual 71, 3) := by decide +kernel
theorem dX3_partCoins_24 : decode cX3_partCoins 24 = .ok (.goto 62, 3) := by decide +kernel
theorem dX3_partCoins_27 : decode cX3_partCoins 27 = .ok (.iload_n 2, 1) := by decide +kernel
theorem dX3_partCoins_28 : decode cX3_partCoins 28 = .ok (.sipush 200, 3) := by decide +kernel
theorem dX3_partCoins_31 : decode cX3_partCoins 31 = .ok (.if_icmp .lt 17, 3) := by decide +kernel
theorem dX3_partCoins_34 : decode cX3_partCoins 34 = .ok (.aload_n 0, 1) := by decide +kernel
theorem dX3_partCoins_35 : decode cX3_partCoins 35 = .ok (.iload_n 1, 1) := by decide +kernel
theorem dX3_partCoins_36 : decode cX3_partCoins 36 = .ok (.iload_n 2, 1) := by decide +kernel
theorem dX3_partCoins_37 : decode cX3_partCoins 37 = .ok (.sipush 200, 3) := by decide +kernel
theorem dX3_partCoins_40 : decode cX3_partCoins 40 = .ok (.isub, 1) := by decide +kernel
theorem dX3_partCoins_41 : decode cX3_partCoins 41 = .ok (.iload_n 3, 1) := by decide +kernel
theorem dX3_partCoins_42 : decode cX3_partCoins 42 = .ok (.invokevirtual 74, 3) := by decide +kernel
theorem dX3_partCoins_45 : decode cX3_partCoins 45 = .ok (.goto 41, 3) := by decide +kernel
theorem dX3_partCoins_48 : decode cX3_partCoins 48 = .ok (.iload_n 2, 1) := by decide +kernel
theorem dX3_partCoins_49 : decode cX3_partCoins 49 = .ok (.bipush 100, 2) := by decide +kernel
theorem dX3_partCoins_51 : decode cX3_partCoins 51 = .ok (.if_icmp .lt 15, 3) := by decide +kernel
theorem dX3_partCoins_54 : decode cX3_partCoins 54 = .ok (.iload_n 3, 1) := by decide +kernel
theorem dX3_partCoins_55 : decode cX3_partCoins 55 = .ok (.iload_n 2, 1) := by decide +kernel
theorem dX3_partCoins_56 : decode cX3_partCoins 56 = .ok (.bipush 100, 2) := by decide +kernel
theorem dX3_partCoins_58 : decode cX3_partCoins 58 = .ok (.isub, 1) := by decide +kernel
theorem dX3_partCoins_59 : decode cX3_partCoins 59 = .ok (.imul, 1) := by decide +kernel
theorem dX3_partCoins_60 : decode cX3_partCoins 60 = .ok (.bipush 100, 2) := by decide +kernel
theorem dX3_partCoins_62 : decode cX3_partCoins 62 = .ok (.idiv, 1) := by decide +kernel
theorem dX3_partCoins_63 : decode cX3_partCoins 63 = .ok (.goto 4, 3) := by decide +kernel
theorem dX3_partCoins_66 : decode cX3_partCoins 66 = .ok (.iconst 0, 1) := by decide +kernel
theorem dX3_partCoins_67 : decode cX3_partCoins 67 = .ok (.istore 4, 2) := by decide +kernel
theorem dX3_partCoins_69 : decode cX3_partCoins 69 = .ok (.aload_n 0, 1) := by decide +kernel
theorem dX3_partCoins_70 : decode cX3_partCoins 70 = .ok (.iload_n 1, 1) := by decide +kernel
theorem dX3_partCoins_71 : decode cX3_partCoins 71 = .ok (.iload 4, 2) := by decide +kernel
theorem dX3_partCoins_73 : decode cX3_partCoins 73 = .ok (.invokevirtual 71, 3) := by decide +kernel
theorem dX3_partCoins_76 : decode cX3_partCoins 76 = .ok (.aload_n 0, 1) := by decide +kernel
theorem dX3_partCoins_77 : decode cX3_partCoins 77 = .ok (.iload_n 1, 1) := by decide +kernel
theorem dX3_partCoins_78 : decode cX3_partCoins 78 = .ok (.iconst (-1), 1) := by decide +kernel
theorem dX3_partCoins_79 : decode cX3_partCoins 79 = .ok (.iload_n 3, 1) := by decide +kernel
theorem dX3_partCoins_80 : decode cX3_partCoins 80 = .ok (.iload 4, 2) := by decide +kernel
theorem dX3_partCoins_82 : decode cX3_partCoins 82 = .ok (.isub, 1) := by decide +kernel
theorem dX3_partCoins_83 : decode cX3_partCoins 83 = .ok (.invokevirtual 78, 3) := by decide +kernel
theorem dX3_partCoins_86 : decode cX3_partCoins 86 = .ok (.return_, 1) := by decide +kernel
theorem dX3_goByWay_0 : decode cX3_goByWay 0 = .ok (.aload_n 0, 1) := by decide +kernel
theorem dX3_goByWay_1 : decode cX3_goByWay 1 = .ok (.iload_n 1, 1) := by decide +kernel
theorem dX3_goByWay_2 : decode cX3_goByWay 2 = .ok (.invokevirtual 81, 3) := by decide +kernel
theorem dX3_goByWay_5 : decode cX3_goByWay 5 = .ok (.istore 4, 2) := by decide +kernel
theorem dX3_goByWay_7 : decode cX3_goByWay 7 = .ok (.iload_n 2, 1) := by decide +kernel
theorem dX3_goByWay_8 : decode cX3_goByWay 8 = .ok (.tableswitch 64 0 2 #[28, 39, 49], 28) := by decide +kernel
theorem dX3_goByWay_36 : decode cX3_goByWay 36 = .ok (.aload_n 0, 1) := by decide +kernel
theorem dX3_goByWay_37 : decode cX3_goByWay 37 = .ok (.iload_n 1, 1) := by decide +kernel
theorem dX3_goByWay_38 : decode cX3_goByWay 38 = .ok (.iload 4, 2) := by decide +kernel
theorem dX3_goByWay_40 : decode cX3_goByWay 40 = .ok (.iload_n 3, 1) := by decide +kernel
theorem dX3_goByWay_41 : decode cX3_goByWay 41 = .ok (.invokevirtual 84, 3) := by decide +kernel
theorem dX3_goByWay_44 : decode cX3_goByWay 44 = .ok (.goto 67, 3) := by decide +kernel
theorem dX3_goByWay_47 : decode cX3_goByWay 47 = .ok (.aload_n 0, 1) := by decide +kernel
theorem dX3_goByWay_48 : decode cX3_goByWay 48 = .ok (.iload_n 1, 1) := by decide +kernel
theorem dX3_goByWay_49 : decode cX3_goByWay 49 = .ok (.iconst (-1), 1) := by decide +kernel
theorem dX3_goByWay_50 : decode cX3_goByWay 50 = .ok (.iload_n 3, 1) := by decide +kernel
theorem dX3_goByWay_51 : decode cX3_goByWay 51 = .ok (.invokevirtual 78, 3) := by decide +kernel
theorem dX3_goByWay_54 : decode cX3_goByWay 54 = .ok (.goto 57, 3) := by decide +kernel
theorem dX3_goByWay_57 : decode cX3_goByWay 57 = .ok (.aload_n 0, 1) := by decide +kernel
theorem dX3_goByWay_58 : decode cX3_goByWay 58 = .ok (.iload_n 1, 1) := by decide +kernel
theorem dX3_goByWay_59 : decode cX3_goByWay 59 = .ok (.aload_n 0, 1) := by decide +kernel
theorem dX3_goByWay_60 : decode cX3_goByWay 60 = .ok (.getfield 15, 3) := by decide +kernel
theorem dX3_goByWay_63 : decode cX3_goByWay 63 = .ok (.iload_n 1, 1) := by decide +kernel
theorem dX3_goByWay_64 : decode cX3_goByWay 64 = .ok (.iaload, 1) := by decide +kernel
theorem dX3_goByWay_65 : decode cX3_goByWay 65 = .ok (.iload_n 3, 1) := by decide +kernel
theorem dX3_goByWay_66 : decode cX3_goByWay 66 = .ok (.invokevirtual 84, 3) := by decide +kernel
theorem dX3_goByWay_69 : decode cX3_goByWay 69 = .ok (.goto 42, 3) := by decide +kernel
theorem dX3_goByWay_72 : decode cX3_goByWay 72 = .ok (.aload_n 0, 1) := by decide +kernel
theorem dX3_goByWay_73 : decode cX3_goByWay 73 = .ok (.iload_n 1, 1) := by decide +kernel
theorem dX3_goByWay_74 : decode cX3_goByWay 74 = .ok (.iload 4, 2) := by decide +kernel
theorem dX3_goByWay_76 : decode cX3_goByWay 76 = .ok (.invokevirtual 62, 3) := by decide +kernel
theorem dX3_goByWay_79 : decode cX3_goByWay 79 = .ok (.ifCond .ne 7, 3) := by decide +kernel
theorem dX3_goByWay_82 : decode cX3_goByWay 82 = .ok (.iload_n 3, 1) := by decide +kernel
theorem dX3_goByWay_83 : decode cX3_goByWay 83 = .ok (.goto 6, 3) := by decide +kernel
theorem dX3_goByWay_86 : decode cX3_goByWay 86 = .ok (.iload_n 3, 1) := by decide +kernel
theorem dX3_goByWay_87 : decode cX3_goByWay 87 = .ok (.iconst 2, 1) := by decide +kernel
theorem dX3_goByWay_88 : decode cX3_goByWay 88 = .ok (.idiv, 1) := by decide +kernel
theorem dX3_goByWay_89 : decode cX3_goByWay 89 = .ok (.istore 5, 2) := by decide +kernel
theorem dX3_goByWay_91 : decode cX3_goByWay 91 = .ok (.aload_n 0, 1) := by decide +kernel
theorem dX3_goByWay_92 : decode cX3_goByWay 92 = .ok (.iload_n 1, 1) := by decide +kernel
theorem dX3_goByWay_93 : decode cX3_goByWay 93 = .ok (.iload 4, 2) := by decide +kernel
theorem dX3_goByWay_95 : decode cX3_goByWay 95 = .ok (.iload 5, 2) := by decide +kernel
theorem dX3_goByWay_97 : decode cX3_goByWay 97 = .ok (.invokevirtual 84, 3) := by decide +kernel
theorem dX3_goByWay_100 : decode cX3_goByWay 100 = .ok (.aload_n 0, 1) := by decide +kernel
theorem dX3_goByWay_101 : decode cX3_goByWay 101 = .ok (.iload_n 1, 1) := by decide +kernel
theorem dX3_goByWay_102 : decode cX3_goByWay 102 = .ok (.iload 4, 2) := by decide +kernel
theorem dX3_goByWay_104 : decode cX3_goByWay 104 = .ok (.iload_n 3, 1) := by decide +kernel
theorem dX3_goByWay_105 : decode cX3_goByWay 105 = .ok (.iload 5, 2) := by decide +kernel
theorem dX3_goByWay_107 : decode cX3_goByWay 107 = .ok (.isub, 1) := by decide +kernel
theorem dX3_goByWay_108 : decode cX3_goByWay 108 = .ok (.invokevirtual 78, 3) := by decide +kernel
theorem dX3_goByWay_111 : decode cX3_goByWay 111 = .ok (.return_, 1) := by decide +kernel
theorem dX3_eldestLiving_0 : decode cX3_eldestLiving 0 = .ok (.iconst 0, 1) := by decide +kernel
theorem dX3_eldestLiving_1 : decode cX3_eldestLiving 1 = .ok (.istore_n 2, 1) := by decide +kernel
theorem dX3_eldestLiving_2 : decode cX3_eldestLiving 2 = .ok (.iload_n 2, 1) := by decide +kernel
theorem dX3_eldestLiving_3 : decode cX3_eldestLiving 3 = .ok (.aload_n 0, 1) := by decide +kernel
theorem dX3_eldestLiving_4 : decode cX3_eldestLiving 4 = .ok (.getfield 40, 3) := by decide +kernel
theorem dX3_eldestLiving_7 : decode cX3_eldestLiving 7 = .ok (.if_icmp .ge 21, 3) := by decide +kernel
theorem dX3_eldestLiving_10 : decode cX3_eldestLiving 10 = .ok (.aload_n 0, 1) := by decide +kernel
theorem dX3_eldestLiving_11 : decode cX3_eldestLiving 11 = .ok (.iload_n 2, 1) := by decide +kernel
theorem dX3_eldestLiving_12 : decode cX3_eldestLiving 12 = .ok (.iload_n 1, 1) := by decide +kernel
theorem dX3_eldestLiving_13 : decode cX3_eldestLiving 13 = .ok (.iconst (-1), 1) := by decide +kernel
theorem dX3_eldestLiving_14 : decode cX3_eldestLiving 14 = .ok (.invokevirtual 44, 3) := by decide +kernel
theorem dX3_eldestLiving_17 : decode cX3_eldestLiving 17 = .ok (.ifCond .eq 5, 3) := by decide +kernel
theorem dX3_eldestLiving_20 : decode cX3_eldestLiving 20 = .ok (.iload_n 2, 1) := by decide +kernel
theorem dX3_eldestLiving_21 : decode cX3_eldestLiving 21 = .ok (.ireturn, 1) := by decide +kernel
theorem dX3_eldestLiving_22 : decode cX3_eldestLiving 22 = .ok (.iinc 2 1, 3) := by decide +kernel
theorem dX3_eldestLiving_25 : decode cX3_eldestLiving 25 = .ok (.goto (-23), 3) := by decide +kernel
theorem dX3_eldestLiving_28 : decode cX3_eldestLiving 28 = .ok (.iconst (-1), 1) := by decide +kernel
theorem dX3_eldestLiving_29 : decode cX3_eldestLiving 29 = .ok (.ireturn, 1) := by decide +kernel
theorem dX3_isHeir_0 : decode cX3_isHeir 0 = .ok (.aload_n 0, 1) := by decide +kernel
theorem dX3_isHeir_1 : decode cX3_isHeir 1 = .ok (.getfield 15, 3) := by decide +kernel
theorem dX3_isHeir_4 : decode cX3_isHeir 4 = .ok (.iload_n 1, 1) := by decide +kernel
theorem dX3_isHeir_5 : decode cX3_isHeir 5 = .ok (.iaload, 1) := by decide +kernel
theorem dX3_isHeir_6 : decode cX3_isHeir 6 = .ok (.iload_n 2, 1) := by decide +kernel
theorem dX3_isHeir_7 : decode cX3_isHeir 7 = .ok (.if_icmp .ne 21, 3) := by decide +kernel
theorem dX3_isHeir_10 : decode cX3_isHeir 10 = .ok (.aload_n 0, 1) := by decide +kernel
theorem dX3_isHeir_11 : decode cX3_isHeir 11 = .ok (.getfield 30, 3) := by decide +kernel
theorem dX3_isHeir_14 : decode cX3_isHeir 14 = .ok (.iload_n 1, 1) := by decide +kernel
theorem dX3_isHeir_15 : decode cX3_isHeir 15 = .ok (.iaload, 1) := by decide +kernel
theorem dX3_isHeir_16 : decode cX3_isHeir 16 = .ok (.ifCond .ne 12, 3) := by decide +kernel
theorem dX3_isHeir_19 : decode cX3_isHeir 19 = .ok (.iload_n 1, 1) := by decide +kernel
theorem dX3_isHeir_20 : decode cX3_isHeir 20 = .ok (.iload_n 3, 1) := by decide +kernel
theorem dX3_isHeir_21 : decode cX3_isHeir 21 = .ok (.if_icmp .eq 7, 3) := by decide +kernel
theorem dX3_isHeir_24 : decode cX3_isHeir 24 = .ok (.iconst 1, 1) := by decide +kernel
theorem dX3_isHeir_25 : decode cX3_isHeir 25 = .ok (.goto 4, 3) := by decide +kernel
theorem dX3_isHeir_28 : decode cX3_isHeir 28 = .ok (.iconst 0, 1) := by decide +kernel
theorem dX3_isHeir_29 : decode cX3_isHeir 29 = .ok (.ireturn, 1) := by decide +kernel
theorem dX3_toOne_0 : decode cX3_toOne 0 = .ok (.aload_n 0, 1) := by decide +kernel
theorem dX3_toOne_1 : decode cX3_toOne 1 = .ok (.iload_n 2, 1) := by decide +kernel
theorem dX3_toOne_2 : decode cX3_toOne 2 = .ok (.invokevirtual 87, 3) := by decide +kernel
theorem dX3_toOne_5 : decode cX3_toOne 5 = .ok (.ifCond .eq 24, 3) := by decide +kernel
theorem dX3_toOne_8 : decode cX3_toOne 8 = .ok (.aload_n 0, 1) := by decide +kernel
theorem dX3_toOne_9 : decode cX3_toOne 9 = .ok (.iload_n 2, 1) := by decide +kernel
theorem dX3_toOne_10 : decode cX3_toOne 10 = .ok (.invokevirtual 91, 3) := by decide +kernel
theorem dX3_toOne_13 : decode cX3_toOne 13 = .ok (.ifCond .eq 16, 3) := by decide +kernel
theorem dX3_toOne_16 : decode cX3_toOne 16 = .ok (.aload_n 0, 1) := by decide +kernel
theorem dX3_toOne_17 : decode cX3_toOne 17 = .ok (.getfield 27, 3) := by decide +kernel
theorem dX3_toOne_20 : decode cX3_toOne 20 = .ok (.iload_n 2, 1) := by decide +kernel
theorem dX3_toOne_21 : decode cX3_toOne 21 = .ok (.dup2, 1) := by decide +kernel
theorem dX3_toOne_22 : decode cX3_toOne 22 = .ok (.iaload, 1) := by decide +kernel
theorem dX3_toOne_23 : decode cX3_toOne 23 = .ok (.iload_n 3, 1) := by decide +kernel
theorem dX3_toOne_24 : decode cX3_toOne 24 = .ok (.iadd, 1) := by decide +kernel
theorem dX3_toOne_25 : decode cX3_toOne 25 = .ok (.iastore, 1) := by decide +kernel
theorem dX3_toOne_26 : decode cX3_toOne 26 = .ok (.goto 9, 3) := by decide +kernel
theorem dX3_toOne_29 : decode cX3_toOne 29 = .ok (.aload_n 0, 1) := by decide +kernel
theorem dX3_toOne_30 : decode cX3_toOne 30 = .ok (.iload_n 1, 1) := by decide +kernel
theorem dX3_toOne_31 : decode cX3_toOne 31 = .ok (.iload_n 3, 1) := by decide +kernel
theorem dX3_toOne_32 : decode cX3_toOne 32 = .ok (.invokevirtual 71, 3) := by decide +kernel
theorem dX3_toOne_35 : decode cX3_toOne 35 = .ok (.return_, 1) := by decide +kernel
theorem dX3_toChildren_0 : decode cX3_toChildren 0 = .ok (.aload_n 0, 1) := by decide +kernel
theorem dX3_toChildren_1 : decode cX3_toChildren 1 = .ok (.iload_n 1, 1) := by decide +kernel
theorem dX3_toChildren_2 : decode cX3_toChildren 2 = .ok (.iload_n 2, 1) := by decide +kernel
theorem dX3_toChildren_3 : decode cX3_toChildren 3 = .ok (.invokevirtual 62, 3) := by decide +kernel
theorem dX3_toChildren_6 : decode cX3_toChildren 6 = .ok (.istore 4, 2) := by decide +kernel
theorem dX3_toChildren_8 : decode cX3_toChildren 8 = .ok (.iload 4, 2) := by decide +kernel
theorem dX3_toChildren_10 : decode cX3_toChildren 10 = .ok (.ifCond .ne 10, 3) := by decide +kernel
theorem dX3_toChildren_13 : decode cX3_toChildren 13 = .ok (.aload_n 0, 1) := by decide +kernel
theorem dX3_toChildren_14 : decode cX3_toChildren 14 = .ok (.iload_n 1, 1) := by decide +kernel
theorem dX3_toChildren_15 : decode cX3_toChildren 15 = .ok (.iload_n 3, 1) := by decide +kernel
theorem dX3_toChildren_16 : decode cX3_toChildren 16 = .ok (.invokevirtual 71, 3) := by decide +kernel
theorem dX3_toChildren_19 : decode cX3_toChildren 19 = .ok (.return_, 1) := by decide +kernel
theorem dX3_toChildren_20 : decode cX3_toChildren 20 = .ok (.iload_n 3, 1) := by decide +kernel
theorem dX3_toChildren_21 : decode cX3_toChildren 21 = .ok (.iload 4, 2) := by decide +kernel
theorem dX3_toChildren_23 : decode cX3_toChildren 23 = .ok (.irem, 1) := by decide +kernel
theorem dX3_toChildren_24 : decode cX3_toChildren 24 = .ok (.istore 5, 2) := by decide +kernel
theorem dX3_toChildren_26 : decode cX3_toChildren 26 = .ok (.iconst 0, 1) := by decide +kernel
theorem dX3_toChildren_27 : decode cX3_toChildren 27 = .ok (.istore 6, 2) := by decide +kernel
theorem dX3_toChildren_29 : decode cX3_toChildren 29 = .ok (.iload 6, 2) := by decide +kernel
theorem dX3_toChildren_31 : decode cX3_toChildren 31 = .ok (.aload_n 0, 1) := by decide +kernel
theorem dX3_toChildren_32 : decode cX3_toChildren 32 = .ok (.getfield 40, 3) := by decide +kernel
theorem dX3_toChildren_35 : decode cX3_toChildren 35 = .ok (.if_icmp .ge 48, 3) := by decide +kernel
theorem dX3_toChildren_38 : decode cX3_toChildren 38 = .ok (.aload_n 0, 1) := by decide +kernel
theorem dX3_toChildren_39 : decode cX3_toChildren 39 = .ok (.iload 6, 2) := by decide +kernel
theorem dX3_toChildren_41 : decode cX3_toChildren 41 = .ok (.iload_n 1, 1) := by decide +kernel
theorem dX3_toChildren_42 : decode cX3_toChildren 42 = .ok (.iload_n 2, 1) := by decide +kernel
theorem dX3_toChildren_43 : decode cX3_toChildren 43 = .ok (.invokevirtual 44, 3) := by decide +kernel
theorem dX3_toChildren_46 : decode cX3_toChildren 46 = .ok (.ifCond .eq 31, 3) := by decide +kernel
theorem dX3_toChildren_49 : decode cX3_toChildren 49 = .ok (.aload_n 0, 1) := by decide +kernel
theorem dX3_toChildren_50 : decode cX3_toChildren 50 = .ok (.getfield 27, 3) := by decide +kernel
theorem dX3_toChildren_53 : decode cX3_toChildren 53 = .ok (.iload 6, 2) := by decide +kernel
theorem dX3_toChildren_55 : decode cX3_toChildren 55 = .ok (.dup2, 1) := by decide +kernel
theorem dX3_toChildren_56 : decode cX3_toChildren 56 = .ok (.iaload, 1) := by decide +kernel
theorem dX3_toChildren_57 : decode cX3_toChildren 57 = .ok (.iload_n 3, 1) := by decide +kernel
theorem dX3_toChildren_58 : decode cX3_toChildren 58 = .ok (.iload 4, 2) := by decide +kernel
theorem dX3_toChildren_60 : decode cX3_toChildren 60 = .ok (.idiv, 1) := by decide +kernel
theorem dX3_toChildren_61 : decode cX3_toChildren 61 = .ok (.iload 5, 2) := by decide +kernel
theorem dX3_toChildren_63 : decode cX3_toChildren 63 = .ok (.ifCond .le 7, 3) := by decide +kernel
theorem dX3_toChildren_66 : decode cX3_toChildren 66 = .ok (.iconst 1, 1) := by decide +kernel
theorem dX3_toChildren_67 : decode cX3_toChildren 67 = .ok (.goto 4, 3) := by decide +kernel
theorem dX3_toChildren_70 : decode cX3_toChildren 70 = .ok (.iconst 0, 1) := by decide +kernel
theorem dX3_toChildren_71 : decode cX3_toChildren 71 = .ok (.iadd, 1) := by decide +kernel
theorem dX3_toChildren_72 : decode cX3_toChildren 72 = .ok (.iadd, 1) := by decide +kernel
theorem dX3_toChildren_73 : decode cX3_toChildren 73 = .ok (.iastore, 1) := by decide +kernel
theorem dX3_toChildren_74 : decode cX3_toChildren 74 = .ok (.iinc 5 (-1), 3) := by decide +kernel
theorem dX3_toChildren_77 : decode cX3_toChildren 77 = .ok (.iinc 6 1, 3) := by decide +kernel
theorem dX3_toChildren_80 : decode cX3_toChildren 80 = .ok (.goto (-51), 3) := by decide +kernel
theorem dX3_toChildren_83 : decode cX3_toChildren 83 = .ok (.return_, 1) := by decide +kernel
theorem dX3_toChest_0 : decode cX3_toChest 0 = .ok (.aload_n 0, 1) := by decide +kernel
theorem dX3_toChest_1 : decode cX3_toChest 1 = .ok (.getfield 36, 3) := by decide +kernel
theorem dX3_toChest_4 : decode cX3_toChest 4 = .ok (.getfield 94, 3) := by decide +kernel
theorem dX3_toChest_7 : decode cX3_toChest 7 = .ok (.aload_n 0, 1) := by decide +kernel
theorem dX3_toChest_8 : decode cX3_toChest 8 = .ok (.getfield 11, 3) := by decide +kernel
theorem dX3_toChest_11 : decode cX3_toChest 11 = .ok (.iload_n 1, 1) := by decide +kernel
theorem dX3_toChest_12 : decode cX3_toChest 12 = .ok (.iaload, 1) := by decide +kernel
theorem dX3_toChest_13 : decode cX3_toChest 13 = .ok (.dup2, 1) := by decide +kernel
theorem dX3_toChest_14 : decode cX3_toChest 14 = .ok (.iaload, 1) := by decide +kernel
theorem dX3_toChest_15 : decode cX3_toChest 15 = .ok (.iload_n 2, 1) := by decide +kernel
theorem dX3_toChest_16 : decode cX3_toChest 16 = .ok (.iadd, 1) := by decide +kernel
theorem dX3_toChest_17 : decode cX3_toChest 17 = .ok (.iastore, 1) := by decide +kernel
theorem dX3_toChest_18 : decode cX3_toChest 18 = .ok (.return_, 1) := by decide +kernel
theorem dX4_init_0 : decode cX4_init 0 = .ok (.aload_n 0, 1) := by decide +kernel
theorem dX4_init_1 : decode cX4_init 1 = .ok (.invokespecial 3, 3) := by decide +kernel
theorem dX4_init_4 : decode cX4_init 4 = .ok (.aload_n 0, 1) := by decide +kernel
theorem dX4_init_5 : decode cX4_init 5 = .ok (.bipush 20, 2) := by decide +kernel
theorem dX4_init_7 : decode cX4_init 7 = .ok (.newarray .int, 2) := by decide +kernel
theorem dX4_init_9 : decode cX4_init 9 = .ok (.putfield 11, 3) := by decide +kernel
theorem dX4_init_12 : decode cX4_init 12 = .ok (.aload_n 0, 1) := by decide +kernel
theorem dX4_init_13 : decode cX4_init 13 = .ok (.iconst (-1), 1) := by decide +kernel
theorem dX4_init_14 : decode cX4_init 14 = .ok (.putfield 15, 3) := by decide +kernel
theorem dX4_init_17 : decode cX4_init 17 = .ok (.aload_n 0, 1) := by decide +kernel
theorem dX4_init_18 : decode cX4_init 18 = .ok (.aload_n 1, 1) := by decide +kernel
theorem dX4_init_19 : decode cX4_init 19 = .ok (.putfield 19, 3) := by decide +kernel
theorem dX4_init_22 : decode cX4_init 22 = .ok (.aload_n 0, 1) := by decide +kernel
theorem dX4_init_23 : decode cX4_init 23 = .ok (.iload_n 2, 1) := by decide +kernel
theorem dX4_init_24 : decode cX4_init 24 = .ok (.putfield 23, 3) := by decide +kernel
theorem dX4_init_27 : decode cX4_init 27 = .ok (.aload_n 0, 1) := by decide +kernel
theorem dX4_init_28 : decode cX4_init 28 = .ok (.iload_n 3, 1) := by decide +kernel
theorem dX4_init_29 : decode cX4_init 29 = .ok (.putfield 26, 3) := by decide +kernel
theorem dX4_init_32 : decode cX4_init 32 = .ok (.aload_n 0, 1) := by decide +kernel
theorem dX4_init_33 : decode cX4_init 33 = .ok (.iload 4, 2) := by decide +kernel
theorem dX4_init_35 : decode cX4_init 35 = .ok (.putfield 29, 3) := by decide +kernel
theorem dX4_init_38 : decode cX4_init 38 = .ok (.aload_n 0, 1) := by decide +kernel
theorem dX4_init_39 : decode cX4_init 39 = .ok (.iload 5, 2) := by decide +kernel
theorem dX4_init_41 : decode cX4_init 41 = .ok (.putfield 32, 3) := by decide +kernel
theorem dX4_init_44 : decode cX4_init 44 = .ok (.aload_n 0, 1) := by decide +kernel
theorem dX4_init_45 : decode cX4_init 45 = .ok (.iload 6, 2) := by decide +kernel
theorem dX4_init_47 : decode cX4_init 47 = .ok (.putfield 35, 3) := by decide +kernel
theorem dX4_init_50 : decode cX4_init 50 = .ok (.aload_n 0, 1) := by decide +kernel
theorem dX4_init_51 : decode cX4_init 51 = .ok (.iload 7, 2) := by decide +kernel
theorem dX4_init_53 : decode cX4_init 53 = .ok (.putfield 38, 3) := by decide +kernel
theorem dX4_init_56 : decode cX4_init 56 = .ok (.return_, 1) := by decide +kernel
theorem dX4_group_0 : decode cX4_group 0 = .ok (.aload_n 0, 1) := by decide +kernel
theorem dX4_group_1 : decode cX4_group 1 = .ok (.getfield 23, 3) := by decide +kernel
theorem dX4_group_4 : decode cX4_group 4 = .ok (.iconst 5, 1) := by decide +kernel
theorem dX4_group_5 : decode cX4_group 5 = .ok (.if_icmp .ne 8, 3) := by decide +kernel
theorem dX4_group_8 : decode cX4_group 8 = .ok (.bipush 6, 2) := by decide +kernel
theorem dX4_group_10 : decode cX4_group 10 = .ok (.goto 7, 3) := by decide +kernel
theorem dX4_group_13 : decode cX4_group 13 = .ok (.aload_n 0, 1) := by decide +kernel
theorem dX4_group_14 : decode cX4_group 14 = .ok (.getfield 26, 3) := by decide +kernel
theorem dX4_group_17 : decode cX4_group 17 = .ok (.ireturn, 1) := by decide +kernel
theorem dX4_struckOnce_0 : decode cX4_struckOnce 0 = .ok (.aload_n 0, 1) := by decide +kernel
theorem dX4_struckOnce_1 : decode cX4_struckOnce 1 = .ok (.getfield 15, 3) := by decide +kernel
theorem dX4_struckOnce_4 : decode cX4_struckOnce 4 = .ok (.ifCond .lt 5, 3) := by decide +kernel
theorem dX4_struckOnce_7 : decode cX4_struckOnce 7 = .ok (.iconst 0, 1) := by decide +kernel
theorem dX4_struckOnce_8 : decode cX4_struckOnce 8 = .ok (.ireturn, 1) := by decide +kernel
theorem dX4_struckOnce_9 : decode cX4_struckOnce 9 = .ok (.aload_n 0, 1) := by decide +kernel
theorem dX4_struckOnce_10 : decode cX4_struckOnce 10 = .ok (.iload_n 1, 1) := by decide +kernel
theorem dX4_struckOnce_11 : decode cX4_struckOnce 11 = .ok (.putfield 15, 3) := by decide +kernel
theorem dX4_struckOnce_14 : decode cX4_struckOnce 14 = .ok (.aload_n 0, 1) := by decide +kernel
theorem dX4_struckOnce_15 : decode cX4_struckOnce 15 = .ok (.iload_n 2, 1) := by decide +kernel
theorem dX4_struckOnce_16 : decode cX4_struckOnce 16 = .ok (.putfield 41, 3) := by decide +kernel
theorem dX4_struckOnce_19 : decode cX4_struckOnce 19 = .ok (.iconst 1, 1) := by decide +kernel
theorem dX4_struckOnce_20 : decode cX4_struckOnce 20 = .ok (.ireturn, 1) := by decide +kernel
theorem dX4_standing_0 : decode cX4_standing 0 = .ok (.aload_n 0, 1) := by decide +kernel
theorem dX4_standing_1 : decode cX4_standing 1 = .ok (.getfield 38, 3) := by decide +kernel
theorem dX4_standing_4 : decode cX4_standing 4 = .ok (.aload_n 0, 1) := by decide +kernel
theorem dX4_standing_5 : decode cX4_standing 5 = .ok (.getfield 44, 3) := by decide +kernel
theorem dX4_standing_8 : decode cX4_standing 8 = .ok (.isub, 1) := by decide +kernel
theorem dX4_standing_9 : decode cX4_standing 9 = .ok (.ireturn, 1) := by decide +kernel
theorem dX4_loseWitness_0 : decode cX4_loseWitness 0 = .ok (.aload_n 0, 1) := by decide +kernel
theorem dX4_loseWitness_1 : decode cX4_loseWitness 1 = .ok (.getfield 44, 3) := by decide +kernel
theorem dX4_loseWitness_4 : decode cX4_loseWitness 4 = .ok (.aload_n 0, 1) := by decide +kernel
theorem dX4_loseWitness_5 : decode cX4_loseWitness 5 = .ok (.getfield 38, 3) := by decide +kernel
theorem dX4_loseWitness_8 : decode cX4_loseWitness 8 = .ok (.if_icmp .ge 32, 3) := by decide +kernel
theorem dX4_loseWitness_11 : decode cX4_loseWitness 11 = .ok (.aload_n 0, 1) := by decide +kernel
theorem dX4_loseWitness_12 : decode cX4_loseWitness 12 = .ok (.getfield 44, 3) := by decide +kernel
theorem dX4_loseWitness_15 : decode cX4_loseWitness 15 = .ok (.bipush 20, 2) := by decide +kernel
theorem dX4_loseWitness_17 : decode cX4_loseWitness 17 = .ok (.if_icmp .ge 23, 3) := by decide +kernel
theorem dX4_loseWitness_20 : decode cX4_loseWitness 20 = .ok (.aload_n 0, 1) := by decide +kernel
theorem dX4_loseWitness_21 : decode cX4_loseWitness 21 = .ok (.getfield 11, 3) := by decide +kernel
theorem dX4_loseWitness_24 : decode cX4_loseWitness 24 = .ok (.aload_n 0, 1) := by decide +kernel
theorem dX4_loseWitness_25 : decode cX4_loseWitness 25 = .ok (.getfield 44, 3) := by decide +kernel
theorem dX4_loseWitness_28 : decode cX4_loseWitness 28 = .ok (.iload_n 1, 1) := by decide +kernel
theorem dX4_loseWitness_29 : decode cX4_loseWitness 29 = .ok (.iastore, 1) := by decide +kernel
theorem dX4_loseWitness_30 : decode cX4_loseWitness 30 = .ok (.aload_n 0, 1) := by decide +kernel
theorem dX4_loseWitness_31 : decode cX4_loseWitness 31 = .ok (.dup, 1) := by decide +kernel
theorem dX4_loseWitness_32 : decode cX4_loseWitness 32 = .ok (.getfield 44, 3) := by decide +kernel
theorem dX4_loseWitness_35 : decode cX4_loseWitness 35 = .ok (.iconst 1, 1) := by decide +kernel
theorem dX4_loseWitness_36 : decode cX4_loseWitness 36 = .ok (.iadd, 1) := by decide +kernel
theorem dX4_loseWitness_37 : decode cX4_loseWitness 37 = .ok (.putfield 44, 3) := by decide +kernel
theorem dX4_loseWitness_40 : decode cX4_loseWitness 40 = .ok (.return_, 1) := by decide +kernel
theorem dX4_isInForce_0 : decode cX4_isInForce 0 = .ok (.aload_n 0, 1) := by decide +kernel
theorem dX4_isInForce_1 : decode cX4_isInForce 1 = .ok (.getfield 35, 3) := by decide +kernel
theorem dX4_isInForce_4 : decode cX4_isInForce 4 = .ok (.iload_n 2, 1) := by decide +kernel
theorem dX4_isInForce_5 : decode cX4_isInForce 5 = .ok (.if_icmp .gt 11, 3) := by decide +kernel
theorem dX4_isInForce_8 : decode cX4_isInForce 8 = .ok (.aload_n 0, 1) := by decide +kernel
theorem dX4_isInForce_9 : decode cX4_isInForce 9 = .ok (.getfield 32, 3) := by decide +kernel
theorem dX4_isInForce_12 : decode cX4_isInForce 12 = .ok (.iload_n 1, 1) := by decide +kernel
theorem dX4_isInForce_13 : decode cX4_isInForce 13 = .ok (.if_icmp .le 5, 3) := by decide +kernel
theorem dX4_isInForce_16 : decode cX4_isInForce 16 = .ok (.iconst 0, 1) := by decide +kernel
theorem dX4_isInForce_17 : decode cX4_isInForce 17 = .ok (.ireturn, 1) := by decide +kernel
theorem dX4_isInForce_18 : decode cX4_isInForce 18 = .ok (.aload_n 0, 1) := by decide +kernel
theorem dX4_isInForce_19 : decode cX4_isInForce 19 = .ok (.getfield 15, 3) := by decide +kernel
theorem dX4_isInForce_22 : decode cX4_isInForce 22 = .ok (.ifCond .lt 23, 3) := by decide +kernel
theorem dX4_isInForce_25 : decode cX4_isInForce 25 = .ok (.aload_n 0, 1) := by decide +kernel
theorem dX4_isInForce_26 : decode cX4_isInForce 26 = .ok (.getfield 41, 3) := by decide +kernel
theorem dX4_isInForce_29 : decode cX4_isInForce 29 = .ok (.iload_n 2, 1) := by decide +kernel
theorem dX4_isInForce_30 : decode cX4_isInForce 30 = .ok (.if_icmp .gt 15, 3) := by decide +kernel
theorem dX4_isInForce_33 : decode cX4_isInForce 33 = .ok (.aload_n 0, 1) := by decide +kernel
theorem dX4_isInForce_34 : decode cX4_isInForce 34 = .ok (.getfield 15, 3) := by decide +kernel
theorem dX4_isInForce_37 : decode cX4_isInForce 37 = .ok (.iload_n 1, 1) := by decide +kernel
theorem dX4_isInForce_38 : decode cX4_isInForce 38 = .ok (.if_icmp .gt 7, 3) := by decide +kernel
theorem dX4_isInForce_41 : decode cX4_isInForce 41 = .ok (.iconst 1, 1) := by decide +kernel
theorem dX4_isInForce_42 : decode cX4_isInForce 42 = .ok (.goto 4, 3) := by decide +kernel
theorem dX4_isInForce_45 : decode cX4_isInForce 45 = .ok (.iconst 0, 1) := by decide +kernel
theorem dX4_isInForce_46 : decode cX4_isInForce 46 = .ok (.istore_n 3, 1) := by decide +kernel
theorem dX4_isInForce_47 : decode cX4_isInForce 47 = .ok (.iload_n 3, 1) := by decide +kernel
theorem dX4_isInForce_48 : decode cX4_isInForce 48 = .ok (.ifCond .ne 24, 3) := by decide +kernel
theorem dX4_isInForce_51 : decode cX4_isInForce 51 = .ok (.aload_n 0, 1) := by decide +kernel
theorem dX4_isInForce_52 : decode cX4_isInForce 52 = .ok (.getfield 23, 3) := by decide +kernel
theorem dX4_isInForce_55 : decode cX4_isInForce 55 = .ok (.iconst 2, 1) := by decide +kernel
theorem dX4_isInForce_56 : decode cX4_isInForce 56 = .ok (.if_icmp .ne 12, 3) := by decide +kernel
theorem dX4_isInForce_59 : decode cX4_isInForce 59 = .ok (.aload_n 0, 1) := by decide +kernel
theorem dX4_isInForce_60 : decode cX4_isInForce 60 = .ok (.iload_n 2, 1) := by decide +kernel
theorem dX4_isInForce_61 : decode cX4_isInForce 61 = .ok (.invokevirtual 47, 3) := by decide +kernel
theorem dX4_isInForce_64 : decode cX4_isInForce 64 = .ok (.iconst 2, 1) := by decide +kernel
theorem dX4_isInForce_65 : decode cX4_isInForce 65 = .ok (.if_icmp .lt 7, 3) := by decide +kernel
theorem dX4_isInForce_68 : decode cX4_isInForce 68 = .ok (.iconst 1, 1) := by decide +kernel
theorem dX4_isInForce_69 : decode cX4_isInForce 69 = .ok (.goto 4, 3) := by decide +kernel
theorem dX4_isInForce_72 : decode cX4_isInForce 72 = .ok (.iconst 0, 1) := by decide +kernel
theorem dX4_isInForce_73 : decode cX4_isInForce 73 = .ok (.ireturn, 1) := by decide +kernel
theorem dX4_standingAsKnown_0 : decode cX4_standingAsKnown 0 = .ok (.aload_n 0, 1) := by decide +kernel
theorem dX4_standingAsKnown_1 : decode cX4_standingAsKnown 1 = .ok (.getfield 38, 3) := by decide +kernel
theorem dX4_standingAsKnown_4 : decode cX4_standingAsKnown 4 = .ok (.istore_n 2, 1) := by decide +kernel
theorem dX4_standingAsKnown_5 : decode cX4_standingAsKnown 5 = .ok (.iconst 0, 1) := by decide +kernel
theorem dX4_standingAsKnown_6 : decode cX4_standingAsKnown 6 = .ok (.istore_n 3, 1) := by decide +kernel
theorem dX4_standingAsKnown_7 : decode cX4_standingAsKnown 7 = .ok (.iload_n 3, 1) := by decide +kernel
theorem dX4_standingAsKnown_8 : decode cX4_standingAsKnown 8 = .ok (.aload_n 0, 1) := by decide +kernel
theorem dX4_standingAsKnown_9 : decode cX4_standingAsKnown 9 = .ok (.getfield 44, 3) := by decide +kernel
theorem dX4_standingAsKnown_12 : decode cX4_standingAsKnown 12 = .ok (.if_icmp .ge 22, 3) := by decide +kernel
theorem dX4_standingAsKnown_15 : decode cX4_standingAsKnown 15 = .ok (.aload_n 0, 1) := by decide +kernel
theorem dX4_standingAsKnown_16 : decode cX4_standingAsKnown 16 = .ok (.getfield 11, 3) := by decide +kernel
theorem dX4_standingAsKnown_19 : decode cX4_standingAsKnown 19 = .ok (.iload_n 3, 1) := by decide +kernel
theorem dX4_standingAsKnown_20 : decode cX4_standingAsKnown 20 = .ok (.iaload, 1) := by decide +kernel
theorem dX4_standingAsKnown_21 : decode cX4_standingAsKnown 21 = .ok (.iload_n 1, 1) := by decide +kernel
theorem dX4_standingAsKnown_22 : decode cX4_standingAsKnown 22 = .ok (.if_icmp .gt 6, 3) := by decide +kernel
theorem dX4_standingAsKnown_25 : decode cX4_standingAsKnown 25 = .ok (.iinc 2 (-1), 3) := by decide +kernel
theorem dX4_standingAsKnown_28 : decode cX4_standingAsKnown 28 = .ok (.iinc 3 1, 3) := by decide +kernel
theorem dX4_standingAsKnown_31 : decode cX4_standingAsKnown 31 = .ok (.goto (-24), 3) := by decide +kernel
theorem dX4_standingAsKnown_34 : decode cX4_standingAsKnown 34 = .ok (.iload_n 2, 1) := by decide +kernel
theorem dX4_standingAsKnown_35 : decode cX4_standingAsKnown 35 = .ok (.ireturn, 1) := by decide +kernel
theorem dJ6_bitCount_0f7a4_0 : decode cJ6_bitCount_0f7a4 0 = .ok (.iload_n 0, 1) := by decide +kernel
theorem dJ6_bitCount_0f7a4_1 : decode cJ6_bitCount_0f7a4 1 = .ok (.iload_n 0, 1) := by decide +kernel
theorem dJ6_bitCount_0f7a4_2 : decode cJ6_bitCount_0f7a4 2 = .ok (.iconst 1, 1) := by decide +kernel
theorem dJ6_bitCount_0f7a4_3 : decode cJ6_bitCount_0f7a4 3 = .ok (.iushr, 1) := by decide +kernel
theorem dJ6_bitCount_0f7a4_4 : decode cJ6_bitCount_0f7a4 4 = .ok (.ldc_w 265, 3) := by decide +kernel
theorem dJ6_bitCount_0f7a4_7 : decode cJ6_bitCount_0f7a4 7 = .ok (.iand, 1) := by decide +kernel
theorem dJ6_bitCount_0f7a4_8 : decode cJ6_bitCount_0f7a4 8 = .ok (.isub, 1) := by decide +kernel
theorem dJ6_bitCount_0f7a4_9 : decode cJ6_bitCount_0f7a4 9 = .ok (.istore_n 0, 1) := by decide +kernel
theorem dJ6_bitCount_0f7a4_10 : decode cJ6_bitCount_0f7a4 10 = .ok (.iload_n 0, 1) := by decide +kernel
theorem dJ6_bitCount_0f7a4_11 : decode cJ6_bitCount_0f7a4 11 = .ok (.ldc_w 266, 3) := by decide +kernel
theorem dJ6_bitCount_0f7a4_14 : decode cJ6_bitCount_0f7a4 14 = .ok (.iand, 1) := by decide +kernel
theorem dJ6_bitCount_0f7a4_15 : decode cJ6_bitCount_0f7a4 15 = .ok (.iload_n 0, 1) := by decide +kernel
theorem dJ6_bitCount_0f7a4_16 : decode cJ6_bitCount_0f7a4 16 = .ok (.iconst 2, 1) := by decide +kernel
theorem dJ6_bitCount_0f7a4_17 : decode cJ6_bitCount_0f7a4 17 = .ok (.iushr, 1) := by decide +kernel
theorem dJ6_bitCount_0f7a4_18 : decode cJ6_bitCount_0f7a4 18 = .ok (.ldc_w 266, 3) := by decide +kernel
theorem dJ6_bitCount_0f7a4_21 : decode cJ6_bitCount_0f7a4 21 = .ok (.iand, 1) := by decide +kernel
theorem dJ6_bitCount_0f7a4_22 : decode cJ6_bitCount_0f7a4 22 = .ok (.iadd, 1) := by decide +kernel
theorem dJ6_bitCount_0f7a4_23 : decode cJ6_bitCount_0f7a4 23 = .ok (.istore_n 0, 1) := by decide +kernel
theorem dJ6_bitCount_0f7a4_24 : decode cJ6_bitCount_0f7a4 24 = .ok (.iload_n 0, 1) := by decide +kernel
theorem dJ6_bitCount_0f7a4_25 : decode cJ6_bitCount_0f7a4 25 = .ok (.iload_n 0, 1) := by decide +kernel
theorem dJ6_bitCount_0f7a4_26 : decode cJ6_bitCount_0f7a4 26 = .ok (.iconst 4, 1) := by decide +kernel
theorem dJ6_bitCount_0f7a4_27 : decode cJ6_bitCount_0f7a4 27 = .ok (.iushr, 1) := by decide +kernel
theorem dJ6_bitCount_0f7a4_28 : decode cJ6_bitCount_0f7a4 28 = .ok (.iadd, 1) := by decide +kernel
theorem dJ6_bitCount_0f7a4_29 : decode cJ6_bitCount_0f7a4 29 = .ok (.ldc_w 267, 3) := by decide +kernel
theorem dJ6_bitCount_0f7a4_32 : decode cJ6_bitCount_0f7a4 32 = .ok (.iand, 1) := by decide +kernel
theorem dJ6_bitCount_0f7a4_33 : decode cJ6_bitCount_0f7a4 33 = .ok (.istore_n 0, 1) := by decide +kernel
theorem dJ6_bitCount_0f7a4_34 : decode cJ6_bitCount_0f7a4 34 = .ok (.iload_n 0, 1) := by decide +kernel
theorem dJ6_bitCount_0f7a4_35 : decode cJ6_bitCount_0f7a4 35 = .ok (.iload_n 0, 1) := by decide +kernel
theorem dJ6_bitCount_0f7a4_36 : decode cJ6_bitCount_0f7a4 36 = .ok (.bipush 8, 2) := by decide +kernel
theorem dJ6_bitCount_0f7a4_38 : decode cJ6_bitCount_0f7a4 38 = .ok (.iushr, 1) := by decide +kernel
theorem dJ6_bitCount_0f7a4_39 : decode cJ6_bitCount_0f7a4 39 = .ok (.iadd, 1) := by decide +kernel
theorem dJ6_bitCount_0f7a4_40 : decode cJ6_bitCount_0f7a4 40 = .ok (.istore_n 0, 1) := by decide +kernel
theorem dJ6_bitCount_0f7a4_41 : decode cJ6_bitCount_0f7a4 41 = .ok (.iload_n 0, 1) := by decide +kernel
theorem dJ6_bitCount_0f7a4_42 : decode cJ6_bitCount_0f7a4 42 = .ok (.iload_n 0, 1) := by decide +kernel
theorem dJ6_bitCount_0f7a4_43 : decode cJ6_bitCount_0f7a4 43 = .ok (.bipush 16, 2) := by decide +kernel
theorem dJ6_bitCount_0f7a4_45 : decode cJ6_bitCount_0f7a4 45 = .ok (.iushr, 1) := by decide +kernel
theorem dJ6_bitCount_0f7a4_46 : decode cJ6_bitCount_0f7a4 46 = .ok (.iadd, 1) := by decide +kernel
theorem dJ6_bitCount_0f7a4_47 : decode cJ6_bitCount_0f7a4 47 = .ok (.istore_n 0, 1) := by decide +kernel
theorem dJ6_bitCount_0f7a4_48 : decode cJ6_bitCount_0f7a4 48 = .ok (.iload_n 0, 1) := by decide +kernel
theorem dJ6_bitCount_0f7a4_49 : decode cJ6_bitCount_0f7a4 49 = .ok (.bipush 63, 2) := by decide +kernel
theorem dJ6_bitCount_0f7a4_51 : decode cJ6_bitCount_0f7a4 51 = .ok (.iand, 1) := by decide +kernel
theorem dJ6_bitCount_0f7a4_52 : decode cJ6_bitCount_0f7a4 52 = .ok (.ireturn, 1) := by decide +kernel
theorem dJ13_bitCount_95d88_0 : decode cJ13_bitCount_95d88 0 = .ok (.lload_n 0, 1) := by decide +kernel
theorem dJ13_bitCount_95d88_1 : decode cJ13_bitCount_95d88 1 = .ok (.lload_n 0, 1) := by decide +kernel
theorem dJ13_bitCount_95d88_2 : decode cJ13_bitCount_95d88 2 = .ok (.iconst 1, 1) := by decide +kernel
theorem dJ13_bitCount_95d88_3 : decode cJ13_bitCount_95d88 3 = .ok (.lushr, 1) := by decide +kernel
theorem dJ13_bitCount_95d88_4 : decode cJ13_bitCount_95d88 4 = .ok (.ldc2_w 314, 3) := by decide +kernel
theorem dJ13_bitCount_95d88_7 : decode cJ13_bitCount_95d88 7 = .ok (.land, 1) := by decide +kernel
theorem dJ13_bitCount_95d88_8 : decode cJ13_bitCount_95d88 8 = .ok (.lsub, 1) := by decide +kernel
theorem dJ13_bitCount_95d88_9 : decode cJ13_bitCount_95d88 9 = .ok (.lstore_n 0, 1) := by decide +kernel
theorem dJ13_bitCount_95d88_10 : decode cJ13_bitCount_95d88 10 = .ok (.lload_n 0, 1) := by decide +kernel
theorem dJ13_bitCount_95d88_11 : decode cJ13_bitCount_95d88 11 = .ok (.ldc2_w 316, 3) := by decide +kernel
theorem dJ13_bitCount_95d88_14 : decode cJ13_bitCount_95d88 14 = .ok (.land, 1) := by decide +kernel
theorem dJ13_bitCount_95d88_15 : decode cJ13_bitCount_95d88 15 = .ok (.lload_n 0, 1) := by decide +kernel
theorem dJ13_bitCount_95d88_16 : decode cJ13_bitCount_95d88 16 = .ok (.iconst 2, 1) := by decide +kernel
theorem dJ13_bitCount_95d88_17 : decode cJ13_bitCount_95d88 17 = .ok (.lushr, 1) := by decide +kernel
theorem dJ13_bitCount_95d88_18 : decode cJ13_bitCount_95d88 18 = .ok (.ldc2_w 316, 3) := by decide +kernel
theorem dJ13_bitCount_95d88_21 : decode cJ13_bitCount_95d88 21 = .ok (.land, 1) := by decide +kernel
theorem dJ13_bitCount_95d88_22 : decode cJ13_bitCount_95d88 22 = .ok (.ladd, 1) := by decide +kernel
theorem dJ13_bitCount_95d88_23 : decode cJ13_bitCount_95d88 23 = .ok (.lstore_n 0, 1) := by decide +kernel
theorem dJ13_bitCount_95d88_24 : decode cJ13_bitCount_95d88 24 = .ok (.lload_n 0, 1) := by decide +kernel
theorem dJ13_bitCount_95d88_25 : decode cJ13_bitCount_95d88 25 = .ok (.lload_n 0, 1) := by decide +kernel
theorem dJ13_bitCount_95d88_26 : decode cJ13_bitCount_95d88 26 = .ok (.iconst 4, 1) := by decide +kernel
theorem dJ13_bitCount_95d88_27 : decode cJ13_bitCount_95d88 27 = .ok (.lushr, 1) := by decide +kernel
theorem dJ13_bitCount_95d88_28 : decode cJ13_bitCount_95d88 28 = .ok (.ladd, 1) := by decide +kernel
theorem dJ13_bitCount_95d88_29 : decode cJ13_bitCount_95d88 29 = .ok (.ldc2_w 318, 3) := by decide +kernel
theorem dJ13_bitCount_95d88_32 : decode cJ13_bitCount_95d88 32 = .ok (.land, 1) := by decide +kernel
theorem dJ13_bitCount_95d88_33 : decode cJ13_bitCount_95d88 33 = .ok (.lstore_n 0, 1) := by decide +kernel
theorem dJ13_bitCount_95d88_34 : decode cJ13_bitCount_95d88 34 = .ok (.lload_n 0, 1) := by decide +kernel
theorem dJ13_bitCount_95d88_35 : decode cJ13_bitCount_95d88 35 = .ok (.lload_n 0, 1) := by decide +kernel
theorem dJ13_bitCount_95d88_36 : decode cJ13_bitCount_95d88 36 = .ok (.bipush 8, 2) := by decide +kernel
theorem dJ13_bitCount_95d88_38 : decode cJ13_bitCount_95d88 38 = .ok (.lushr, 1) := by decide +kernel
theorem dJ13_bitCount_95d88_39 : decode cJ13_bitCount_95d88 39 = .ok (.ladd, 1) := by decide +kernel
theorem dJ13_bitCount_95d88_40 : decode cJ13_bitCount_95d88 40 = .ok (.lstore_n 0, 1) := by decide +kernel
theorem dJ13_bitCount_95d88_41 : decode cJ13_bitCount_95d88 41 = .ok (.lload_n 0, 1) := by decide +kernel
theorem dJ13_bitCount_95d88_42 : decode cJ13_bitCount_95d88 42 = .ok (.lload_n 0, 1) := by decide +kernel
theorem dJ13_bitCount_95d88_43 : decode cJ13_bitCount_95d88 43 = .ok (.bipush 16, 2) := by decide +kernel
theorem dJ13_bitCount_95d88_45 : decode cJ13_bitCount_95d88 45 = .ok (.lushr, 1) := by decide +kernel
theorem dJ13_bitCount_95d88_46 : decode cJ13_bitCount_95d88 46 = .ok (.ladd, 1) := by decide +kernel
theorem dJ13_bitCount_95d88_47 : decode cJ13_bitCount_95d88 47 = .ok (.lstore_n 0, 1) := by decide +kernel
theorem dJ13_bitCount_95d88_48 : decode cJ13_bitCount_95d88 48 = .ok (.lload_n 0, 1) := by decide +kernel
theorem dJ13_bitCount_95d88_49 : decode cJ13_bitCount_95d88 49 = .ok (.lload_n 0, 1) := by decide +kernel
theorem dJ13_bitCount_95d88_50 : decode cJ13_bitCount_95d88 50 = .ok (.bipush 32, 2) := by decide +kernel
theorem dJ13_bitCount_95d88_52 : decode cJ13_bitCount_95d88 52 = .ok (.lushr, 1) := by decide +kernel
theorem dJ13_bitCount_95d88_53 : decode cJ13_bitCount_95d88 53 = .ok (.ladd, 1) := by decide +kernel
theorem dJ13_bitCount_95d88_54 : decode cJ13_bitCount_95d88 54 = .ok (.lstore_n 0, 1) := by decide +kernel
theorem dJ13_bitCount_95d88_55 : decode cJ13_bitCount_95d88 55 = .ok (.lload_n 0, 1) := by decide +kernel
theorem dJ13_bitCount_95d88_56 : decode cJ13_bitCount_95d88 56 = .ok (.l2i, 1) := by decide +kernel
theorem dJ13_bitCount_95d88_57 : decode cJ13_bitCount_95d88 57 = .ok (.bipush 127, 2) := by decide +kernel
theorem dJ13_bitCount_95d88_59 : decode cJ13_bitCount_95d88 59 = .ok (.iand, 1) := by decide +kernel
theorem dJ13_bitCount_95d88_60 : decode cJ13_bitCount_95d88 60 = .ok (.ireturn, 1) := by decide +kernel
theorem dJ7_fill_53178_0 : decode cJ7_fill_53178 0 = .ok (.iconst 0, 1) := by decide +kernel
theorem dJ7_fill_53178_1 : decode cJ7_fill_53178 1 = .ok (.istore_n 2, 1) := by decide +kernel
theorem dJ7_fill_53178_2 : decode cJ7_fill_53178 2 = .ok (.aload_n 0, 1) := by decide +kernel
theorem dJ7_fill_53178_3 : decode cJ7_fill_53178 3 = .ok (.arraylength, 1) := by decide +kernel
theorem dJ7_fill_53178_4 : decode cJ7_fill_53178 4 = .ok (.istore_n 3, 1) := by decide +kernel
theorem dJ7_fill_53178_5 : decode cJ7_fill_53178 5 = .ok (.iload_n 2, 1) := by decide +kernel
theorem dJ7_fill_53178_6 : decode cJ7_fill_53178 6 = .ok (.iload_n 3, 1) := by decide +kernel
theorem dJ7_fill_53178_7 : decode cJ7_fill_53178 7 = .ok (.if_icmp .ge 13, 3) := by decide +kernel
theorem dJ7_fill_53178_10 : decode cJ7_fill_53178 10 = .ok (.aload_n 0, 1) := by decide +kernel
theorem dJ7_fill_53178_11 : decode cJ7_fill_53178 11 = .ok (.iload_n 2, 1) := by decide +kernel
theorem dJ7_fill_53178_12 : decode cJ7_fill_53178 12 = .ok (.iload_n 1, 1) := by decide +kernel
theorem dJ7_fill_53178_13 : decode cJ7_fill_53178 13 = .ok (.iastore, 1) := by decide +kernel
theorem dJ7_fill_53178_14 : decode cJ7_fill_53178 14 = .ok (.iinc 2 1, 3) := by decide +kernel
theorem dJ7_fill_53178_17 : decode cJ7_fill_53178 17 = .ok (.goto (-12), 3) := by decide +kernel
theorem dJ7_fill_53178_20 : decode cJ7_fill_53178 20 = .ok (.return_, 1) := by decide +kernel
theorem dJ7_fill_d0a16_0 : decode cJ7_fill_d0a16 0 = .ok (.iconst 0, 1) := by decide +kernel
theorem dJ7_fill_d0a16_1 : decode cJ7_fill_d0a16 1 = .ok (.istore_n 3, 1) := by decide +kernel
theorem dJ7_fill_d0a16_2 : decode cJ7_fill_d0a16 2 = .ok (.aload_n 0, 1) := by decide +kernel
theorem dJ7_fill_d0a16_3 : decode cJ7_fill_d0a16 3 = .ok (.arraylength, 1) := by decide +kernel
theorem dJ7_fill_d0a16_4 : decode cJ7_fill_d0a16 4 = .ok (.istore 4, 2) := by decide +kernel
theorem dJ7_fill_d0a16_6 : decode cJ7_fill_d0a16 6 = .ok (.iload_n 3, 1) := by decide +kernel
theorem dJ7_fill_d0a16_7 : decode cJ7_fill_d0a16 7 = .ok (.iload 4, 2) := by decide +kernel
theorem dJ7_fill_d0a16_9 : decode cJ7_fill_d0a16 9 = .ok (.if_icmp .ge 13, 3) := by decide +kernel
theorem dJ7_fill_d0a16_12 : decode cJ7_fill_d0a16 12 = .ok (.aload_n 0, 1) := by decide +kernel
theorem dJ7_fill_d0a16_13 : decode cJ7_fill_d0a16 13 = .ok (.iload_n 3, 1) := by decide +kernel
theorem dJ7_fill_d0a16_14 : decode cJ7_fill_d0a16 14 = .ok (.lload_n 1, 1) := by decide +kernel
theorem dJ7_fill_d0a16_15 : decode cJ7_fill_d0a16 15 = .ok (.lastore, 1) := by decide +kernel
theorem dJ7_fill_d0a16_16 : decode cJ7_fill_d0a16 16 = .ok (.iinc 3 1, 3) := by decide +kernel
theorem dJ7_fill_d0a16_19 : decode cJ7_fill_d0a16 19 = .ok (.goto (-13), 3) := by decide +kernel
theorem dJ7_fill_d0a16_22 : decode cJ7_fill_d0a16 22 = .ok (.return_, 1) := by decide +kernel
