/-! the printed decode rows -/
theorem dX11_init_0 : decode cX11_init 0 = .ok (.aload_n 0, 1) := by decide +kernel
theorem dX11_init_1 : decode cX11_init 1 = .ok (.invokespecial 1, 3) := by decide +kernel
theorem dX11_init_4 : decode cX11_init 4 = .ok (.aload_n 0, 1) := by decide +kernel
theorem dX11_init_5 : decode cX11_init 5 = .ok (.bipush 90, 2) := by decide +kernel
theorem dX11_init_7 : decode cX11_init 7 = .ok (.newarray .int, 2) := by decide +kernel
theorem dX11_init_9 : decode cX11_init 9 = .ok (.putfield 9, 3) := by decide +kernel
theorem dX11_init_12 : decode cX11_init 12 = .ok (.aload_n 0, 1) := by decide +kernel
theorem dX11_init_13 : decode cX11_init 13 = .ok (.new 13, 3) := by decide +kernel
theorem dX11_init_16 : decode cX11_init 16 = .ok (.dup, 1) := by decide +kernel
theorem dX11_init_17 : decode cX11_init 17 = .ok (.invokespecial 15, 3) := by decide +kernel
theorem dX11_init_20 : decode cX11_init 20 = .ok (.putfield 16, 3) := by decide +kernel
theorem dX11_init_23 : decode cX11_init 23 = .ok (.aload_n 0, 1) := by decide +kernel
theorem dX11_init_24 : decode cX11_init 24 = .ok (.new 20, 3) := by decide +kernel
theorem dX11_init_27 : decode cX11_init 27 = .ok (.dup, 1) := by decide +kernel
theorem dX11_init_28 : decode cX11_init 28 = .ok (.aload_n 0, 1) := by decide +kernel
theorem dX11_init_29 : decode cX11_init 29 = .ok (.getfield 16, 3) := by decide +kernel
theorem dX11_init_32 : decode cX11_init 32 = .ok (.invokespecial 22, 3) := by decide +kernel
theorem dX11_init_35 : decode cX11_init 35 = .ok (.putfield 25, 3) := by decide +kernel
theorem dX11_init_38 : decode cX11_init 38 = .ok (.aload_n 0, 1) := by decide +kernel
theorem dX11_init_39 : decode cX11_init 39 = .ok (.new 29, 3) := by decide +kernel
theorem dX11_init_42 : decode cX11_init 42 = .ok (.dup, 1) := by decide +kernel
theorem dX11_init_43 : decode cX11_init 43 = .ok (.invokespecial 31, 3) := by decide +kernel
theorem dX11_init_46 : decode cX11_init 46 = .ok (.putfield 32, 3) := by decide +kernel
theorem dX11_init_49 : decode cX11_init 49 = .ok (.aload_n 0, 1) := by decide +kernel
theorem dX11_init_50 : decode cX11_init 50 = .ok (.new 36, 3) := by decide +kernel
theorem dX11_init_53 : decode cX11_init 53 = .ok (.dup, 1) := by decide +kernel
theorem dX11_init_54 : decode cX11_init 54 = .ok (.aload_n 0, 1) := by decide +kernel
theorem dX11_init_55 : decode cX11_init 55 = .ok (.getfield 25, 3) := by decide +kernel
theorem dX11_init_58 : decode cX11_init 58 = .ok (.invokespecial 38, 3) := by decide +kernel
theorem dX11_init_61 : decode cX11_init 61 = .ok (.putfield 41, 3) := by decide +kernel
theorem dX11_init_64 : decode cX11_init 64 = .ok (.aload_n 0, 1) := by decide +kernel
theorem dX11_init_65 : decode cX11_init 65 = .ok (.new 45, 3) := by decide +kernel
theorem dX11_init_68 : decode cX11_init 68 = .ok (.dup, 1) := by decide +kernel
theorem dX11_init_69 : decode cX11_init 69 = .ok (.aload_n 0, 1) := by decide +kernel
theorem dX11_init_70 : decode cX11_init 70 = .ok (.getfield 16, 3) := by decide +kernel
theorem dX11_init_73 : decode cX11_init 73 = .ok (.aload_n 0, 1) := by decide +kernel
theorem dX11_init_74 : decode cX11_init 74 = .ok (.getfield 25, 3) := by decide +kernel
theorem dX11_init_77 : decode cX11_init 77 = .ok (.invokespecial 47, 3) := by decide +kernel
theorem dX11_init_80 : decode cX11_init 80 = .ok (.putfield 50, 3) := by decide +kernel
theorem dX11_init_83 : decode cX11_init 83 = .ok (.aload_n 0, 1) := by decide +kernel
theorem dX11_init_84 : decode cX11_init 84 = .ok (.new 54, 3) := by decide +kernel
theorem dX11_init_87 : decode cX11_init 87 = .ok (.dup, 1) := by decide +kernel
theorem dX11_init_88 : decode cX11_init 88 = .ok (.invokespecial 56, 3) := by decide +kernel
theorem dX11_init_91 : decode cX11_init 91 = .ok (.putfield 57, 3) := by decide +kernel
theorem dX11_init_94 : decode cX11_init 94 = .ok (.aload_n 0, 1) := by decide +kernel
theorem dX11_init_95 : decode cX11_init 95 = .ok (.new 61, 3) := by decide +kernel
theorem dX11_init_98 : decode cX11_init 98 = .ok (.dup, 1) := by decide +kernel
theorem dX11_init_99 : decode cX11_init 99 = .ok (.invokespecial 63, 3) := by decide +kernel
theorem dX11_init_102 : decode cX11_init 102 = .ok (.putfield 64, 3) := by decide +kernel
theorem dX11_init_105 : decode cX11_init 105 = .ok (.aload_n 0, 1) := by decide +kernel
theorem dX11_init_106 : decode cX11_init 106 = .ok (.new 68, 3) := by decide +kernel
theorem dX11_init_109 : decode cX11_init 109 = .ok (.dup, 1) := by decide +kernel
theorem dX11_init_110 : decode cX11_init 110 = .ok (.invokespecial 70, 3) := by decide +kernel
theorem dX11_init_113 : decode cX11_init 113 = .ok (.putfield 71, 3) := by decide +kernel
theorem dX11_init_116 : decode cX11_init 116 = .ok (.aload_n 0, 1) := by decide +kernel
theorem dX11_init_117 : decode cX11_init 117 = .ok (.new 75, 3) := by decide +kernel
theorem dX11_init_120 : decode cX11_init 120 = .ok (.dup, 1) := by decide +kernel
theorem dX11_init_121 : decode cX11_init 121 = .ok (.invokespecial 77, 3) := by decide +kernel
theorem dX11_init_124 : decode cX11_init 124 = .ok (.putfield 78, 3) := by decide +kernel
theorem dX11_init_127 : decode cX11_init 127 = .ok (.aload_n 0, 1) := by decide +kernel
theorem dX11_init_128 : decode cX11_init 128 = .ok (.new 82, 3) := by decide +kernel
theorem dX11_init_131 : decode cX11_init 131 = .ok (.dup, 1) := by decide +kernel
theorem dX11_init_132 : decode cX11_init 132 = .ok (.aload_n 0, 1) := by decide +kernel
theorem dX11_init_133 : decode cX11_init 133 = .ok (.getfield 9, 3) := by decide +kernel
theorem dX11_init_136 : decode cX11_init 136 = .ok (.invokespecial 84, 3) := by decide +kernel
theorem dX11_init_139 : decode cX11_init 139 = .ok (.putfield 87, 3) := by decide +kernel
theorem dX11_init_142 : decode cX11_init 142 = .ok (.aload_n 0, 1) := by decide +kernel
theorem dX11_init_143 : decode cX11_init 143 = .ok (.iconst 2, 1) := by decide +kernel
theorem dX11_init_144 : decode cX11_init 144 = .ok (.putfield 91, 3) := by decide +kernel
theorem dX11_init_147 : decode cX11_init 147 = .ok (.return_, 1) := by decide +kernel
theorem dX11_days_0 : decode cX11_days 0 = .ok (.iload_n 1, 1) := by decide +kernel
theorem dX11_days_1 : decode cX11_days 1 = .ok (.iconst 1, 1) := by decide +kernel
theorem dX11_days_2 : decode cX11_days 2 = .ok (.sipush 400, 3) := by decide +kernel
theorem dX11_days_5 : decode cX11_days 5 = .ok (.invokestatic 95, 3) := by decide +kernel
theorem dX11_days_8 : decode cX11_days 8 = .ok (.ifCond .eq 15, 3) := by decide +kernel
theorem dX11_days_11 : decode cX11_days 11 = .ok (.aload_n 0, 1) := by decide +kernel
theorem dX11_days_12 : decode cX11_days 12 = .ok (.getfield 99, 3) := by decide +kernel
theorem dX11_days_15 : decode cX11_days 15 = .ok (.iload_n 1, 1) := by decide +kernel
theorem dX11_days_16 : decode cX11_days 16 = .ok (.iadd, 1) := by decide +kernel
theorem dX11_days_17 : decode cX11_days 17 = .ok (.sipush 3999, 3) := by decide +kernel
theorem dX11_days_20 : decode cX11_days 20 = .ok (.if_icmp .le 6, 3) := by decide +kernel
theorem dX11_days_23 : decode cX11_days 23 = .ok (.bipush (-2), 2) := by decide +kernel
theorem dX11_days_25 : decode cX11_days 25 = .ok (.ireturn, 1) := by decide +kernel
theorem dX11_days_26 : decode cX11_days 26 = .ok (.aload_n 0, 1) := by decide +kernel
theorem dX11_days_27 : decode cX11_days 27 = .ok (.dup, 1) := by decide +kernel
theorem dX11_days_28 : decode cX11_days 28 = .ok (.getfield 99, 3) := by decide +kernel
theorem dX11_days_31 : decode cX11_days 31 = .ok (.iload_n 1, 1) := by decide +kernel
theorem dX11_days_32 : decode cX11_days 32 = .ok (.iadd, 1) := by decide +kernel
theorem dX11_days_33 : decode cX11_days 33 = .ok (.putfield 99, 3) := by decide +kernel
theorem dX11_days_36 : decode cX11_days 36 = .ok (.aload_n 0, 1) := by decide +kernel
theorem dX11_days_37 : decode cX11_days 37 = .ok (.getfield 99, 3) := by decide +kernel
theorem dX11_days_40 : decode cX11_days 40 = .ok (.ireturn, 1) := by decide +kernel
theorem dX11_feed_0 : decode cX11_feed 0 = .ok (.iload_n 2, 1) := by decide +kernel
theorem dX11_feed_1 : decode cX11_feed 1 = .ok (.iconst 0, 1) := by decide +kernel
theorem dX11_feed_2 : decode cX11_feed 2 = .ok (.iconst 4, 1) := by decide +kernel
theorem dX11_feed_3 : decode cX11_feed 3 = .ok (.invokestatic 95, 3) := by decide +kernel
theorem dX11_feed_6 : decode cX11_feed 6 = .ok (.ifCond .ne 6, 3) := by decide +kernel
theorem dX11_feed_9 : decode cX11_feed 9 = .ok (.bipush (-2), 2) := by decide +kernel
theorem dX11_feed_11 : decode cX11_feed 11 = .ok (.ireturn, 1) := by decide +kernel
theorem dX11_feed_12 : decode cX11_feed 12 = .ok (.aload_n 0, 1) := by decide +kernel
theorem dX11_feed_13 : decode cX11_feed 13 = .ok (.getfield 102, 3) := by decide +kernel
theorem dX11_feed_16 : decode cX11_feed 16 = .ok (.iload_n 2, 1) := by decide +kernel
theorem dX11_feed_17 : decode cX11_feed 17 = .ok (.iadd, 1) := by decide +kernel
theorem dX11_feed_18 : decode cX11_feed 18 = .ok (.bipush 90, 2) := by decide +kernel
theorem dX11_feed_20 : decode cX11_feed 20 = .ok (.if_icmp .le 6, 3) := by decide +kernel
theorem dX11_feed_23 : decode cX11_feed 23 = .ok (.bipush (-4), 2) := by decide +kernel
theorem dX11_feed_25 : decode cX11_feed 25 = .ok (.ireturn, 1) := by decide +kernel
theorem dX11_feed_26 : decode cX11_feed 26 = .ok (.iload_n 2, 1) := by decide +kernel
theorem dX11_feed_27 : decode cX11_feed 27 = .ok (.iconst 1, 1) := by decide +kernel
theorem dX11_feed_28 : decode cX11_feed 28 = .ok (.isub, 1) := by decide +kernel
theorem dX11_feed_29 : decode cX11_feed 29 = .ok (.istore_n 3, 1) := by decide +kernel
theorem dX11_feed_30 : decode cX11_feed 30 = .ok (.iload_n 3, 1) := by decide +kernel
theorem dX11_feed_31 : decode cX11_feed 31 = .ok (.ifCond .lt 38, 3) := by decide +kernel
theorem dX11_feed_34 : decode cX11_feed 34 = .ok (.aload_n 0, 1) := by decide +kernel
theorem dX11_feed_35 : decode cX11_feed 35 = .ok (.getfield 9, 3) := by decide +kernel
theorem dX11_feed_38 : decode cX11_feed 38 = .ok (.aload_n 0, 1) := by decide +kernel
theorem dX11_feed_39 : decode cX11_feed 39 = .ok (.getfield 102, 3) := by decide +kernel
theorem dX11_feed_42 : decode cX11_feed 42 = .ok (.iload_n 1, 1) := by decide +kernel
theorem dX11_feed_43 : decode cX11_feed 43 = .ok (.bipush 8, 2) := by decide +kernel
theorem dX11_feed_45 : decode cX11_feed 45 = .ok (.iload_n 3, 1) := by decide +kernel
theorem dX11_feed_46 : decode cX11_feed 46 = .ok (.imul, 1) := by decide +kernel
theorem dX11_feed_47 : decode cX11_feed 47 = .ok (.iushr, 1) := by decide +kernel
theorem dX11_feed_48 : decode cX11_feed 48 = .ok (.sipush 255, 3) := by decide +kernel
theorem dX11_feed_51 : decode cX11_feed 51 = .ok (.iand, 1) := by decide +kernel
theorem dX11_feed_52 : decode cX11_feed 52 = .ok (.iastore, 1) := by decide +kernel
theorem dX11_feed_53 : decode cX11_feed 53 = .ok (.aload_n 0, 1) := by decide +kernel
theorem dX11_feed_54 : decode cX11_feed 54 = .ok (.dup, 1) := by decide +kernel
theorem dX11_feed_55 : decode cX11_feed 55 = .ok (.getfield 102, 3) := by decide +kernel
theorem dX11_feed_58 : decode cX11_feed 58 = .ok (.iconst 1, 1) := by decide +kernel
theorem dX11_feed_59 : decode cX11_feed 59 = .ok (.iadd, 1) := by decide +kernel
theorem dX11_feed_60 : decode cX11_feed 60 = .ok (.putfield 102, 3) := by decide +kernel
theorem dX11_feed_63 : decode cX11_feed 63 = .ok (.iinc 3 (-1), 3) := by decide +kernel
theorem dX11_feed_66 : decode cX11_feed 66 = .ok (.goto (-36), 3) := by decide +kernel
theorem dX11_feed_69 : decode cX11_feed 69 = .ok (.aload_n 0, 1) := by decide +kernel
theorem dX11_feed_70 : decode cX11_feed 70 = .ok (.getfield 102, 3) := by decide +kernel
theorem dX11_feed_73 : decode cX11_feed 73 = .ok (.ireturn, 1) := by decide +kernel
theorem dX11_rule_0 : decode cX11_rule 0 = .ok (.iload_n 1, 1) := by decide +kernel
theorem dX11_rule_1 : decode cX11_rule 1 = .ok (.iconst 0, 1) := by decide +kernel
theorem dX11_rule_2 : decode cX11_rule 2 = .ok (.iconst 5, 1) := by decide +kernel
theorem dX11_rule_3 : decode cX11_rule 3 = .ok (.invokestatic 95, 3) := by decide +kernel
theorem dX11_rule_6 : decode cX11_rule 6 = .ok (.ifCond .eq 12, 3) := by decide +kernel
theorem dX11_rule_9 : decode cX11_rule 9 = .ok (.iload_n 2, 1) := by decide +kernel
theorem dX11_rule_10 : decode cX11_rule 10 = .ok (.iconst 1, 1) := by decide +kernel
theorem dX11_rule_11 : decode cX11_rule 11 = .ok (.iconst 5, 1) := by decide +kernel
theorem dX11_rule_12 : decode cX11_rule 12 = .ok (.invokestatic 95, 3) := by decide +kernel
theorem dX11_rule_15 : decode cX11_rule 15 = .ok (.ifCond .ne 5, 3) := by decide +kernel
theorem dX11_rule_18 : decode cX11_rule 18 = .ok (.iconst (-1), 1) := by decide +kernel
theorem dX11_rule_19 : decode cX11_rule 19 = .ok (.ireturn, 1) := by decide +kernel
theorem dX11_rule_20 : decode cX11_rule 20 = .ok (.iload_n 2, 1) := by decide +kernel
theorem dX11_rule_21 : decode cX11_rule 21 = .ok (.iconst 4, 1) := by decide +kernel
theorem dX11_rule_22 : decode cX11_rule 22 = .ok (.if_icmp .lt 7, 3) := by decide +kernel
theorem dX11_rule_25 : decode cX11_rule 25 = .ok (.iconst 1, 1) := by decide +kernel
theorem dX11_rule_26 : decode cX11_rule 26 = .ok (.goto 4, 3) := by decide +kernel
theorem dX11_rule_29 : decode cX11_rule 29 = .ok (.iconst 0, 1) := by decide +kernel
theorem dX11_rule_30 : decode cX11_rule 30 = .ok (.istore 6, 2) := by decide +kernel
theorem dX11_rule_32 : decode cX11_rule 32 = .ok (.iload 6, 2) := by decide +kernel
theorem dX11_rule_34 : decode cX11_rule 34 = .ok (.iload_n 1, 1) := by decide +kernel
theorem dX11_rule_35 : decode cX11_rule 35 = .ok (.iconst 5, 1) := by decide +kernel
theorem dX11_rule_36 : decode cX11_rule 36 = .ok (.if_icmp .ne 7, 3) := by decide +kernel
theorem dX11_rule_39 : decode cX11_rule 39 = .ok (.iconst 1, 1) := by decide +kernel
theorem dX11_rule_40 : decode cX11_rule 40 = .ok (.goto 4, 3) := by decide +kernel
theorem dX11_rule_43 : decode cX11_rule 43 = .ok (.iconst 0, 1) := by decide +kernel
theorem dX11_rule_44 : decode cX11_rule 44 = .ok (.if_icmp .ne 25, 3) := by decide +kernel
theorem dX11_rule_47 : decode cX11_rule 47 = .ok (.iload_n 3, 1) := by decide +kernel
theorem dX11_rule_48 : decode cX11_rule 48 = .ok (.iconst 0, 1) := by decide +kernel
theorem dX11_rule_49 : decode cX11_rule 49 = .ok (.bipush 9, 2) := by decide +kernel
theorem dX11_rule_51 : decode cX11_rule 51 = .ok (.invokestatic 95, 3) := by decide +kernel
theorem dX11_rule_54 : decode cX11_rule 54 = .ok (.ifCond .eq 15, 3) := by decide +kernel
theorem dX11_rule_57 : decode cX11_rule 57 = .ok (.iload 4, 2) := by decide +kernel
theorem dX11_rule_59 : decode cX11_rule 59 = .ok (.iconst 0, 1) := by decide +kernel
theorem dX11_rule_60 : decode cX11_rule 60 = .ok (.sipush 3999, 3) := by decide +kernel
theorem dX11_rule_63 : decode cX11_rule 63 = .ok (.invokestatic 95, 3) := by decide +kernel
theorem dX11_rule_66 : decode cX11_rule 66 = .ok (.ifCond .ne 6, 3) := by decide +kernel
theorem dX11_rule_69 : decode cX11_rule 69 = .ok (.bipush (-2), 2) := by decide +kernel
theorem dX11_rule_71 : decode cX11_rule 71 = .ok (.ireturn, 1) := by decide +kernel
theorem dX11_rule_72 : decode cX11_rule 72 = .ok (.iload_n 2, 1) := by decide +kernel
theorem dX11_rule_73 : decode cX11_rule 73 = .ok (.iconst 2, 1) := by decide +kernel
theorem dX11_rule_74 : decode cX11_rule 74 = .ok (.if_icmp .ne 17, 3) := by decide +kernel
theorem dX11_rule_77 : decode cX11_rule 77 = .ok (.iload 5, 2) := by decide +kernel
theorem dX11_rule_79 : decode cX11_rule 79 = .ok (.iconst 1, 1) := by decide +kernel
theorem dX11_rule_80 : decode cX11_rule 80 = .ok (.bipush 20, 2) := by decide +kernel
theorem dX11_rule_82 : decode cX11_rule 82 = .ok (.invokestatic 95, 3) := by decide +kernel
theorem dX11_rule_85 : decode cX11_rule 85 = .ok (.ifCond .ne 14, 3) := by decide +kernel
theorem dX11_rule_88 : decode cX11_rule 88 = .ok (.goto 8, 3) := by decide +kernel
theorem dX11_rule_91 : decode cX11_rule 91 = .ok (.iload 5, 2) := by decide +kernel
theorem dX11_rule_93 : decode cX11_rule 93 = .ok (.ifCond .eq 6, 3) := by decide +kernel
theorem dX11_rule_96 : decode cX11_rule 96 = .ok (.bipush (-2), 2) := by decide +kernel
theorem dX11_rule_98 : decode cX11_rule 98 = .ok (.ireturn, 1) := by decide +kernel
theorem dX11_rule_99 : decode cX11_rule 99 = .ok (.aload_n 0, 1) := by decide +kernel
theorem dX11_rule_100 : decode cX11_rule 100 = .ok (.getfield 16, 3) := by decide +kernel
theorem dX11_rule_103 : decode cX11_rule 103 = .ok (.invokevirtual 107, 3) := by decide +kernel
theorem dX11_rule_106 : decode cX11_rule 106 = .ok (.ifCond .eq 6, 3) := by decide +kernel
theorem dX11_rule_109 : decode cX11_rule 109 = .ok (.bipush (-4), 2) := by decide +kernel
theorem dX11_rule_111 : decode cX11_rule 111 = .ok (.ireturn, 1) := by decide +kernel
theorem dX11_rule_112 : decode cX11_rule 112 = .ok (.aload_n 0, 1) := by decide +kernel
theorem dX11_rule_113 : decode cX11_rule 113 = .ok (.getfield 87, 3) := by decide +kernel
theorem dX11_rule_116 : decode cX11_rule 116 = .ok (.aload_n 0, 1) := by decide +kernel
theorem dX11_rule_117 : decode cX11_rule 117 = .ok (.getfield 102, 3) := by decide +kernel
theorem dX11_rule_120 : decode cX11_rule 120 = .ok (.invokevirtual 111, 3) := by decide +kernel
theorem dX11_rule_123 : decode cX11_rule 123 = .ok (.istore 7, 2) := by decide +kernel
theorem dX11_rule_125 : decode cX11_rule 125 = .ok (.aload_n 0, 1) := by decide +kernel
theorem dX11_rule_126 : decode cX11_rule 126 = .ok (.iconst 0, 1) := by decide +kernel
theorem dX11_rule_127 : decode cX11_rule 127 = .ok (.putfield 102, 3) := by decide +kernel
theorem dX11_rule_130 : decode cX11_rule 130 = .ok (.iload 7, 2) := by decide +kernel
theorem dX11_rule_132 : decode cX11_rule 132 = .ok (.iconst (-1), 1) := by decide +kernel
theorem dX11_rule_133 : decode cX11_rule 133 = .ok (.if_icmp .eq 9, 3) := by decide +kernel
theorem dX11_rule_136 : decode cX11_rule 136 = .ok (.bipush (-10), 2) := by decide +kernel
theorem dX11_rule_138 : decode cX11_rule 138 = .ok (.iload 7, 2) := by decide +kernel
theorem dX11_rule_140 : decode cX11_rule 140 = .ok (.isub, 1) := by decide +kernel
theorem dX11_rule_141 : decode cX11_rule 141 = .ok (.ireturn, 1) := by decide +kernel
theorem dX11_rule_142 : decode cX11_rule 142 = .ok (.aload_n 0, 1) := by decide +kernel
theorem dX11_rule_143 : decode cX11_rule 143 = .ok (.getfield 16, 3) := by decide +kernel
theorem dX11_rule_146 : decode cX11_rule 146 = .ok (.new 105, 3) := by decide +kernel
theorem dX11_rule_149 : decode cX11_rule 149 = .ok (.dup, 1) := by decide +kernel
theorem dX11_rule_150 : decode cX11_rule 150 = .ok (.aload_n 0, 1) := by decide +kernel
theorem dX11_rule_151 : decode cX11_rule 151 = .ok (.getfield 87, 3) := by decide +kernel
theorem dX11_rule_154 : decode cX11_rule 154 = .ok (.iload_n 2, 1) := by decide +kernel
theorem dX11_rule_155 : decode cX11_rule 155 = .ok (.iload_n 1, 1) := by decide +kernel
theorem dX11_rule_156 : decode cX11_rule 156 = .ok (.iload_n 3, 1) := by decide +kernel
theorem dX11_rule_157 : decode cX11_rule 157 = .ok (.iload 4, 2) := by decide +kernel
theorem dX11_rule_159 : decode cX11_rule 159 = .ok (.aload_n 0, 1) := by decide +kernel
theorem dX11_rule_160 : decode cX11_rule 160 = .ok (.getfield 99, 3) := by decide +kernel
theorem dX11_rule_163 : decode cX11_rule 163 = .ok (.iload 5, 2) := by decide +kernel
theorem dX11_rule_165 : decode cX11_rule 165 = .ok (.invokespecial 115, 3) := by decide +kernel
theorem dX11_rule_168 : decode cX11_rule 168 = .ok (.invokevirtual 118, 3) := by decide +kernel
theorem dX11_rule_171 : decode cX11_rule 171 = .ok (.istore 8, 2) := by decide +kernel
theorem dX11_rule_173 : decode cX11_rule 173 = .ok (.aload_n 0, 1) := by decide +kernel
theorem dX11_rule_174 : decode cX11_rule 174 = .ok (.new 82, 3) := by decide +kernel
theorem dX11_rule_177 : decode cX11_rule 177 = .ok (.dup, 1) := by decide +kernel
theorem dX11_rule_178 : decode cX11_rule 178 = .ok (.aload_n 0, 1) := by decide +kernel
theorem dX11_rule_179 : decode cX11_rule 179 = .ok (.getfield 9, 3) := by decide +kernel
theorem dX11_rule_182 : decode cX11_rule 182 = .ok (.invokespecial 84, 3) := by decide +kernel
theorem dX11_rule_185 : decode cX11_rule 185 = .ok (.putfield 87, 3) := by decide +kernel
theorem dX11_rule_188 : decode cX11_rule 188 = .ok (.iload 8, 2) := by decide +kernel
theorem dX11_rule_190 : decode cX11_rule 190 = .ok (.ireturn, 1) := by decide +kernel
theorem dX11_strike_0 : decode cX11_strike 0 = .ok (.aload_n 0, 1) := by decide +kernel
theorem dX11_strike_1 : decode cX11_strike 1 = .ok (.getfield 16, 3) := by decide +kernel
theorem dX11_strike_4 : decode cX11_strike 4 = .ok (.iload_n 1, 1) := by decide +kernel
theorem dX11_strike_5 : decode cX11_strike 5 = .ok (.invokevirtual 122, 3) := by decide +kernel
theorem dX11_strike_8 : decode cX11_strike 8 = .ok (.ifCond .ne 5, 3) := by decide +kernel
theorem dX11_strike_11 : decode cX11_strike 11 = .ok (.iconst (-1), 1) := by decide +kernel
theorem dX11_strike_12 : decode cX11_strike 12 = .ok (.ireturn, 1) := by decide +kernel
theorem dX11_strike_13 : decode cX11_strike 13 = .ok (.iload_n 2, 1) := by decide +kernel
theorem dX11_strike_14 : decode cX11_strike 14 = .ok (.iconst 0, 1) := by decide +kernel
theorem dX11_strike_15 : decode cX11_strike 15 = .ok (.sipush 3999, 3) := by decide +kernel
theorem dX11_strike_18 : decode cX11_strike 18 = .ok (.invokestatic 95, 3) := by decide +kernel
theorem dX11_strike_21 : decode cX11_strike 21 = .ok (.ifCond .ne 6, 3) := by decide +kernel
theorem dX11_strike_24 : decode cX11_strike 24 = .ok (.bipush (-2), 2) := by decide +kernel
theorem dX11_strike_26 : decode cX11_strike 26 = .ok (.ireturn, 1) := by decide +kernel
theorem dX11_strike_27 : decode cX11_strike 27 = .ok (.aload_n 0, 1) := by decide +kernel
theorem dX11_strike_28 : decode cX11_strike 28 = .ok (.getfield 16, 3) := by decide +kernel
theorem dX11_strike_31 : decode cX11_strike 31 = .ok (.iload_n 1, 1) := by decide +kernel
theorem dX11_strike_32 : decode cX11_strike 32 = .ok (.invokevirtual 126, 3) := by decide +kernel
theorem dX11_strike_35 : decode cX11_strike 35 = .ok (.iload_n 2, 1) := by decide +kernel
theorem dX11_strike_36 : decode cX11_strike 36 = .ok (.aload_n 0, 1) := by decide +kernel
theorem dX11_strike_37 : decode cX11_strike 37 = .ok (.getfield 99, 3) := by decide +kernel
theorem dX11_strike_40 : decode cX11_strike 40 = .ok (.invokevirtual 130, 3) := by decide +kernel
theorem dX11_strike_43 : decode cX11_strike 43 = .ok (.ifCond .eq 7, 3) := by decide +kernel
theorem dX11_strike_46 : decode cX11_strike 46 = .ok (.iconst 1, 1) := by decide +kernel
theorem dX11_strike_47 : decode cX11_strike 47 = .ok (.goto 5, 3) := by decide +kernel
theorem dX11_strike_50 : decode cX11_strike 50 = .ok (.bipush (-3), 2) := by decide +kernel
theorem dX11_strike_52 : decode cX11_strike 52 = .ok (.ireturn, 1) := by decide +kernel
theorem dX11_fall_0 : decode cX11_fall 0 = .ok (.aload_n 0, 1) := by decide +kernel
theorem dX11_fall_1 : decode cX11_fall 1 = .ok (.getfield 16, 3) := by decide +kernel
theorem dX11_fall_4 : decode cX11_fall 4 = .ok (.iload_n 1, 1) := by decide +kernel
theorem dX11_fall_5 : decode cX11_fall 5 = .ok (.invokevirtual 122, 3) := by decide +kernel
theorem dX11_fall_8 : decode cX11_fall 8 = .ok (.ifCond .ne 5, 3) := by decide +kernel
theorem dX11_fall_11 : decode cX11_fall 11 = .ok (.iconst (-1), 1) := by decide +kernel
theorem dX11_fall_12 : decode cX11_fall 12 = .ok (.ireturn, 1) := by decide +kernel
theorem dX11_fall_13 : decode cX11_fall 13 = .ok (.aload_n 0, 1) := by decide +kernel
theorem dX11_fall_14 : decode cX11_fall 14 = .ok (.getfield 16, 3) := by decide +kernel
theorem dX11_fall_17 : decode cX11_fall 17 = .ok (.iload_n 1, 1) := by decide +kernel
theorem dX11_fall_18 : decode cX11_fall 18 = .ok (.invokevirtual 126, 3) := by decide +kernel
theorem dX11_fall_21 : decode cX11_fall 21 = .ok (.astore_n 2, 1) := by decide +kernel
theorem dX11_fall_22 : decode cX11_fall 22 = .ok (.aload_n 2, 1) := by decide +kernel
theorem dX11_fall_23 : decode cX11_fall 23 = .ok (.invokevirtual 134, 3) := by decide +kernel
theorem dX11_fall_26 : decode cX11_fall 26 = .ok (.ifCond .ne 6, 3) := by decide +kernel
theorem dX11_fall_29 : decode cX11_fall 29 = .ok (.bipush (-3), 2) := by decide +kernel
theorem dX11_fall_31 : decode cX11_fall 31 = .ok (.ireturn, 1) := by decide +kernel
theorem dX11_fall_32 : decode cX11_fall 32 = .ok (.aload_n 2, 1) := by decide +kernel
theorem dX11_fall_33 : decode cX11_fall 33 = .ok (.aload_n 0, 1) := by decide +kernel
theorem dX11_fall_34 : decode cX11_fall 34 = .ok (.getfield 99, 3) := by decide +kernel
theorem dX11_fall_37 : decode cX11_fall 37 = .ok (.invokevirtual 138, 3) := by decide +kernel
theorem dX11_fall_40 : decode cX11_fall 40 = .ok (.aload_n 2, 1) := by decide +kernel
theorem dX11_fall_41 : decode cX11_fall 41 = .ok (.invokevirtual 134, 3) := by decide +kernel
theorem dX11_fall_44 : decode cX11_fall 44 = .ok (.ireturn, 1) := by decide +kernel
theorem dX11_ruleOf_0 : decode cX11_ruleOf 0 = .ok (.aload_n 0, 1) := by decide +kernel
theorem dX11_ruleOf_1 : decode cX11_ruleOf 1 = .ok (.getfield 16, 3) := by decide +kernel
theorem dX11_ruleOf_4 : decode cX11_ruleOf 4 = .ok (.iload_n 1, 1) := by decide +kernel
theorem dX11_ruleOf_5 : decode cX11_ruleOf 5 = .ok (.invokevirtual 122, 3) := by decide +kernel
theorem dX11_ruleOf_8 : decode cX11_ruleOf 8 = .ok (.ifCond .ne 6, 3) := by decide +kernel
theorem dX11_ruleOf_11 : decode cX11_ruleOf 11 = .ok (.bipush (-5), 2) := by decide +kernel
theorem dX11_ruleOf_13 : decode cX11_ruleOf 13 = .ok (.ireturn, 1) := by decide +kernel
theorem dX11_ruleOf_14 : decode cX11_ruleOf 14 = .ok (.aload_n 0, 1) := by decide +kernel
theorem dX11_ruleOf_15 : decode cX11_ruleOf 15 = .ok (.getfield 16, 3) := by decide +kernel
theorem dX11_ruleOf_18 : decode cX11_ruleOf 18 = .ok (.iload_n 1, 1) := by decide +kernel
theorem dX11_ruleOf_19 : decode cX11_ruleOf 19 = .ok (.invokevirtual 126, 3) := by decide +kernel
theorem dX11_ruleOf_22 : decode cX11_ruleOf 22 = .ok (.astore_n 3, 1) := by decide +kernel
theorem dX11_ruleOf_23 : decode cX11_ruleOf 23 = .ok (.iload_n 2, 1) := by decide +kernel
theorem dX11_ruleOf_24 : decode cX11_ruleOf 24 = .ok (.tableswitch 94 0 7 #[48, 53, 58, 63, 68, 76, 84, 89], 48) := by decide +kernel
theorem dX11_ruleOf_72 : decode cX11_ruleOf 72 = .ok (.aload_n 3, 1) := by decide +kernel
theorem dX11_ruleOf_73 : decode cX11_ruleOf 73 = .ok (.getfield 142, 3) := by decide +kernel
theorem dX11_ruleOf_76 : decode cX11_ruleOf 76 = .ok (.ireturn, 1) := by decide +kernel
theorem dX11_ruleOf_77 : decode cX11_ruleOf 77 = .ok (.aload_n 3, 1) := by decide +kernel
theorem dX11_ruleOf_78 : decode cX11_ruleOf 78 = .ok (.getfield 145, 3) := by decide +kernel
theorem dX11_ruleOf_81 : decode cX11_ruleOf 81 = .ok (.ireturn, 1) := by decide +kernel
theorem dX11_ruleOf_82 : decode cX11_ruleOf 82 = .ok (.aload_n 3, 1) := by decide +kernel
theorem dX11_ruleOf_83 : decode cX11_ruleOf 83 = .ok (.getfield 148, 3) := by decide +kernel
theorem dX11_ruleOf_86 : decode cX11_ruleOf 86 = .ok (.ireturn, 1) := by decide +kernel
theorem dX11_ruleOf_87 : decode cX11_ruleOf 87 = .ok (.aload_n 3, 1) := by decide +kernel
theorem dX11_ruleOf_88 : decode cX11_ruleOf 88 = .ok (.getfield 151, 3) := by decide +kernel
theorem dX11_ruleOf_91 : decode cX11_ruleOf 91 = .ok (.ireturn, 1) := by decide +kernel
theorem dX11_ruleOf_92 : decode cX11_ruleOf 92 = .ok (.aload_n 3, 1) := by decide +kernel
theorem dX11_ruleOf_93 : decode cX11_ruleOf 93 = .ok (.getfield 154, 3) := by decide +kernel
theorem dX11_ruleOf_96 : decode cX11_ruleOf 96 = .ok (.getfield 157, 3) := by decide +kernel
theorem dX11_ruleOf_99 : decode cX11_ruleOf 99 = .ok (.ireturn, 1) := by decide +kernel
theorem dX11_ruleOf_100 : decode cX11_ruleOf 100 = .ok (.aload_n 3, 1) := by decide +kernel
theorem dX11_ruleOf_101 : decode cX11_ruleOf 101 = .ok (.getfield 154, 3) := by decide +kernel
theorem dX11_ruleOf_104 : decode cX11_ruleOf 104 = .ok (.getfield 160, 3) := by decide +kernel
theorem dX11_ruleOf_107 : decode cX11_ruleOf 107 = .ok (.ireturn, 1) := by decide +kernel
theorem dX11_ruleOf_108 : decode cX11_ruleOf 108 = .ok (.aload_n 3, 1) := by decide +kernel
theorem dX11_ruleOf_109 : decode cX11_ruleOf 109 = .ok (.invokevirtual 134, 3) := by decide +kernel
theorem dX11_ruleOf_112 : decode cX11_ruleOf 112 = .ok (.ireturn, 1) := by decide +kernel
theorem dX11_ruleOf_113 : decode cX11_ruleOf 113 = .ok (.aload_n 3, 1) := by decide +kernel
theorem dX11_ruleOf_114 : decode cX11_ruleOf 114 = .ok (.getfield 163, 3) := by decide +kernel
theorem dX11_ruleOf_117 : decode cX11_ruleOf 117 = .ok (.ireturn, 1) := by decide +kernel
theorem dX11_ruleOf_118 : decode cX11_ruleOf 118 = .ok (.bipush (-5), 2) := by decide +kernel
theorem dX11_ruleOf_120 : decode cX11_ruleOf 120 = .ok (.ireturn, 1) := by decide +kernel
theorem dX11_fits_0 : decode cX11_fits 0 = .ok (.aload_n 0, 1) := by decide +kernel
theorem dX11_fits_1 : decode cX11_fits 1 = .ok (.getfield 16, 3) := by decide +kernel
theorem dX11_fits_4 : decode cX11_fits 4 = .ok (.iload_n 1, 1) := by decide +kernel
theorem dX11_fits_5 : decode cX11_fits 5 = .ok (.invokevirtual 122, 3) := by decide +kernel
theorem dX11_fits_8 : decode cX11_fits 8 = .ok (.ifCond .eq 10, 3) := by decide +kernel
theorem dX11_fits_11 : decode cX11_fits 11 = .ok (.iload_n 2, 1) := by decide +kernel
theorem dX11_fits_12 : decode cX11_fits 12 = .ok (.invokestatic 166, 3) := by decide +kernel
theorem dX11_fits_15 : decode cX11_fits 15 = .ok (.ifCond .ne 5, 3) := by decide +kernel
theorem dX11_fits_18 : decode cX11_fits 18 = .ok (.iconst (-1), 1) := by decide +kernel
theorem dX11_fits_19 : decode cX11_fits 19 = .ok (.ireturn, 1) := by decide +kernel
theorem dX11_fits_20 : decode cX11_fits 20 = .ok (.aload_n 0, 1) := by decide +kernel
theorem dX11_fits_21 : decode cX11_fits 21 = .ok (.getfield 16, 3) := by decide +kernel
theorem dX11_fits_24 : decode cX11_fits 24 = .ok (.iload_n 1, 1) := by decide +kernel
theorem dX11_fits_25 : decode cX11_fits 25 = .ok (.invokevirtual 126, 3) := by decide +kernel
theorem dX11_fits_28 : decode cX11_fits 28 = .ok (.getfield 154, 3) := by decide +kernel
theorem dX11_fits_31 : decode cX11_fits 31 = .ok (.getfield 169, 3) := by decide +kernel
theorem dX11_fits_34 : decode cX11_fits 34 = .ok (.iload_n 2, 1) := by decide +kernel
theorem dX11_fits_35 : decode cX11_fits 35 = .ok (.invokevirtual 172, 3) := by decide +kernel
theorem dX11_fits_38 : decode cX11_fits 38 = .ok (.ifCond .eq 7, 3) := by decide +kernel
theorem dX11_fits_41 : decode cX11_fits 41 = .ok (.iconst 1, 1) := by decide +kernel
theorem dX11_fits_42 : decode cX11_fits 42 = .ok (.goto 4, 3) := by decide +kernel
theorem dX11_fits_45 : decode cX11_fits 45 = .ok (.iconst 0, 1) := by decide +kernel
theorem dX11_fits_46 : decode cX11_fits 46 = .ok (.ireturn, 1) := by decide +kernel
theorem dX11_answer_0 : decode cX11_answer 0 = .ok (.iload_n 1, 1) := by decide +kernel
theorem dX11_answer_1 : decode cX11_answer 1 = .ok (.iconst 0, 1) := by decide +kernel
theorem dX11_answer_2 : decode cX11_answer 2 = .ok (.iconst 5, 1) := by decide +kernel
theorem dX11_answer_3 : decode cX11_answer 3 = .ok (.invokestatic 95, 3) := by decide +kernel
theorem dX11_answer_6 : decode cX11_answer 6 = .ok (.ifCond .eq 19, 3) := by decide +kernel
theorem dX11_answer_9 : decode cX11_answer 9 = .ok (.iload_n 2, 1) := by decide +kernel
theorem dX11_answer_10 : decode cX11_answer 10 = .ok (.invokestatic 166, 3) := by decide +kernel
theorem dX11_answer_13 : decode cX11_answer 13 = .ok (.ifCond .eq 12, 3) := by decide +kernel
theorem dX11_answer_16 : decode cX11_answer 16 = .ok (.iload_n 3, 1) := by decide +kernel
theorem dX11_answer_17 : decode cX11_answer 17 = .ok (.ifCond .lt 8, 3) := by decide +kernel
theorem dX11_answer_20 : decode cX11_answer 20 = .ok (.iload 4, 2) := by decide +kernel
theorem dX11_answer_22 : decode cX11_answer 22 = .ok (.ifCond .ge 6, 3) := by decide +kernel
theorem dX11_answer_25 : decode cX11_answer 25 = .ok (.bipush (-5), 2) := by decide +kernel
theorem dX11_answer_27 : decode cX11_answer 27 = .ok (.ireturn, 1) := by decide +kernel
theorem dX11_answer_28 : decode cX11_answer 28 = .ok (.aload_n 0, 1) := by decide +kernel
theorem dX11_answer_29 : decode cX11_answer 29 = .ok (.getfield 16, 3) := by decide +kernel
theorem dX11_answer_32 : decode cX11_answer 32 = .ok (.iload_n 1, 1) := by decide +kernel
theorem dX11_answer_33 : decode cX11_answer 33 = .ok (.iload_n 2, 1) := by decide +kernel
theorem dX11_answer_34 : decode cX11_answer 34 = .ok (.iload_n 3, 1) := by decide +kernel
theorem dX11_answer_35 : decode cX11_answer 35 = .ok (.iload 4, 2) := by decide +kernel
theorem dX11_answer_37 : decode cX11_answer 37 = .ok (.invokevirtual 173, 3) := by decide +kernel
theorem dX11_answer_40 : decode cX11_answer 40 = .ok (.ireturn, 1) := by decide +kernel
theorem dX11_why_0 : decode cX11_why 0 = .ok (.iload_n 1, 1) := by decide +kernel
theorem dX11_why_1 : decode cX11_why 1 = .ok (.iconst 0, 1) := by decide +kernel
theorem dX11_why_2 : decode cX11_why 2 = .ok (.iconst 5, 1) := by decide +kernel
theorem dX11_why_3 : decode cX11_why 3 = .ok (.invokestatic 95, 3) := by decide +kernel
theorem dX11_why_6 : decode cX11_why 6 = .ok (.ifCond .eq 19, 3) := by decide +kernel
theorem dX11_why_9 : decode cX11_why 9 = .ok (.iload_n 2, 1) := by decide +kernel
theorem dX11_why_10 : decode cX11_why 10 = .ok (.invokestatic 166, 3) := by decide +kernel
theorem dX11_why_13 : decode cX11_why 13 = .ok (.ifCond .eq 12, 3) := by decide +kernel
theorem dX11_why_16 : decode cX11_why 16 = .ok (.iload_n 3, 1) := by decide +kernel
theorem dX11_why_17 : decode cX11_why 17 = .ok (.ifCond .lt 8, 3) := by decide +kernel
theorem dX11_why_20 : decode cX11_why 20 = .ok (.iload 4, 2) := by decide +kernel
theorem dX11_why_22 : decode cX11_why 22 = .ok (.ifCond .ge 6, 3) := by decide +kernel
theorem dX11_why_25 : decode cX11_why 25 = .ok (.bipush (-5), 2) := by decide +kernel
theorem dX11_why_27 : decode cX11_why 27 = .ok (.ireturn, 1) := by decide +kernel
theorem dX11_why_28 : decode cX11_why 28 = .ok (.aload_n 0, 1) := by decide +kernel
theorem dX11_why_29 : decode cX11_why 29 = .ok (.getfield 16, 3) := by decide +kernel
theorem dX11_why_32 : decode cX11_why 32 = .ok (.iload_n 1, 1) := by decide +kernel
theorem dX11_why_33 : decode cX11_why 33 = .ok (.iload_n 2, 1) := by decide +kernel
theorem dX11_why_34 : decode cX11_why 34 = .ok (.iload_n 3, 1) := by decide +kernel
theorem dX11_why_35 : decode cX11_why 35 = .ok (.iload 4, 2) := by decide +kernel
theorem dX11_why_37 : decode cX11_why 37 = .ok (.iload 5, 2) := by decide +kernel
theorem dX11_why_39 : decode cX11_why 39 = .ok (.invokevirtual 177, 3) := by decide +kernel
theorem dX11_why_42 : decode cX11_why 42 = .ok (.ireturn, 1) := by decide +kernel
theorem dX11_district_0 : decode cX11_district 0 = .ok (.iload_n 1, 1) := by decide +kernel
theorem dX11_district_1 : decode cX11_district 1 = .ok (.iconst 0, 1) := by decide +kernel
theorem dX11_district_2 : decode cX11_district 2 = .ok (.iconst 4, 1) := by decide +kernel
theorem dX11_district_3 : decode cX11_district 3 = .ok (.invokestatic 95, 3) := by decide +kernel
theorem dX11_district_6 : decode cX11_district 6 = .ok (.ifCond .ne 5, 3) := by decide +kernel
theorem dX11_district_9 : decode cX11_district 9 = .ok (.iconst (-1), 1) := by decide +kernel
theorem dX11_district_10 : decode cX11_district 10 = .ok (.ireturn, 1) := by decide +kernel
theorem dX11_district_11 : decode cX11_district 11 = .ok (.iload_n 2, 1) := by decide +kernel
theorem dX11_district_12 : decode cX11_district 12 = .ok (.iconst 1, 1) := by decide +kernel
theorem dX11_district_13 : decode cX11_district 13 = .ok (.bipush 99, 2) := by decide +kernel
theorem dX11_district_15 : decode cX11_district 15 = .ok (.invokestatic 95, 3) := by decide +kernel
theorem dX11_district_18 : decode cX11_district 18 = .ok (.ifCond .ne 6, 3) := by decide +kernel
theorem dX11_district_21 : decode cX11_district 21 = .ok (.bipush (-2), 2) := by decide +kernel
theorem dX11_district_23 : decode cX11_district 23 = .ok (.ireturn, 1) := by decide +kernel
theorem dX11_district_24 : decode cX11_district 24 = .ok (.aload_n 0, 1) := by decide +kernel
theorem dX11_district_25 : decode cX11_district 25 = .ok (.getfield 25, 3) := by decide +kernel
theorem dX11_district_28 : decode cX11_district 28 = .ok (.invokevirtual 181, 3) := by decide +kernel
theorem dX11_district_31 : decode cX11_district 31 = .ok (.ifCond .eq 8, 3) := by decide +kernel
theorem dX11_district_34 : decode cX11_district 34 = .ok (.bipush (-4), 2) := by decide +kernel
theorem dX11_district_36 : decode cX11_district 36 = .ok (.goto 12, 3) := by decide +kernel
theorem dX11_district_39 : decode cX11_district 39 = .ok (.aload_n 0, 1) := by decide +kernel
theorem dX11_district_40 : decode cX11_district 40 = .ok (.getfield 25, 3) := by decide +kernel
theorem dX11_district_43 : decode cX11_district 43 = .ok (.iload_n 1, 1) := by decide +kernel
theorem dX11_district_44 : decode cX11_district 44 = .ok (.iload_n 2, 1) := by decide +kernel
theorem dX11_district_45 : decode cX11_district 45 = .ok (.invokevirtual 182, 3) := by decide +kernel
theorem dX11_district_48 : decode cX11_district 48 = .ok (.ireturn, 1) := by decide +kernel
theorem dX11_carried_0 : decode cX11_carried 0 = .ok (.aload_n 0, 1) := by decide +kernel
theorem dX11_carried_1 : decode cX11_carried 1 = .ok (.getfield 25, 3) := by decide +kernel
theorem dX11_carried_4 : decode cX11_carried 4 = .ok (.iload_n 1, 1) := by decide +kernel
theorem dX11_carried_5 : decode cX11_carried 5 = .ok (.invokevirtual 185, 3) := by decide +kernel
theorem dX11_carried_8 : decode cX11_carried 8 = .ok (.ifCond .ne 5, 3) := by decide +kernel
theorem dX11_carried_11 : decode cX11_carried 11 = .ok (.iconst (-1), 1) := by decide +kernel
theorem dX11_carried_12 : decode cX11_carried 12 = .ok (.ireturn, 1) := by decide +kernel
theorem dX11_carried_13 : decode cX11_carried 13 = .ok (.iload_n 2, 1) := by decide +kernel
theorem dX11_carried_14 : decode cX11_carried 14 = .ok (.aload_n 0, 1) := by decide +kernel
theorem dX11_carried_15 : decode cX11_carried 15 = .ok (.getfield 99, 3) := by decide +kernel
theorem dX11_carried_18 : decode cX11_carried 18 = .ok (.sipush 3999, 3) := by decide +kernel
theorem dX11_carried_21 : decode cX11_carried 21 = .ok (.invokestatic 95, 3) := by decide +kernel
theorem dX11_carried_24 : decode cX11_carried 24 = .ok (.ifCond .ne 6, 3) := by decide +kernel
theorem dX11_carried_27 : decode cX11_carried 27 = .ok (.bipush (-2), 2) := by decide +kernel
theorem dX11_carried_29 : decode cX11_carried 29 = .ok (.ireturn, 1) := by decide +kernel
theorem dX11_carried_30 : decode cX11_carried 30 = .ok (.aload_n 0, 1) := by decide +kernel
theorem dX11_carried_31 : decode cX11_carried 31 = .ok (.getfield 25, 3) := by decide +kernel
theorem dX11_carried_34 : decode cX11_carried 34 = .ok (.getfield 186, 3) := by decide +kernel
theorem dX11_carried_37 : decode cX11_carried 37 = .ok (.iload_n 1, 1) := by decide +kernel
theorem dX11_carried_38 : decode cX11_carried 38 = .ok (.iaload, 1) := by decide +kernel
theorem dX11_carried_39 : decode cX11_carried 39 = .ok (.ifCond .lt 6, 3) := by decide +kernel
theorem dX11_carried_42 : decode cX11_carried 42 = .ok (.bipush (-3), 2) := by decide +kernel
theorem dX11_carried_44 : decode cX11_carried 44 = .ok (.ireturn, 1) := by decide +kernel
theorem dX11_carried_45 : decode cX11_carried 45 = .ok (.aload_n 0, 1) := by decide +kernel
theorem dX11_carried_46 : decode cX11_carried 46 = .ok (.getfield 25, 3) := by decide +kernel
theorem dX11_carried_49 : decode cX11_carried 49 = .ok (.getfield 186, 3) := by decide +kernel
theorem dX11_carried_52 : decode cX11_carried 52 = .ok (.iload_n 1, 1) := by decide +kernel
theorem dX11_carried_53 : decode cX11_carried 53 = .ok (.iload_n 2, 1) := by decide +kernel
theorem dX11_carried_54 : decode cX11_carried 54 = .ok (.iastore, 1) := by decide +kernel
theorem dX11_carried_55 : decode cX11_carried 55 = .ok (.iconst 1, 1) := by decide +kernel
theorem dX11_carried_56 : decode cX11_carried 56 = .ok (.ireturn, 1) := by decide +kernel
theorem dX11_law_0 : decode cX11_law 0 = .ok (.aload_n 0, 1) := by decide +kernel
theorem dX11_law_1 : decode cX11_law 1 = .ok (.getfield 25, 3) := by decide +kernel
theorem dX11_law_4 : decode cX11_law 4 = .ok (.iload_n 1, 1) := by decide +kernel
theorem dX11_law_5 : decode cX11_law 5 = .ok (.invokevirtual 185, 3) := by decide +kernel
theorem dX11_law_8 : decode cX11_law 8 = .ok (.ifCond .eq 25, 3) := by decide +kernel
theorem dX11_law_11 : decode cX11_law 11 = .ok (.iload_n 2, 1) := by decide +kernel
theorem dX11_law_12 : decode cX11_law 12 = .ok (.invokestatic 166, 3) := by decide +kernel
theorem dX11_law_15 : decode cX11_law 15 = .ok (.ifCond .eq 18, 3) := by decide +kernel
theorem dX11_law_18 : decode cX11_law 18 = .ok (.iload_n 3, 1) := by decide +kernel
theorem dX11_law_19 : decode cX11_law 19 = .ok (.ifCond .lt 14, 3) := by decide +kernel
theorem dX11_law_22 : decode cX11_law 22 = .ok (.iload_n 3, 1) := by decide +kernel
theorem dX11_law_23 : decode cX11_law 23 = .ok (.iload 4, 2) := by decide +kernel
theorem dX11_law_25 : decode cX11_law 25 = .ok (.if_icmp .gt 8, 3) := by decide +kernel
theorem dX11_law_28 : decode cX11_law 28 = .ok (.iload 5, 2) := by decide +kernel
theorem dX11_law_30 : decode cX11_law 30 = .ok (.ifCond .ge 6, 3) := by decide +kernel
theorem dX11_law_33 : decode cX11_law 33 = .ok (.bipush (-5), 2) := by decide +kernel
theorem dX11_law_35 : decode cX11_law 35 = .ok (.ireturn, 1) := by decide +kernel
theorem dX11_law_36 : decode cX11_law 36 = .ok (.aload_n 0, 1) := by decide +kernel
theorem dX11_law_37 : decode cX11_law 37 = .ok (.getfield 25, 3) := by decide +kernel
theorem dX11_law_40 : decode cX11_law 40 = .ok (.iload_n 1, 1) := by decide +kernel
theorem dX11_law_41 : decode cX11_law 41 = .ok (.iload_n 2, 1) := by decide +kernel
theorem dX11_law_42 : decode cX11_law 42 = .ok (.iload_n 3, 1) := by decide +kernel
theorem dX11_law_43 : decode cX11_law 43 = .ok (.iload 4, 2) := by decide +kernel
theorem dX11_law_45 : decode cX11_law 45 = .ok (.iload 5, 2) := by decide +kernel
theorem dX11_law_47 : decode cX11_law 47 = .ok (.invokevirtual 189, 3) := by decide +kernel
theorem dX11_law_50 : decode cX11_law 50 = .ok (.ireturn, 1) := by decide +kernel
theorem dX11_deed_0 : decode cX11_deed 0 = .ok (.aload_n 0, 1) := by decide +kernel
theorem dX11_deed_1 : decode cX11_deed 1 = .ok (.getfield 25, 3) := by decide +kernel
theorem dX11_deed_4 : decode cX11_deed 4 = .ok (.iload_n 1, 1) := by decide +kernel
theorem dX11_deed_5 : decode cX11_deed 5 = .ok (.invokevirtual 185, 3) := by decide +kernel
theorem dX11_deed_8 : decode cX11_deed 8 = .ok (.ifCond .ne 5, 3) := by decide +kernel
theorem dX11_deed_11 : decode cX11_deed 11 = .ok (.iconst (-1), 1) := by decide +kernel
theorem dX11_deed_12 : decode cX11_deed 12 = .ok (.ireturn, 1) := by decide +kernel
theorem dX11_deed_13 : decode cX11_deed 13 = .ok (.iload_n 2, 1) := by decide +kernel
theorem dX11_deed_14 : decode cX11_deed 14 = .ok (.invokestatic 166, 3) := by decide +kernel
theorem dX11_deed_17 : decode cX11_deed 17 = .ok (.ifCond .ne 6, 3) := by decide +kernel
theorem dX11_deed_20 : decode cX11_deed 20 = .ok (.bipush (-2), 2) := by decide +kernel
theorem dX11_deed_22 : decode cX11_deed 22 = .ok (.ireturn, 1) := by decide +kernel
theorem dX11_deed_23 : decode cX11_deed 23 = .ok (.aload_n 0, 1) := by decide +kernel
theorem dX11_deed_24 : decode cX11_deed 24 = .ok (.getfield 25, 3) := by decide +kernel
theorem dX11_deed_27 : decode cX11_deed 27 = .ok (.invokevirtual 192, 3) := by decide +kernel
theorem dX11_deed_30 : decode cX11_deed 30 = .ok (.ifCond .eq 8, 3) := by decide +kernel
theorem dX11_deed_33 : decode cX11_deed 33 = .ok (.bipush (-4), 2) := by decide +kernel
theorem dX11_deed_35 : decode cX11_deed 35 = .ok (.goto 16, 3) := by decide +kernel
theorem dX11_deed_38 : decode cX11_deed 38 = .ok (.aload_n 0, 1) := by decide +kernel
theorem dX11_deed_39 : decode cX11_deed 39 = .ok (.getfield 25, 3) := by decide +kernel
theorem dX11_deed_42 : decode cX11_deed 42 = .ok (.iload_n 1, 1) := by decide +kernel
theorem dX11_deed_43 : decode cX11_deed 43 = .ok (.iload_n 2, 1) := by decide +kernel
theorem dX11_deed_44 : decode cX11_deed 44 = .ok (.aload_n 0, 1) := by decide +kernel
theorem dX11_deed_45 : decode cX11_deed 45 = .ok (.getfield 99, 3) := by decide +kernel
theorem dX11_deed_48 : decode cX11_deed 48 = .ok (.invokevirtual 195, 3) := by decide +kernel
theorem dX11_deed_51 : decode cX11_deed 51 = .ok (.ireturn, 1) := by decide +kernel
theorem dX11_deedEnd_0 : decode cX11_deedEnd 0 = .ok (.aload_n 0, 1) := by decide +kernel
theorem dX11_deedEnd_1 : decode cX11_deedEnd 1 = .ok (.getfield 25, 3) := by decide +kernel
theorem dX11_deedEnd_4 : decode cX11_deedEnd 4 = .ok (.iload_n 1, 1) := by decide +kernel
theorem dX11_deedEnd_5 : decode cX11_deedEnd 5 = .ok (.invokevirtual 199, 3) := by decide +kernel
theorem dX11_deedEnd_8 : decode cX11_deedEnd 8 = .ok (.ifCond .eq 20, 3) := by decide +kernel
theorem dX11_deedEnd_11 : decode cX11_deedEnd 11 = .ok (.iload_n 2, 1) := by decide +kernel
theorem dX11_deedEnd_12 : decode cX11_deedEnd 12 = .ok (.aload_n 0, 1) := by decide +kernel
theorem dX11_deedEnd_13 : decode cX11_deedEnd 13 = .ok (.getfield 25, 3) := by decide +kernel
theorem dX11_deedEnd_16 : decode cX11_deedEnd 16 = .ok (.getfield 202, 3) := by decide +kernel
theorem dX11_deedEnd_19 : decode cX11_deedEnd 19 = .ok (.iload_n 1, 1) := by decide +kernel
theorem dX11_deedEnd_20 : decode cX11_deedEnd 20 = .ok (.iaload, 1) := by decide +kernel
theorem dX11_deedEnd_21 : decode cX11_deedEnd 21 = .ok (.if_icmp .lt 7, 3) := by decide +kernel
theorem dX11_deedEnd_24 : decode cX11_deedEnd 24 = .ok (.iload_n 3, 1) := by decide +kernel
theorem dX11_deedEnd_25 : decode cX11_deedEnd 25 = .ok (.ifCond .ge 6, 3) := by decide +kernel
theorem dX11_deedEnd_28 : decode cX11_deedEnd 28 = .ok (.bipush (-5), 2) := by decide +kernel
theorem dX11_deedEnd_30 : decode cX11_deedEnd 30 = .ok (.ireturn, 1) := by decide +kernel
theorem dX11_deedEnd_31 : decode cX11_deedEnd 31 = .ok (.aload_n 0, 1) := by decide +kernel
theorem dX11_deedEnd_32 : decode cX11_deedEnd 32 = .ok (.getfield 25, 3) := by decide +kernel
theorem dX11_deedEnd_35 : decode cX11_deedEnd 35 = .ok (.getfield 205, 3) := by decide +kernel
theorem dX11_deedEnd_38 : decode cX11_deedEnd 38 = .ok (.iload_n 1, 1) := by decide +kernel
theorem dX11_deedEnd_39 : decode cX11_deedEnd 39 = .ok (.iaload, 1) := by decide +kernel
theorem dX11_deedEnd_40 : decode cX11_deedEnd 40 = .ok (.istore 4, 2) := by decide +kernel
theorem dX11_deedEnd_42 : decode cX11_deedEnd 42 = .ok (.aload_n 0, 1) := by decide +kernel
theorem dX11_deedEnd_43 : decode cX11_deedEnd 43 = .ok (.getfield 25, 3) := by decide +kernel
theorem dX11_deedEnd_46 : decode cX11_deedEnd 46 = .ok (.iload 4, 2) := by decide +kernel
theorem dX11_deedEnd_48 : decode cX11_deedEnd 48 = .ok (.aload_n 0, 1) := by decide +kernel
theorem dX11_deedEnd_49 : decode cX11_deedEnd 49 = .ok (.getfield 25, 3) := by decide +kernel
theorem dX11_deedEnd_52 : decode cX11_deedEnd 52 = .ok (.getfield 208, 3) := by decide +kernel
theorem dX11_deedEnd_55 : decode cX11_deedEnd 55 = .ok (.iload_n 1, 1) := by decide +kernel
theorem dX11_deedEnd_56 : decode cX11_deedEnd 56 = .ok (.iaload, 1) := by decide +kernel
theorem dX11_deedEnd_57 : decode cX11_deedEnd 57 = .ok (.aload_n 0, 1) := by decide +kernel
theorem dX11_deedEnd_58 : decode cX11_deedEnd 58 = .ok (.getfield 25, 3) := by decide +kernel
theorem dX11_deedEnd_61 : decode cX11_deedEnd 61 = .ok (.getfield 202, 3) := by decide +kernel
theorem dX11_deedEnd_64 : decode cX11_deedEnd 64 = .ok (.iload_n 1, 1) := by decide +kernel
theorem dX11_deedEnd_65 : decode cX11_deedEnd 65 = .ok (.iaload, 1) := by decide +kernel
theorem dX11_deedEnd_66 : decode cX11_deedEnd 66 = .ok (.iload_n 2, 1) := by decide +kernel
theorem dX11_deedEnd_67 : decode cX11_deedEnd 67 = .ok (.iload_n 3, 1) := by decide +kernel
theorem dX11_deedEnd_68 : decode cX11_deedEnd 68 = .ok (.invokevirtual 189, 3) := by decide +kernel
theorem dX11_deedEnd_71 : decode cX11_deedEnd 71 = .ok (.ireturn, 1) := by decide +kernel
theorem dX11_lost_0 : decode cX11_lost 0 = .ok (.iload_n 1, 1) := by decide +kernel
theorem dX11_lost_1 : decode cX11_lost 1 = .ok (.iconst (-1), 1) := by decide +kernel
theorem dX11_lost_2 : decode cX11_lost 2 = .ok (.if_icmp .eq 14, 3) := by decide +kernel
theorem dX11_lost_5 : decode cX11_lost 5 = .ok (.aload_n 0, 1) := by decide +kernel
theorem dX11_lost_6 : decode cX11_lost 6 = .ok (.getfield 25, 3) := by decide +kernel
theorem dX11_lost_9 : decode cX11_lost 9 = .ok (.iload_n 1, 1) := by decide +kernel
theorem dX11_lost_10 : decode cX11_lost 10 = .ok (.invokevirtual 185, 3) := by decide +kernel
theorem dX11_lost_13 : decode cX11_lost 13 = .ok (.ifCond .eq 12, 3) := by decide +kernel
theorem dX11_lost_16 : decode cX11_lost 16 = .ok (.iload_n 2, 1) := by decide +kernel
theorem dX11_lost_17 : decode cX11_lost 17 = .ok (.iconst 0, 1) := by decide +kernel
theorem dX11_lost_18 : decode cX11_lost 18 = .ok (.iconst 1, 1) := by decide +kernel
theorem dX11_lost_19 : decode cX11_lost 19 = .ok (.invokestatic 95, 3) := by decide +kernel
theorem dX11_lost_22 : decode cX11_lost 22 = .ok (.ifCond .ne 6, 3) := by decide +kernel
theorem dX11_lost_25 : decode cX11_lost 25 = .ok (.bipush (-5), 2) := by decide +kernel
theorem dX11_lost_27 : decode cX11_lost 27 = .ok (.ireturn, 1) := by decide +kernel
theorem dX11_lost_28 : decode cX11_lost 28 = .ok (.iconst 0, 1) := by decide +kernel
theorem dX11_lost_29 : decode cX11_lost 29 = .ok (.istore_n 3, 1) := by decide +kernel
theorem dX11_lost_30 : decode cX11_lost 30 = .ok (.iconst (-1), 1) := by decide +kernel
theorem dX11_lost_31 : decode cX11_lost 31 = .ok (.istore 4, 2) := by decide +kernel
theorem dX11_lost_33 : decode cX11_lost 33 = .ok (.aload_n 0, 1) := by decide +kernel
theorem dX11_lost_34 : decode cX11_lost 34 = .ok (.getfield 25, 3) := by decide +kernel
theorem dX11_lost_37 : decode cX11_lost 37 = .ok (.getfield 211, 3) := by decide +kernel
theorem dX11_lost_40 : decode cX11_lost 40 = .ok (.iconst 1, 1) := by decide +kernel
theorem dX11_lost_41 : decode cX11_lost 41 = .ok (.isub, 1) := by decide +kernel
theorem dX11_lost_42 : decode cX11_lost 42 = .ok (.istore 5, 2) := by decide +kernel
theorem dX11_lost_44 : decode cX11_lost 44 = .ok (.iload 5, 2) := by decide +kernel
theorem dX11_lost_46 : decode cX11_lost 46 = .ok (.ifCond .lt 63, 3) := by decide +kernel
theorem dX11_lost_49 : decode cX11_lost 49 = .ok (.iload_n 1, 1) := by decide +kernel
theorem dX11_lost_50 : decode cX11_lost 50 = .ok (.iconst (-1), 1) := by decide +kernel
theorem dX11_lost_51 : decode cX11_lost 51 = .ok (.if_icmp .eq 17, 3) := by decide +kernel
theorem dX11_lost_54 : decode cX11_lost 54 = .ok (.aload_n 0, 1) := by decide +kernel
theorem dX11_lost_55 : decode cX11_lost 55 = .ok (.getfield 25, 3) := by decide +kernel
theorem dX11_lost_58 : decode cX11_lost 58 = .ok (.getfield 205, 3) := by decide +kernel
theorem dX11_lost_61 : decode cX11_lost 61 = .ok (.iload 5, 2) := by decide +kernel
theorem dX11_lost_63 : decode cX11_lost 63 = .ok (.iaload, 1) := by decide +kernel
theorem dX11_lost_64 : decode cX11_lost 64 = .ok (.iload_n 1, 1) := by decide +kernel
theorem dX11_lost_65 : decode cX11_lost 65 = .ok (.if_icmp .ne 7, 3) := by decide +kernel
theorem dX11_lost_68 : decode cX11_lost 68 = .ok (.iconst 1, 1) := by decide +kernel
theorem dX11_lost_69 : decode cX11_lost 69 = .ok (.goto 4, 3) := by decide +kernel
theorem dX11_lost_72 : decode cX11_lost 72 = .ok (.iconst 0, 1) := by decide +kernel
theorem dX11_lost_73 : decode cX11_lost 73 = .ok (.istore 6, 2) := by decide +kernel
theorem dX11_lost_75 : decode cX11_lost 75 = .ok (.iload 6, 2) := by decide +kernel
theorem dX11_lost_77 : decode cX11_lost 77 = .ok (.ifCond .eq 26, 3) := by decide +kernel
theorem dX11_lost_80 : decode cX11_lost 80 = .ok (.aload_n 0, 1) := by decide +kernel
theorem dX11_lost_81 : decode cX11_lost 81 = .ok (.getfield 25, 3) := by decide +kernel
theorem dX11_lost_84 : decode cX11_lost 84 = .ok (.iload 5, 2) := by decide +kernel
theorem dX11_lost_86 : decode cX11_lost 86 = .ok (.aload_n 0, 1) := by decide +kernel
theorem dX11_lost_87 : decode cX11_lost 87 = .ok (.getfield 99, 3) := by decide +kernel
theorem dX11_lost_90 : decode cX11_lost 90 = .ok (.invokevirtual 214, 3) := by decide +kernel
theorem dX11_lost_93 : decode cX11_lost 93 = .ok (.ifCond .eq 10, 3) := by decide +kernel
theorem dX11_lost_96 : decode cX11_lost 96 = .ok (.iinc 3 1, 3) := by decide +kernel
theorem dX11_lost_99 : decode cX11_lost 99 = .ok (.iload 5, 2) := by decide +kernel
theorem dX11_lost_101 : decode cX11_lost 101 = .ok (.istore 4, 2) := by decide +kernel
theorem dX11_lost_103 : decode cX11_lost 103 = .ok (.iinc 5 (-1), 3) := by decide +kernel
theorem dX11_lost_106 : decode cX11_lost 106 = .ok (.goto (-62), 3) := by decide +kernel
theorem dX11_lost_109 : decode cX11_lost 109 = .ok (.iload_n 2, 1) := by decide +kernel
theorem dX11_lost_110 : decode cX11_lost 110 = .ok (.ifCond .ne 7, 3) := by decide +kernel
theorem dX11_lost_113 : decode cX11_lost 113 = .ok (.iload_n 3, 1) := by decide +kernel
theorem dX11_lost_114 : decode cX11_lost 114 = .ok (.goto 5, 3) := by decide +kernel
theorem dX11_lost_117 : decode cX11_lost 117 = .ok (.iload 4, 2) := by decide +kernel
theorem dX11_lost_119 : decode cX11_lost 119 = .ok (.ireturn, 1) := by decide +kernel
theorem dX11_courts_0 : decode cX11_courts 0 = .ok (.iload_n 1, 1) := by decide +kernel
theorem dX11_courts_1 : decode cX11_courts 1 = .ok (.iconst 0, 1) := by decide +kernel
theorem dX11_courts_2 : decode cX11_courts 2 = .ok (.iconst 2, 1) := by decide +kernel
theorem dX11_courts_3 : decode cX11_courts 3 = .ok (.invokestatic 95, 3) := by decide +kernel
theorem dX11_courts_6 : decode cX11_courts 6 = .ok (.ifCond .ne 6, 3) := by decide +kernel
theorem dX11_courts_9 : decode cX11_courts 9 = .ok (.bipush (-2), 2) := by decide +kernel
theorem dX11_courts_11 : decode cX11_courts 11 = .ok (.ireturn, 1) := by decide +kernel
theorem dX11_courts_12 : decode cX11_courts 12 = .ok (.aload_n 0, 1) := by decide +kernel
theorem dX11_courts_13 : decode cX11_courts 13 = .ok (.getfield 91, 3) := by decide +kernel
theorem dX11_courts_16 : decode cX11_courts 16 = .ok (.istore_n 2, 1) := by decide +kernel
theorem dX11_courts_17 : decode cX11_courts 17 = .ok (.aload_n 0, 1) := by decide +kernel
theorem dX11_courts_18 : decode cX11_courts 18 = .ok (.iload_n 1, 1) := by decide +kernel
theorem dX11_courts_19 : decode cX11_courts 19 = .ok (.putfield 91, 3) := by decide +kernel
theorem dX11_courts_22 : decode cX11_courts 22 = .ok (.iload_n 2, 1) := by decide +kernel
theorem dX11_courts_23 : decode cX11_courts 23 = .ok (.ireturn, 1) := by decide +kernel
theorem dX11_court_0 : decode cX11_court 0 = .ok (.aload_n 0, 1) := by decide +kernel
theorem dX11_court_1 : decode cX11_court 1 = .ok (.getfield 25, 3) := by decide +kernel
theorem dX11_court_4 : decode cX11_court 4 = .ok (.iload_n 1, 1) := by decide +kernel
theorem dX11_court_5 : decode cX11_court 5 = .ok (.invokevirtual 185, 3) := by decide +kernel
theorem dX11_court_8 : decode cX11_court 8 = .ok (.ifCond .eq 34, 3) := by decide +kernel
theorem dX11_court_11 : decode cX11_court 11 = .ok (.aload_n 0, 1) := by decide +kernel
theorem dX11_court_12 : decode cX11_court 12 = .ok (.getfield 25, 3) := by decide +kernel
theorem dX11_court_15 : decode cX11_court 15 = .ok (.iload_n 2, 1) := by decide +kernel
theorem dX11_court_16 : decode cX11_court 16 = .ok (.invokevirtual 185, 3) := by decide +kernel
theorem dX11_court_19 : decode cX11_court 19 = .ok (.ifCond .eq 23, 3) := by decide +kernel
theorem dX11_court_22 : decode cX11_court 22 = .ok (.iload_n 3, 1) := by decide +kernel
theorem dX11_court_23 : decode cX11_court 23 = .ok (.invokestatic 166, 3) := by decide +kernel
theorem dX11_court_26 : decode cX11_court 26 = .ok (.ifCond .eq 16, 3) := by decide +kernel
theorem dX11_court_29 : decode cX11_court 29 = .ok (.iload 4, 2) := by decide +kernel
theorem dX11_court_31 : decode cX11_court 31 = .ok (.iconst 0, 1) := by decide +kernel
theorem dX11_court_32 : decode cX11_court 32 = .ok (.aload_n 0, 1) := by decide +kernel
theorem dX11_court_33 : decode cX11_court 33 = .ok (.getfield 99, 3) := by decide +kernel
theorem dX11_court_36 : decode cX11_court 36 = .ok (.invokestatic 95, 3) := by decide +kernel
theorem dX11_court_39 : decode cX11_court 39 = .ok (.ifCond .ne 6, 3) := by decide +kernel
theorem dX11_court_42 : decode cX11_court 42 = .ok (.bipush (-5), 2) := by decide +kernel
theorem dX11_court_44 : decode cX11_court 44 = .ok (.ireturn, 1) := by decide +kernel
theorem dX11_court_45 : decode cX11_court 45 = .ok (.aload_n 0, 1) := by decide +kernel
theorem dX11_court_46 : decode cX11_court 46 = .ok (.getfield 25, 3) := by decide +kernel
theorem dX11_court_49 : decode cX11_court 49 = .ok (.iload_n 1, 1) := by decide +kernel
theorem dX11_court_50 : decode cX11_court 50 = .ok (.iload_n 3, 1) := by decide +kernel
theorem dX11_court_51 : decode cX11_court 51 = .ok (.iload 4, 2) := by decide +kernel
theorem dX11_court_53 : decode cX11_court 53 = .ok (.aload_n 0, 1) := by decide +kernel
theorem dX11_court_54 : decode cX11_court 54 = .ok (.getfield 99, 3) := by decide +kernel
theorem dX11_court_57 : decode cX11_court 57 = .ok (.aload_n 0, 1) := by decide +kernel
theorem dX11_court_58 : decode cX11_court 58 = .ok (.getfield 99, 3) := by decide +kernel
theorem dX11_court_61 : decode cX11_court 61 = .ok (.invokevirtual 189, 3) := by decide +kernel
theorem dX11_court_64 : decode cX11_court 64 = .ok (.istore 5, 2) := by decide +kernel
theorem dX11_court_66 : decode cX11_court 66 = .ok (.aload_n 0, 1) := by decide +kernel
theorem dX11_court_67 : decode cX11_court 67 = .ok (.getfield 25, 3) := by decide +kernel
theorem dX11_court_70 : decode cX11_court 70 = .ok (.iload_n 2, 1) := by decide +kernel
theorem dX11_court_71 : decode cX11_court 71 = .ok (.iload_n 3, 1) := by decide +kernel
theorem dX11_court_72 : decode cX11_court 72 = .ok (.iload 4, 2) := by decide +kernel
theorem dX11_court_74 : decode cX11_court 74 = .ok (.aload_n 0, 1) := by decide +kernel
theorem dX11_court_75 : decode cX11_court 75 = .ok (.getfield 99, 3) := by decide +kernel
theorem dX11_court_78 : decode cX11_court 78 = .ok (.aload_n 0, 1) := by decide +kernel
theorem dX11_court_79 : decode cX11_court 79 = .ok (.getfield 99, 3) := by decide +kernel
theorem dX11_court_82 : decode cX11_court 82 = .ok (.invokevirtual 189, 3) := by decide +kernel
theorem dX11_court_85 : decode cX11_court 85 = .ok (.istore 6, 2) := by decide +kernel
theorem dX11_court_87 : decode cX11_court 87 = .ok (.iload 5, 2) := by decide +kernel
theorem dX11_court_89 : decode cX11_court 89 = .ok (.iload 6, 2) := by decide +kernel
theorem dX11_court_91 : decode cX11_court 91 = .ok (.if_icmp .eq 10, 3) := by decide +kernel
theorem dX11_court_94 : decode cX11_court 94 = .ok (.aload_n 0, 1) := by decide +kernel
theorem dX11_court_95 : decode cX11_court 95 = .ok (.getfield 91, 3) := by decide +kernel
theorem dX11_court_98 : decode cX11_court 98 = .ok (.ifCond .ne 6, 3) := by decide +kernel
theorem dX11_court_101 : decode cX11_court 101 = .ok (.iload 5, 2) := by decide +kernel
theorem dX11_court_103 : decode cX11_court 103 = .ok (.ireturn, 1) := by decide +kernel
theorem dX11_court_104 : decode cX11_court 104 = .ok (.aload_n 0, 1) := by decide +kernel
theorem dX11_court_105 : decode cX11_court 105 = .ok (.getfield 91, 3) := by decide +kernel
theorem dX11_court_108 : decode cX11_court 108 = .ok (.iconst 1, 1) := by decide +kernel
theorem dX11_court_109 : decode cX11_court 109 = .ok (.if_icmp .ne 8, 3) := by decide +kernel
theorem dX11_court_112 : decode cX11_court 112 = .ok (.iload 6, 2) := by decide +kernel
theorem dX11_court_114 : decode cX11_court 114 = .ok (.goto 5, 3) := by decide +kernel
theorem dX11_court_117 : decode cX11_court 117 = .ok (.bipush (-4), 2) := by decide +kernel
theorem dX11_court_119 : decode cX11_court 119 = .ok (.ireturn, 1) := by decide +kernel
theorem dX11_unlike_0 : decode cX11_unlike 0 = .ok (.iload_n 1, 1) := by decide +kernel
theorem dX11_unlike_1 : decode cX11_unlike 1 = .ok (.iconst 0, 1) := by decide +kernel
theorem dX11_unlike_2 : decode cX11_unlike 2 = .ok (.iconst 5, 1) := by decide +kernel
theorem dX11_unlike_3 : decode cX11_unlike 3 = .ok (.invokestatic 95, 3) := by decide +kernel
theorem dX11_unlike_6 : decode cX11_unlike 6 = .ok (.ifCond .eq 21, 3) := by decide +kernel
theorem dX11_unlike_9 : decode cX11_unlike 9 = .ok (.iload_n 2, 1) := by decide +kernel
theorem dX11_unlike_10 : decode cX11_unlike 10 = .ok (.iconst 0, 1) := by decide +kernel
theorem dX11_unlike_11 : decode cX11_unlike 11 = .ok (.iconst 5, 1) := by decide +kernel
theorem dX11_unlike_12 : decode cX11_unlike 12 = .ok (.invokestatic 95, 3) := by decide +kernel
theorem dX11_unlike_15 : decode cX11_unlike 15 = .ok (.ifCond .eq 12, 3) := by decide +kernel
theorem dX11_unlike_18 : decode cX11_unlike 18 = .ok (.iload_n 3, 1) := by decide +kernel
theorem dX11_unlike_19 : decode cX11_unlike 19 = .ok (.iconst 0, 1) := by decide +kernel
theorem dX11_unlike_20 : decode cX11_unlike 20 = .ok (.iconst 2, 1) := by decide +kernel
theorem dX11_unlike_21 : decode cX11_unlike 21 = .ok (.invokestatic 95, 3) := by decide +kernel
theorem dX11_unlike_24 : decode cX11_unlike 24 = .ok (.ifCond .ne 6, 3) := by decide +kernel
theorem dX11_unlike_27 : decode cX11_unlike 27 = .ok (.bipush (-5), 2) := by decide +kernel
theorem dX11_unlike_29 : decode cX11_unlike 29 = .ok (.ireturn, 1) := by decide +kernel
theorem dX11_unlike_30 : decode cX11_unlike 30 = .ok (.aload_n 0, 1) := by decide +kernel
theorem dX11_unlike_31 : decode cX11_unlike 31 = .ok (.getfield 16, 3) := by decide +kernel
theorem dX11_unlike_34 : decode cX11_unlike 34 = .ok (.aload_n 0, 1) := by decide +kernel
theorem dX11_unlike_35 : decode cX11_unlike 35 = .ok (.getfield 78, 3) := by decide +kernel
theorem dX11_unlike_38 : decode cX11_unlike 38 = .ok (.iload_n 1, 1) := by decide +kernel
theorem dX11_unlike_39 : decode cX11_unlike 39 = .ok (.iload_n 2, 1) := by decide +kernel
theorem dX11_unlike_40 : decode cX11_unlike 40 = .ok (.aload_n 0, 1) := by decide +kernel
theorem dX11_unlike_41 : decode cX11_unlike 41 = .ok (.getfield 99, 3) := by decide +kernel
theorem dX11_unlike_44 : decode cX11_unlike 44 = .ok (.invokevirtual 217, 3) := by decide +kernel
theorem dX11_unlike_47 : decode cX11_unlike 47 = .ok (.aload_n 0, 1) := by decide +kernel
theorem dX11_unlike_48 : decode cX11_unlike 48 = .ok (.getfield 78, 3) := by decide +kernel
theorem dX11_unlike_51 : decode cX11_unlike 51 = .ok (.iload_n 3, 1) := by decide +kernel
theorem dX11_unlike_52 : decode cX11_unlike 52 = .ok (.invokestatic 221, 3) := by decide +kernel
theorem dX11_unlike_55 : decode cX11_unlike 55 = .ok (.ireturn, 1) := by decide +kernel
theorem dX11_wrong_0 : decode cX11_wrong 0 = .ok (.iload_n 1, 1) := by decide +kernel
theorem dX11_wrong_1 : decode cX11_wrong 1 = .ok (.iconst 0, 1) := by decide +kernel
theorem dX11_wrong_2 : decode cX11_wrong 2 = .ok (.iconst 5, 1) := by decide +kernel
theorem dX11_wrong_3 : decode cX11_wrong 3 = .ok (.invokestatic 95, 3) := by decide +kernel
theorem dX11_wrong_6 : decode cX11_wrong 6 = .ok (.ifCond .eq 21, 3) := by decide +kernel
theorem dX11_wrong_9 : decode cX11_wrong 9 = .ok (.iload_n 2, 1) := by decide +kernel
theorem dX11_wrong_10 : decode cX11_wrong 10 = .ok (.iconst 0, 1) := by decide +kernel
theorem dX11_wrong_11 : decode cX11_wrong 11 = .ok (.iconst 1, 1) := by decide +kernel
theorem dX11_wrong_12 : decode cX11_wrong 12 = .ok (.invokestatic 95, 3) := by decide +kernel
theorem dX11_wrong_15 : decode cX11_wrong 15 = .ok (.ifCond .eq 12, 3) := by decide +kernel
theorem dX11_wrong_18 : decode cX11_wrong 18 = .ok (.iload_n 3, 1) := by decide +kernel
theorem dX11_wrong_19 : decode cX11_wrong 19 = .ok (.iconst 0, 1) := by decide +kernel
theorem dX11_wrong_20 : decode cX11_wrong 20 = .ok (.iconst 2, 1) := by decide +kernel
theorem dX11_wrong_21 : decode cX11_wrong 21 = .ok (.invokestatic 95, 3) := by decide +kernel
theorem dX11_wrong_24 : decode cX11_wrong 24 = .ok (.ifCond .ne 6, 3) := by decide +kernel
theorem dX11_wrong_27 : decode cX11_wrong 27 = .ok (.bipush (-5), 2) := by decide +kernel
theorem dX11_wrong_29 : decode cX11_wrong 29 = .ok (.ireturn, 1) := by decide +kernel
theorem dX11_wrong_30 : decode cX11_wrong 30 = .ok (.aload_n 0, 1) := by decide +kernel
theorem dX11_wrong_31 : decode cX11_wrong 31 = .ok (.getfield 16, 3) := by decide +kernel
theorem dX11_wrong_34 : decode cX11_wrong 34 = .ok (.aload_n 0, 1) := by decide +kernel
theorem dX11_wrong_35 : decode cX11_wrong 35 = .ok (.getfield 78, 3) := by decide +kernel
theorem dX11_wrong_38 : decode cX11_wrong 38 = .ok (.iload_n 1, 1) := by decide +kernel
theorem dX11_wrong_39 : decode cX11_wrong 39 = .ok (.iload_n 2, 1) := by decide +kernel
theorem dX11_wrong_40 : decode cX11_wrong 40 = .ok (.ifCond .ne 8, 3) := by decide +kernel
theorem dX11_wrong_43 : decode cX11_wrong 43 = .ok (.bipush (-2), 2) := by decide +kernel
theorem dX11_wrong_45 : decode cX11_wrong 45 = .ok (.goto 5, 3) := by decide +kernel
theorem dX11_wrong_48 : decode cX11_wrong 48 = .ok (.bipush (-3), 2) := by decide +kernel
theorem dX11_wrong_50 : decode cX11_wrong 50 = .ok (.aload_n 0, 1) := by decide +kernel
theorem dX11_wrong_51 : decode cX11_wrong 51 = .ok (.getfield 99, 3) := by decide +kernel
theorem dX11_wrong_54 : decode cX11_wrong 54 = .ok (.invokevirtual 225, 3) := by decide +kernel
theorem dX11_wrong_57 : decode cX11_wrong 57 = .ok (.aload_n 0, 1) := by decide +kernel
theorem dX11_wrong_58 : decode cX11_wrong 58 = .ok (.getfield 78, 3) := by decide +kernel
theorem dX11_wrong_61 : decode cX11_wrong 61 = .ok (.iload_n 3, 1) := by decide +kernel
theorem dX11_wrong_62 : decode cX11_wrong 62 = .ok (.invokestatic 221, 3) := by decide +kernel
theorem dX11_wrong_65 : decode cX11_wrong 65 = .ok (.ireturn, 1) := by decide +kernel
theorem dX11_heard_0 : decode cX11_heard 0 = .ok (.aload_n 0, 1) := by decide +kernel
theorem dX11_heard_1 : decode cX11_heard 1 = .ok (.getfield 25, 3) := by decide +kernel
theorem dX11_heard_4 : decode cX11_heard 4 = .ok (.iload_n 1, 1) := by decide +kernel
theorem dX11_heard_5 : decode cX11_heard 5 = .ok (.invokevirtual 185, 3) := by decide +kernel
theorem dX11_heard_8 : decode cX11_heard 8 = .ok (.ifCond .ne 5, 3) := by decide +kernel
theorem dX11_heard_11 : decode cX11_heard 11 = .ok (.iconst (-1), 1) := by decide +kernel
theorem dX11_heard_12 : decode cX11_heard 12 = .ok (.ireturn, 1) := by decide +kernel
theorem dX11_heard_13 : decode cX11_heard 13 = .ok (.iload_n 2, 1) := by decide +kernel
theorem dX11_heard_14 : decode cX11_heard 14 = .ok (.invokestatic 166, 3) := by decide +kernel
theorem dX11_heard_17 : decode cX11_heard 17 = .ok (.ifCond .eq 10, 3) := by decide +kernel
theorem dX11_heard_20 : decode cX11_heard 20 = .ok (.iload_n 3, 1) := by decide +kernel
theorem dX11_heard_21 : decode cX11_heard 21 = .ok (.invokestatic 228, 3) := by decide +kernel
theorem dX11_heard_24 : decode cX11_heard 24 = .ok (.ifCond .ne 6, 3) := by decide +kernel
theorem dX11_heard_27 : decode cX11_heard 27 = .ok (.bipush (-2), 2) := by decide +kernel
theorem dX11_heard_29 : decode cX11_heard 29 = .ok (.ireturn, 1) := by decide +kernel
theorem dX11_heard_30 : decode cX11_heard 30 = .ok (.aload_n 0, 1) := by decide +kernel
theorem dX11_heard_31 : decode cX11_heard 31 = .ok (.getfield 32, 3) := by decide +kernel
theorem dX11_heard_34 : decode cX11_heard 34 = .ok (.invokevirtual 231, 3) := by decide +kernel
theorem dX11_heard_37 : decode cX11_heard 37 = .ok (.ifCond .eq 8, 3) := by decide +kernel
theorem dX11_heard_40 : decode cX11_heard 40 = .ok (.bipush (-4), 2) := by decide +kernel
theorem dX11_heard_42 : decode cX11_heard 42 = .ok (.goto 13, 3) := by decide +kernel
theorem dX11_heard_45 : decode cX11_heard 45 = .ok (.aload_n 0, 1) := by decide +kernel
theorem dX11_heard_46 : decode cX11_heard 46 = .ok (.getfield 32, 3) := by decide +kernel
theorem dX11_heard_49 : decode cX11_heard 49 = .ok (.iload_n 1, 1) := by decide +kernel
theorem dX11_heard_50 : decode cX11_heard 50 = .ok (.iload_n 2, 1) := by decide +kernel
theorem dX11_heard_51 : decode cX11_heard 51 = .ok (.iload_n 3, 1) := by decide +kernel
theorem dX11_heard_52 : decode cX11_heard 52 = .ok (.invokevirtual 232, 3) := by decide +kernel
theorem dX11_heard_55 : decode cX11_heard 55 = .ok (.ireturn, 1) := by decide +kernel
theorem dX11_read_0 : decode cX11_read 0 = .ok (.aload_n 0, 1) := by decide +kernel
theorem dX11_read_1 : decode cX11_read 1 = .ok (.getfield 25, 3) := by decide +kernel
theorem dX11_read_4 : decode cX11_read 4 = .ok (.iload_n 1, 1) := by decide +kernel
theorem dX11_read_5 : decode cX11_read 5 = .ok (.invokevirtual 185, 3) := by decide +kernel
theorem dX11_read_8 : decode cX11_read 8 = .ok (.ifCond .eq 25, 3) := by decide +kernel
theorem dX11_read_11 : decode cX11_read 11 = .ok (.aload_n 0, 1) := by decide +kernel
theorem dX11_read_12 : decode cX11_read 12 = .ok (.getfield 71, 3) := by decide +kernel
theorem dX11_read_15 : decode cX11_read 15 = .ok (.iload_n 2, 1) := by decide +kernel
theorem dX11_read_16 : decode cX11_read 16 = .ok (.invokevirtual 234, 3) := by decide +kernel
theorem dX11_read_19 : decode cX11_read 19 = .ok (.ifCond .eq 14, 3) := by decide +kernel
theorem dX11_read_22 : decode cX11_read 22 = .ok (.aload_n 0, 1) := by decide +kernel
theorem dX11_read_23 : decode cX11_read 23 = .ok (.getfield 71, 3) := by decide +kernel
theorem dX11_read_26 : decode cX11_read 26 = .ok (.iload_n 3, 1) := by decide +kernel
theorem dX11_read_27 : decode cX11_read 27 = .ok (.invokevirtual 235, 3) := by decide +kernel
theorem dX11_read_30 : decode cX11_read 30 = .ok (.ifCond .ne 5, 3) := by decide +kernel
theorem dX11_read_33 : decode cX11_read 33 = .ok (.iconst (-1), 1) := by decide +kernel
theorem dX11_read_34 : decode cX11_read 34 = .ok (.ireturn, 1) := by decide +kernel
theorem dX11_read_35 : decode cX11_read 35 = .ok (.aload_n 0, 1) := by decide +kernel
theorem dX11_read_36 : decode cX11_read 36 = .ok (.getfield 71, 3) := by decide +kernel
theorem dX11_read_39 : decode cX11_read 39 = .ok (.iload_n 2, 1) := by decide +kernel
theorem dX11_read_40 : decode cX11_read 40 = .ok (.invokevirtual 236, 3) := by decide +kernel
theorem dX11_read_43 : decode cX11_read 43 = .ok (.ifCond .eq 6, 3) := by decide +kernel
theorem dX11_read_46 : decode cX11_read 46 = .ok (.bipush (-11), 2) := by decide +kernel
theorem dX11_read_48 : decode cX11_read 48 = .ok (.ireturn, 1) := by decide +kernel
theorem dX11_read_49 : decode cX11_read 49 = .ok (.aload_n 0, 1) := by decide +kernel
theorem dX11_read_50 : decode cX11_read 50 = .ok (.getfield 71, 3) := by decide +kernel
theorem dX11_read_53 : decode cX11_read 53 = .ok (.getfield 239, 3) := by decide +kernel
theorem dX11_read_56 : decode cX11_read 56 = .ok (.iload_n 2, 1) := by decide +kernel
theorem dX11_read_57 : decode cX11_read 57 = .ok (.iaload, 1) := by decide +kernel
theorem dX11_read_58 : decode cX11_read 58 = .ok (.iload_n 3, 1) := by decide +kernel
theorem dX11_read_59 : decode cX11_read 59 = .ok (.if_icmp .eq 6, 3) := by decide +kernel
theorem dX11_read_62 : decode cX11_read 62 = .ok (.bipush (-13), 2) := by decide +kernel
theorem dX11_read_64 : decode cX11_read 64 = .ok (.ireturn, 1) := by decide +kernel
theorem dX11_read_65 : decode cX11_read 65 = .ok (.aload_n 0, 1) := by decide +kernel
theorem dX11_read_66 : decode cX11_read 66 = .ok (.getfield 71, 3) := by decide +kernel
theorem dX11_read_69 : decode cX11_read 69 = .ok (.iload_n 2, 1) := by decide +kernel
theorem dX11_read_70 : decode cX11_read 70 = .ok (.iload 4, 2) := by decide +kernel
theorem dX11_read_72 : decode cX11_read 72 = .ok (.bipush 7, 2) := by decide +kernel
theorem dX11_read_74 : decode cX11_read 74 = .ok (.invokevirtual 242, 3) := by decide +kernel
theorem dX11_read_77 : decode cX11_read 77 = .ok (.ifCond .ne 6, 3) := by decide +kernel
theorem dX11_read_80 : decode cX11_read 80 = .ok (.bipush (-12), 2) := by decide +kernel
theorem dX11_read_82 : decode cX11_read 82 = .ok (.ireturn, 1) := by decide +kernel
theorem dX11_read_83 : decode cX11_read 83 = .ok (.aload_n 0, 1) := by decide +kernel
theorem dX11_read_84 : decode cX11_read 84 = .ok (.getfield 71, 3) := by decide +kernel
theorem dX11_read_87 : decode cX11_read 87 = .ok (.iload_n 2, 1) := by decide +kernel
theorem dX11_read_88 : decode cX11_read 88 = .ok (.iload 4, 2) := by decide +kernel
theorem dX11_read_90 : decode cX11_read 90 = .ok (.invokevirtual 245, 3) := by decide +kernel
theorem dX11_read_93 : decode cX11_read 93 = .ok (.istore 5, 2) := by decide +kernel
theorem dX11_read_95 : decode cX11_read 95 = .ok (.aload_n 0, 1) := by decide +kernel
theorem dX11_read_96 : decode cX11_read 96 = .ok (.iload_n 1, 1) := by decide +kernel
theorem dX11_read_97 : decode cX11_read 97 = .ok (.iload 5, 2) := by decide +kernel
theorem dX11_read_99 : decode cX11_read 99 = .ok (.aload_n 0, 1) := by decide +kernel
theorem dX11_read_100 : decode cX11_read 100 = .ok (.getfield 71, 3) := by decide +kernel
theorem dX11_read_103 : decode cX11_read 103 = .ok (.iload_n 2, 1) := by decide +kernel
theorem dX11_read_104 : decode cX11_read 104 = .ok (.iload 4, 2) := by decide +kernel
theorem dX11_read_106 : decode cX11_read 106 = .ok (.bipush 6, 2) := by decide +kernel
theorem dX11_read_108 : decode cX11_read 108 = .ok (.iadd, 1) := by decide +kernel
theorem dX11_read_109 : decode cX11_read 109 = .ok (.invokevirtual 248, 3) := by decide +kernel
theorem dX11_read_112 : decode cX11_read 112 = .ok (.invokevirtual 251, 3) := by decide +kernel
theorem dX11_read_115 : decode cX11_read 115 = .ok (.ireturn, 1) := by decide +kernel
theorem dX11_left_0 : decode cX11_left 0 = .ok (.aload_n 0, 1) := by decide +kernel
theorem dX11_left_1 : decode cX11_left 1 = .ok (.getfield 25, 3) := by decide +kernel
theorem dX11_left_4 : decode cX11_left 4 = .ok (.iload_n 1, 1) := by decide +kernel
theorem dX11_left_5 : decode cX11_left 5 = .ok (.invokevirtual 185, 3) := by decide +kernel
theorem dX11_left_8 : decode cX11_left 8 = .ok (.ifCond .eq 14, 3) := by decide +kernel
theorem dX11_left_11 : decode cX11_left 11 = .ok (.aload_n 0, 1) := by decide +kernel
theorem dX11_left_12 : decode cX11_left 12 = .ok (.getfield 32, 3) := by decide +kernel
theorem dX11_left_15 : decode cX11_left 15 = .ok (.iload_n 1, 1) := by decide +kernel
theorem dX11_left_16 : decode cX11_left 16 = .ok (.invokevirtual 254, 3) := by decide +kernel
theorem dX11_left_19 : decode cX11_left 19 = .ok (.goto 4, 3) := by decide +kernel
theorem dX11_left_22 : decode cX11_left 22 = .ok (.iconst (-1), 1) := by decide +kernel
theorem dX11_left_23 : decode cX11_left 23 = .ok (.ireturn, 1) := by decide +kernel
theorem dX11_form_0 : decode cX11_form 0 = .ok (.aload_n 0, 1) := by decide +kernel
theorem dX11_form_1 : decode cX11_form 1 = .ok (.getfield 25, 3) := by decide +kernel
theorem dX11_form_4 : decode cX11_form 4 = .ok (.iload_n 1, 1) := by decide +kernel
theorem dX11_form_5 : decode cX11_form 5 = .ok (.invokevirtual 185, 3) := by decide +kernel
theorem dX11_form_8 : decode cX11_form 8 = .ok (.ifCond .eq 15, 3) := by decide +kernel
theorem dX11_form_11 : decode cX11_form 11 = .ok (.aload_n 0, 1) := by decide +kernel
theorem dX11_form_12 : decode cX11_form 12 = .ok (.getfield 32, 3) := by decide +kernel
theorem dX11_form_15 : decode cX11_form 15 = .ok (.iload_n 1, 1) := by decide +kernel
theorem dX11_form_16 : decode cX11_form 16 = .ok (.iload_n 2, 1) := by decide +kernel
theorem dX11_form_17 : decode cX11_form 17 = .ok (.invokevirtual 257, 3) := by decide +kernel
theorem dX11_form_20 : decode cX11_form 20 = .ok (.goto 4, 3) := by decide +kernel
theorem dX11_form_23 : decode cX11_form 23 = .ok (.iconst (-1), 1) := by decide +kernel
theorem dX11_form_24 : decode cX11_form 24 = .ok (.ireturn, 1) := by decide +kernel
theorem dX11_parts_0 : decode cX11_parts 0 = .ok (.aload_n 0, 1) := by decide +kernel
theorem dX11_parts_1 : decode cX11_parts 1 = .ok (.getfield 25, 3) := by decide +kernel
theorem dX11_parts_4 : decode cX11_parts 4 = .ok (.iload_n 1, 1) := by decide +kernel
theorem dX11_parts_5 : decode cX11_parts 5 = .ok (.invokevirtual 185, 3) := by decide +kernel
theorem dX11_parts_8 : decode cX11_parts 8 = .ok (.ifCond .eq 23, 3) := by decide +kernel
theorem dX11_parts_11 : decode cX11_parts 11 = .ok (.iload_n 2, 1) := by decide +kernel
theorem dX11_parts_12 : decode cX11_parts 12 = .ok (.iconst 0, 1) := by decide +kernel
theorem dX11_parts_13 : decode cX11_parts 13 = .ok (.iconst 1, 1) := by decide +kernel
theorem dX11_parts_14 : decode cX11_parts 14 = .ok (.invokestatic 95, 3) := by decide +kernel
theorem dX11_parts_17 : decode cX11_parts 17 = .ok (.ifCond .eq 14, 3) := by decide +kernel
theorem dX11_parts_20 : decode cX11_parts 20 = .ok (.aload_n 0, 1) := by decide +kernel
theorem dX11_parts_21 : decode cX11_parts 21 = .ok (.getfield 32, 3) := by decide +kernel
theorem dX11_parts_24 : decode cX11_parts 24 = .ok (.iload_n 1, 1) := by decide +kernel
theorem dX11_parts_25 : decode cX11_parts 25 = .ok (.invokevirtual 254, 3) := by decide +kernel
theorem dX11_parts_28 : decode cX11_parts 28 = .ok (.ifCond .ne 5, 3) := by decide +kernel
theorem dX11_parts_31 : decode cX11_parts 31 = .ok (.iconst (-1), 1) := by decide +kernel
theorem dX11_parts_32 : decode cX11_parts 32 = .ok (.ireturn, 1) := by decide +kernel
theorem dX11_parts_33 : decode cX11_parts 33 = .ok (.aload_n 0, 1) := by decide +kernel
theorem dX11_parts_34 : decode cX11_parts 34 = .ok (.getfield 32, 3) := by decide +kernel
theorem dX11_parts_37 : decode cX11_parts 37 = .ok (.iload_n 1, 1) := by decide +kernel
theorem dX11_parts_38 : decode cX11_parts 38 = .ok (.invokevirtual 260, 3) := by decide +kernel
theorem dX11_parts_41 : decode cX11_parts 41 = .ok (.istore_n 3, 1) := by decide +kernel
theorem dX11_parts_42 : decode cX11_parts 42 = .ok (.iload_n 2, 1) := by decide +kernel
theorem dX11_parts_43 : decode cX11_parts 43 = .ok (.ifCond .ne 7, 3) := by decide +kernel
theorem dX11_parts_46 : decode cX11_parts 46 = .ok (.iload_n 3, 1) := by decide +kernel
theorem dX11_parts_47 : decode cX11_parts 47 = .ok (.goto 11, 3) := by decide +kernel
theorem dX11_parts_50 : decode cX11_parts 50 = .ok (.aload_n 0, 1) := by decide +kernel
theorem dX11_parts_51 : decode cX11_parts 51 = .ok (.getfield 32, 3) := by decide +kernel
theorem dX11_parts_54 : decode cX11_parts 54 = .ok (.iload_n 3, 1) := by decide +kernel
theorem dX11_parts_55 : decode cX11_parts 55 = .ok (.invokevirtual 263, 3) := by decide +kernel
theorem dX11_parts_58 : decode cX11_parts 58 = .ok (.ireturn, 1) := by decide +kernel
theorem dX11_quarrel_0 : decode cX11_quarrel 0 = .ok (.aload_n 0, 1) := by decide +kernel
theorem dX11_quarrel_1 : decode cX11_quarrel 1 = .ok (.getfield 25, 3) := by decide +kernel
theorem dX11_quarrel_4 : decode cX11_quarrel 4 = .ok (.iload_n 1, 1) := by decide +kernel
theorem dX11_quarrel_5 : decode cX11_quarrel 5 = .ok (.invokevirtual 185, 3) := by decide +kernel
theorem dX11_quarrel_8 : decode cX11_quarrel 8 = .ok (.ifCond .eq 12, 3) := by decide +kernel
theorem dX11_quarrel_11 : decode cX11_quarrel 11 = .ok (.iload_n 2, 1) := by decide +kernel
theorem dX11_quarrel_12 : decode cX11_quarrel 12 = .ok (.iconst 0, 1) := by decide +kernel
theorem dX11_quarrel_13 : decode cX11_quarrel 13 = .ok (.iconst 1, 1) := by decide +kernel
theorem dX11_quarrel_14 : decode cX11_quarrel 14 = .ok (.invokestatic 95, 3) := by decide +kernel
theorem dX11_quarrel_17 : decode cX11_quarrel 17 = .ok (.ifCond .ne 5, 3) := by decide +kernel
theorem dX11_quarrel_20 : decode cX11_quarrel 20 = .ok (.iconst (-1), 1) := by decide +kernel
theorem dX11_quarrel_21 : decode cX11_quarrel 21 = .ok (.ireturn, 1) := by decide +kernel
theorem dX11_quarrel_22 : decode cX11_quarrel 22 = .ok (.aload_n 0, 1) := by decide +kernel
theorem dX11_quarrel_23 : decode cX11_quarrel 23 = .ok (.getfield 32, 3) := by decide +kernel
theorem dX11_quarrel_26 : decode cX11_quarrel 26 = .ok (.iload_n 1, 1) := by decide +kernel
theorem dX11_quarrel_27 : decode cX11_quarrel 27 = .ok (.invokevirtual 266, 3) := by decide +kernel
theorem dX11_quarrel_30 : decode cX11_quarrel 30 = .ok (.istore_n 3, 1) := by decide +kernel
theorem dX11_quarrel_31 : decode cX11_quarrel 31 = .ok (.iload_n 2, 1) := by decide +kernel
theorem dX11_quarrel_32 : decode cX11_quarrel 32 = .ok (.ifCond .eq 7, 3) := by decide +kernel
theorem dX11_quarrel_35 : decode cX11_quarrel 35 = .ok (.iload_n 3, 1) := by decide +kernel
theorem dX11_quarrel_36 : decode cX11_quarrel 36 = .ok (.ifCond .ge 7, 3) := by decide +kernel
theorem dX11_quarrel_39 : decode cX11_quarrel 39 = .ok (.iload_n 3, 1) := by decide +kernel
theorem dX11_quarrel_40 : decode cX11_quarrel 40 = .ok (.goto 11, 3) := by decide +kernel
theorem dX11_quarrel_43 : decode cX11_quarrel 43 = .ok (.aload_n 0, 1) := by decide +kernel
theorem dX11_quarrel_44 : decode cX11_quarrel 44 = .ok (.getfield 32, 3) := by decide +kernel
theorem dX11_quarrel_47 : decode cX11_quarrel 47 = .ok (.iload_n 3, 1) := by decide +kernel
theorem dX11_quarrel_48 : decode cX11_quarrel 48 = .ok (.invokevirtual 269, 3) := by decide +kernel
theorem dX11_quarrel_51 : decode cX11_quarrel 51 = .ok (.ireturn, 1) := by decide +kernel
theorem dX11_moves_0 : decode cX11_moves 0 = .ok (.aload_n 0, 1) := by decide +kernel
theorem dX11_moves_1 : decode cX11_moves 1 = .ok (.getfield 16, 3) := by decide +kernel
theorem dX11_moves_4 : decode cX11_moves 4 = .ok (.iload_n 1, 1) := by decide +kernel
theorem dX11_moves_5 : decode cX11_moves 5 = .ok (.invokevirtual 122, 3) := by decide +kernel
theorem dX11_moves_8 : decode cX11_moves 8 = .ok (.ifCond .eq 12, 3) := by decide +kernel
theorem dX11_moves_11 : decode cX11_moves 11 = .ok (.iload_n 2, 1) := by decide +kernel
theorem dX11_moves_12 : decode cX11_moves 12 = .ok (.iconst 0, 1) := by decide +kernel
theorem dX11_moves_13 : decode cX11_moves 13 = .ok (.iconst 2, 1) := by decide +kernel
theorem dX11_moves_14 : decode cX11_moves 14 = .ok (.invokestatic 95, 3) := by decide +kernel
theorem dX11_moves_17 : decode cX11_moves 17 = .ok (.ifCond .ne 5, 3) := by decide +kernel
theorem dX11_moves_20 : decode cX11_moves 20 = .ok (.iconst (-1), 1) := by decide +kernel
theorem dX11_moves_21 : decode cX11_moves 21 = .ok (.ireturn, 1) := by decide +kernel
theorem dX11_moves_22 : decode cX11_moves 22 = .ok (.aload_n 0, 1) := by decide +kernel
theorem dX11_moves_23 : decode cX11_moves 23 = .ok (.getfield 87, 3) := by decide +kernel
theorem dX11_moves_26 : decode cX11_moves 26 = .ok (.aload_n 0, 1) := by decide +kernel
theorem dX11_moves_27 : decode cX11_moves 27 = .ok (.getfield 102, 3) := by decide +kernel
theorem dX11_moves_30 : decode cX11_moves 30 = .ok (.invokevirtual 111, 3) := by decide +kernel
theorem dX11_moves_33 : decode cX11_moves 33 = .ok (.istore_n 3, 1) := by decide +kernel
theorem dX11_moves_34 : decode cX11_moves 34 = .ok (.iload_n 3, 1) := by decide +kernel
theorem dX11_moves_35 : decode cX11_moves 35 = .ok (.iconst (-1), 1) := by decide +kernel
theorem dX11_moves_36 : decode cX11_moves 36 = .ok (.if_icmp .eq 8, 3) := by decide +kernel
theorem dX11_moves_39 : decode cX11_moves 39 = .ok (.bipush (-10), 2) := by decide +kernel
theorem dX11_moves_41 : decode cX11_moves 41 = .ok (.iload_n 3, 1) := by decide +kernel
theorem dX11_moves_42 : decode cX11_moves 42 = .ok (.isub, 1) := by decide +kernel
theorem dX11_moves_43 : decode cX11_moves 43 = .ok (.ireturn, 1) := by decide +kernel
theorem dX11_moves_44 : decode cX11_moves 44 = .ok (.aload_n 0, 1) := by decide +kernel
theorem dX11_moves_45 : decode cX11_moves 45 = .ok (.getfield 16, 3) := by decide +kernel
theorem dX11_moves_48 : decode cX11_moves 48 = .ok (.iload_n 1, 1) := by decide +kernel
theorem dX11_moves_49 : decode cX11_moves 49 = .ok (.invokevirtual 126, 3) := by decide +kernel
theorem dX11_moves_52 : decode cX11_moves 52 = .ok (.getfield 145, 3) := by decide +kernel
theorem dX11_moves_55 : decode cX11_moves 55 = .ok (.istore 4, 2) := by decide +kernel
theorem dX11_moves_57 : decode cX11_moves 57 = .ok (.aload_n 0, 1) := by decide +kernel
theorem dX11_moves_58 : decode cX11_moves 58 = .ok (.getfield 16, 3) := by decide +kernel
theorem dX11_moves_61 : decode cX11_moves 61 = .ok (.aload_n 0, 1) := by decide +kernel
theorem dX11_moves_62 : decode cX11_moves 62 = .ok (.getfield 78, 3) := by decide +kernel
theorem dX11_moves_65 : decode cX11_moves 65 = .ok (.iload_n 1, 1) := by decide +kernel
theorem dX11_moves_66 : decode cX11_moves 66 = .ok (.aload_n 0, 1) := by decide +kernel
theorem dX11_moves_67 : decode cX11_moves 67 = .ok (.getfield 87, 3) := by decide +kernel
theorem dX11_moves_70 : decode cX11_moves 70 = .ok (.aload_n 0, 1) := by decide +kernel
theorem dX11_moves_71 : decode cX11_moves 71 = .ok (.getfield 99, 3) := by decide +kernel
theorem dX11_moves_74 : decode cX11_moves 74 = .ok (.invokevirtual 272, 3) := by decide +kernel
theorem dX11_moves_77 : decode cX11_moves 77 = .ok (.iload_n 2, 1) := by decide +kernel
theorem dX11_moves_78 : decode cX11_moves 78 = .ok (.lookupswitch 56 #[(0, 26), (1, 34)], 26) := by decide +kernel
theorem dX11_moves_104 : decode cX11_moves 104 = .ok (.aload_n 0, 1) := by decide +kernel
theorem dX11_moves_105 : decode cX11_moves 105 = .ok (.getfield 78, 3) := by decide +kernel
theorem dX11_moves_108 : decode cX11_moves 108 = .ok (.invokevirtual 276, 3) := by decide +kernel
theorem dX11_moves_111 : decode cX11_moves 111 = .ok (.ireturn, 1) := by decide +kernel
theorem dX11_moves_112 : decode cX11_moves 112 = .ok (.aload_n 0, 1) := by decide +kernel
theorem dX11_moves_113 : decode cX11_moves 113 = .ok (.getfield 78, 3) := by decide +kernel
theorem dX11_moves_116 : decode cX11_moves 116 = .ok (.invokevirtual 276, 3) := by decide +kernel
theorem dX11_moves_119 : decode cX11_moves 119 = .ok (.aload_n 0, 1) := by decide +kernel
theorem dX11_moves_120 : decode cX11_moves 120 = .ok (.getfield 25, 3) := by decide +kernel
theorem dX11_moves_123 : decode cX11_moves 123 = .ok (.iload 4, 2) := by decide +kernel
theorem dX11_moves_125 : decode cX11_moves 125 = .ok (.aload_n 0, 1) := by decide +kernel
theorem dX11_moves_126 : decode cX11_moves 126 = .ok (.getfield 99, 3) := by decide +kernel
theorem dX11_moves_129 : decode cX11_moves 129 = .ok (.invokevirtual 279, 3) := by decide +kernel
theorem dX11_moves_132 : decode cX11_moves 132 = .ok (.imul, 1) := by decide +kernel
theorem dX11_moves_133 : decode cX11_moves 133 = .ok (.ireturn, 1) := by decide +kernel
theorem dX11_moves_134 : decode cX11_moves 134 = .ok (.aload_n 0, 1) := by decide +kernel
theorem dX11_moves_135 : decode cX11_moves 135 = .ok (.iload 4, 2) := by decide +kernel
theorem dX11_moves_137 : decode cX11_moves 137 = .ok (.invokevirtual 282, 3) := by decide +kernel
theorem dX11_moves_140 : decode cX11_moves 140 = .ok (.ireturn, 1) := by decide +kernel
theorem dX11_person_0 : decode cX11_person 0 = .ok (.aload_n 0, 1) := by decide +kernel
theorem dX11_person_1 : decode cX11_person 1 = .ok (.getfield 25, 3) := by decide +kernel
theorem dX11_person_4 : decode cX11_person 4 = .ok (.iload_n 1, 1) := by decide +kernel
theorem dX11_person_5 : decode cX11_person 5 = .ok (.invokevirtual 185, 3) := by decide +kernel
theorem dX11_person_8 : decode cX11_person 8 = .ok (.ifCond .eq 19, 3) := by decide +kernel
theorem dX11_person_11 : decode cX11_person 11 = .ok (.iload_n 2, 1) := by decide +kernel
theorem dX11_person_12 : decode cX11_person 12 = .ok (.iconst (-1), 1) := by decide +kernel
theorem dX11_person_13 : decode cX11_person 13 = .ok (.if_icmp .eq 16, 3) := by decide +kernel
theorem dX11_person_16 : decode cX11_person 16 = .ok (.aload_n 0, 1) := by decide +kernel
theorem dX11_person_17 : decode cX11_person 17 = .ok (.getfield 41, 3) := by decide +kernel
theorem dX11_person_20 : decode cX11_person 20 = .ok (.iload_n 2, 1) := by decide +kernel
theorem dX11_person_21 : decode cX11_person 21 = .ok (.invokevirtual 285, 3) := by decide +kernel
theorem dX11_person_24 : decode cX11_person 24 = .ok (.ifCond .ne 5, 3) := by decide +kernel
theorem dX11_person_27 : decode cX11_person 27 = .ok (.iconst (-1), 1) := by decide +kernel
theorem dX11_person_28 : decode cX11_person 28 = .ok (.ireturn, 1) := by decide +kernel
theorem dX11_person_29 : decode cX11_person 29 = .ok (.iload_n 3, 1) := by decide +kernel
theorem dX11_person_30 : decode cX11_person 30 = .ok (.iconst 0, 1) := by decide +kernel
theorem dX11_person_31 : decode cX11_person 31 = .ok (.iconst 3, 1) := by decide +kernel
theorem dX11_person_32 : decode cX11_person 32 = .ok (.invokestatic 95, 3) := by decide +kernel
theorem dX11_person_35 : decode cX11_person 35 = .ok (.ifCond .eq 35, 3) := by decide +kernel
theorem dX11_person_38 : decode cX11_person 38 = .ok (.iload 4, 2) := by decide +kernel
theorem dX11_person_40 : decode cX11_person 40 = .ok (.iconst 0, 1) := by decide +kernel
theorem dX11_person_41 : decode cX11_person 41 = .ok (.iconst 2, 1) := by decide +kernel
theorem dX11_person_42 : decode cX11_person 42 = .ok (.invokestatic 95, 3) := by decide +kernel
theorem dX11_person_45 : decode cX11_person 45 = .ok (.ifCond .eq 25, 3) := by decide +kernel
theorem dX11_person_48 : decode cX11_person 48 = .ok (.iload 5, 2) := by decide +kernel
theorem dX11_person_50 : decode cX11_person 50 = .ok (.iconst 0, 1) := by decide +kernel
theorem dX11_person_51 : decode cX11_person 51 = .ok (.iconst 1, 1) := by decide +kernel
theorem dX11_person_52 : decode cX11_person 52 = .ok (.invokestatic 95, 3) := by decide +kernel
theorem dX11_person_55 : decode cX11_person 55 = .ok (.ifCond .eq 15, 3) := by decide +kernel
theorem dX11_person_58 : decode cX11_person 58 = .ok (.iload 6, 2) := by decide +kernel
theorem dX11_person_60 : decode cX11_person 60 = .ok (.iconst 0, 1) := by decide +kernel
theorem dX11_person_61 : decode cX11_person 61 = .ok (.sipush 9999, 3) := by decide +kernel
theorem dX11_person_64 : decode cX11_person 64 = .ok (.invokestatic 95, 3) := by decide +kernel
theorem dX11_person_67 : decode cX11_person 67 = .ok (.ifCond .ne 6, 3) := by decide +kernel
theorem dX11_person_70 : decode cX11_person 70 = .ok (.bipush (-2), 2) := by decide +kernel
theorem dX11_person_72 : decode cX11_person 72 = .ok (.ireturn, 1) := by decide +kernel
theorem dX11_person_73 : decode cX11_person 73 = .ok (.aload_n 0, 1) := by decide +kernel
theorem dX11_person_74 : decode cX11_person 74 = .ok (.getfield 41, 3) := by decide +kernel
theorem dX11_person_77 : decode cX11_person 77 = .ok (.invokevirtual 286, 3) := by decide +kernel
theorem dX11_person_80 : decode cX11_person 80 = .ok (.ifCond .eq 8, 3) := by decide +kernel
theorem dX11_person_83 : decode cX11_person 83 = .ok (.bipush (-4), 2) := by decide +kernel
theorem dX11_person_85 : decode cX11_person 85 = .ok (.goto 19, 3) := by decide +kernel
theorem dX11_person_88 : decode cX11_person 88 = .ok (.aload_n 0, 1) := by decide +kernel
theorem dX11_person_89 : decode cX11_person 89 = .ok (.getfield 41, 3) := by decide +kernel
theorem dX11_person_92 : decode cX11_person 92 = .ok (.iload_n 1, 1) := by decide +kernel
theorem dX11_person_93 : decode cX11_person 93 = .ok (.iload_n 2, 1) := by decide +kernel
theorem dX11_person_94 : decode cX11_person 94 = .ok (.iload_n 3, 1) := by decide +kernel
theorem dX11_person_95 : decode cX11_person 95 = .ok (.iload 4, 2) := by decide +kernel
theorem dX11_person_97 : decode cX11_person 97 = .ok (.iload 5, 2) := by decide +kernel
theorem dX11_person_99 : decode cX11_person 99 = .ok (.iload 6, 2) := by decide +kernel
theorem dX11_person_101 : decode cX11_person 101 = .ok (.invokevirtual 287, 3) := by decide +kernel
theorem dX11_person_104 : decode cX11_person 104 = .ok (.ireturn, 1) := by decide +kernel
theorem dX11_goes_0 : decode cX11_goes 0 = .ok (.aload_n 0, 1) := by decide +kernel
theorem dX11_goes_1 : decode cX11_goes 1 = .ok (.getfield 41, 3) := by decide +kernel
theorem dX11_goes_4 : decode cX11_goes 4 = .ok (.iload_n 1, 1) := by decide +kernel
theorem dX11_goes_5 : decode cX11_goes 5 = .ok (.invokevirtual 285, 3) := by decide +kernel
theorem dX11_goes_8 : decode cX11_goes 8 = .ok (.ifCond .eq 14, 3) := by decide +kernel
theorem dX11_goes_11 : decode cX11_goes 11 = .ok (.aload_n 0, 1) := by decide +kernel
theorem dX11_goes_12 : decode cX11_goes 12 = .ok (.getfield 25, 3) := by decide +kernel
theorem dX11_goes_15 : decode cX11_goes 15 = .ok (.iload_n 2, 1) := by decide +kernel
theorem dX11_goes_16 : decode cX11_goes 16 = .ok (.invokevirtual 185, 3) := by decide +kernel
theorem dX11_goes_19 : decode cX11_goes 19 = .ok (.ifCond .ne 5, 3) := by decide +kernel
theorem dX11_goes_22 : decode cX11_goes 22 = .ok (.iconst (-1), 1) := by decide +kernel
theorem dX11_goes_23 : decode cX11_goes 23 = .ok (.ireturn, 1) := by decide +kernel
theorem dX11_goes_24 : decode cX11_goes 24 = .ok (.aload_n 0, 1) := by decide +kernel
theorem dX11_goes_25 : decode cX11_goes 25 = .ok (.getfield 41, 3) := by decide +kernel
theorem dX11_goes_28 : decode cX11_goes 28 = .ok (.iload_n 1, 1) := by decide +kernel
theorem dX11_goes_29 : decode cX11_goes 29 = .ok (.invokevirtual 290, 3) := by decide +kernel
theorem dX11_goes_32 : decode cX11_goes 32 = .ok (.ifCond .ne 6, 3) := by decide +kernel
theorem dX11_goes_35 : decode cX11_goes 35 = .ok (.bipush (-3), 2) := by decide +kernel
theorem dX11_goes_37 : decode cX11_goes 37 = .ok (.ireturn, 1) := by decide +kernel
theorem dX11_goes_38 : decode cX11_goes 38 = .ok (.aload_n 0, 1) := by decide +kernel
theorem dX11_goes_39 : decode cX11_goes 39 = .ok (.getfield 41, 3) := by decide +kernel
theorem dX11_goes_42 : decode cX11_goes 42 = .ok (.getfield 293, 3) := by decide +kernel
theorem dX11_goes_45 : decode cX11_goes 45 = .ok (.iload_n 1, 1) := by decide +kernel
theorem dX11_goes_46 : decode cX11_goes 46 = .ok (.iaload, 1) := by decide +kernel
theorem dX11_goes_47 : decode cX11_goes 47 = .ok (.istore_n 3, 1) := by decide +kernel
theorem dX11_goes_48 : decode cX11_goes 48 = .ok (.aload_n 0, 1) := by decide +kernel
theorem dX11_goes_49 : decode cX11_goes 49 = .ok (.getfield 41, 3) := by decide +kernel
theorem dX11_goes_52 : decode cX11_goes 52 = .ok (.getfield 293, 3) := by decide +kernel
theorem dX11_goes_55 : decode cX11_goes 55 = .ok (.iload_n 1, 1) := by decide +kernel
theorem dX11_goes_56 : decode cX11_goes 56 = .ok (.iload_n 2, 1) := by decide +kernel
theorem dX11_goes_57 : decode cX11_goes 57 = .ok (.iastore, 1) := by decide +kernel
theorem dX11_goes_58 : decode cX11_goes 58 = .ok (.iload_n 3, 1) := by decide +kernel
theorem dX11_goes_59 : decode cX11_goes 59 = .ok (.ireturn, 1) := by decide +kernel
theorem dX11_die_0 : decode cX11_die 0 = .ok (.aload_n 0, 1) := by decide +kernel
theorem dX11_die_1 : decode cX11_die 1 = .ok (.getfield 41, 3) := by decide +kernel
theorem dX11_die_4 : decode cX11_die 4 = .ok (.iload_n 1, 1) := by decide +kernel
theorem dX11_die_5 : decode cX11_die 5 = .ok (.invokevirtual 285, 3) := by decide +kernel
theorem dX11_die_8 : decode cX11_die 8 = .ok (.ifCond .ne 5, 3) := by decide +kernel
theorem dX11_die_11 : decode cX11_die 11 = .ok (.iconst (-1), 1) := by decide +kernel
theorem dX11_die_12 : decode cX11_die 12 = .ok (.ireturn, 1) := by decide +kernel
theorem dX11_die_13 : decode cX11_die 13 = .ok (.aload_n 0, 1) := by decide +kernel
theorem dX11_die_14 : decode cX11_die 14 = .ok (.getfield 41, 3) := by decide +kernel
theorem dX11_die_17 : decode cX11_die 17 = .ok (.iload_n 1, 1) := by decide +kernel
theorem dX11_die_18 : decode cX11_die 18 = .ok (.invokevirtual 290, 3) := by decide +kernel
theorem dX11_die_21 : decode cX11_die 21 = .ok (.ifCond .ne 6, 3) := by decide +kernel
theorem dX11_die_24 : decode cX11_die 24 = .ok (.bipush (-3), 2) := by decide +kernel
theorem dX11_die_26 : decode cX11_die 26 = .ok (.ireturn, 1) := by decide +kernel
theorem dX11_die_27 : decode cX11_die 27 = .ok (.aload_n 0, 1) := by decide +kernel
theorem dX11_die_28 : decode cX11_die 28 = .ok (.getfield 41, 3) := by decide +kernel
theorem dX11_die_31 : decode cX11_die 31 = .ok (.iload_n 1, 1) := by decide +kernel
theorem dX11_die_32 : decode cX11_die 32 = .ok (.invokevirtual 296, 3) := by decide +kernel
theorem dX11_die_35 : decode cX11_die 35 = .ok (.aload_n 0, 1) := by decide +kernel
theorem dX11_die_36 : decode cX11_die 36 = .ok (.getfield 41, 3) := by decide +kernel
theorem dX11_die_39 : decode cX11_die 39 = .ok (.iload_n 1, 1) := by decide +kernel
theorem dX11_die_40 : decode cX11_die 40 = .ok (.aload_n 0, 1) := by decide +kernel
theorem dX11_die_41 : decode cX11_die 41 = .ok (.getfield 99, 3) := by decide +kernel
theorem dX11_die_44 : decode cX11_die 44 = .ok (.invokevirtual 299, 3) := by decide +kernel
theorem dX11_die_47 : decode cX11_die 47 = .ok (.ireturn, 1) := by decide +kernel
theorem dX11_settle_0 : decode cX11_settle 0 = .ok (.aload_n 0, 1) := by decide +kernel
theorem dX11_settle_1 : decode cX11_settle 1 = .ok (.getfield 41, 3) := by decide +kernel
theorem dX11_settle_4 : decode cX11_settle 4 = .ok (.iload_n 1, 1) := by decide +kernel
theorem dX11_settle_5 : decode cX11_settle 5 = .ok (.invokevirtual 285, 3) := by decide +kernel
theorem dX11_settle_8 : decode cX11_settle 8 = .ok (.ifCond .ne 5, 3) := by decide +kernel
theorem dX11_settle_11 : decode cX11_settle 11 = .ok (.iconst (-1), 1) := by decide +kernel
theorem dX11_settle_12 : decode cX11_settle 12 = .ok (.ireturn, 1) := by decide +kernel
theorem dX11_settle_13 : decode cX11_settle 13 = .ok (.aload_n 0, 1) := by decide +kernel
theorem dX11_settle_14 : decode cX11_settle 14 = .ok (.getfield 41, 3) := by decide +kernel
theorem dX11_settle_17 : decode cX11_settle 17 = .ok (.iload_n 1, 1) := by decide +kernel
theorem dX11_settle_18 : decode cX11_settle 18 = .ok (.invokevirtual 302, 3) := by decide +kernel
theorem dX11_settle_21 : decode cX11_settle 21 = .ok (.ifCond .eq 18, 3) := by decide +kernel
theorem dX11_settle_24 : decode cX11_settle 24 = .ok (.aload_n 0, 1) := by decide +kernel
theorem dX11_settle_25 : decode cX11_settle 25 = .ok (.getfield 41, 3) := by decide +kernel
theorem dX11_settle_28 : decode cX11_settle 28 = .ok (.iload_n 1, 1) := by decide +kernel
theorem dX11_settle_29 : decode cX11_settle 29 = .ok (.aload_n 0, 1) := by decide +kernel
theorem dX11_settle_30 : decode cX11_settle 30 = .ok (.getfield 99, 3) := by decide +kernel
theorem dX11_settle_33 : decode cX11_settle 33 = .ok (.invokevirtual 299, 3) := by decide +kernel
theorem dX11_settle_36 : decode cX11_settle 36 = .ok (.goto 5, 3) := by decide +kernel
theorem dX11_settle_39 : decode cX11_settle 39 = .ok (.bipush (-3), 2) := by decide +kernel
theorem dX11_settle_41 : decode cX11_settle 41 = .ok (.ireturn, 1) := by decide +kernel
theorem dX11_personOf_0 : decode cX11_personOf 0 = .ok (.aload_n 0, 1) := by decide +kernel
theorem dX11_personOf_1 : decode cX11_personOf 1 = .ok (.getfield 41, 3) := by decide +kernel
theorem dX11_personOf_4 : decode cX11_personOf 4 = .ok (.iload_n 1, 1) := by decide +kernel
theorem dX11_personOf_5 : decode cX11_personOf 5 = .ok (.invokevirtual 285, 3) := by decide +kernel
theorem dX11_personOf_8 : decode cX11_personOf 8 = .ok (.ifCond .ne 6, 3) := by decide +kernel
theorem dX11_personOf_11 : decode cX11_personOf 11 = .ok (.bipush (-5), 2) := by decide +kernel
theorem dX11_personOf_13 : decode cX11_personOf 13 = .ok (.ireturn, 1) := by decide +kernel
theorem dX11_personOf_14 : decode cX11_personOf 14 = .ok (.iload_n 2, 1) := by decide +kernel
theorem dX11_personOf_15 : decode cX11_personOf 15 = .ok (.tableswitch 97 0 5 #[37, 47, 57, 67, 77, 87], 37) := by decide +kernel
theorem dX11_personOf_52 : decode cX11_personOf 52 = .ok (.aload_n 0, 1) := by decide +kernel
theorem dX11_personOf_53 : decode cX11_personOf 53 = .ok (.getfield 41, 3) := by decide +kernel
theorem dX11_personOf_56 : decode cX11_personOf 56 = .ok (.getfield 293, 3) := by decide +kernel
theorem dX11_personOf_59 : decode cX11_personOf 59 = .ok (.iload_n 1, 1) := by decide +kernel
theorem dX11_personOf_60 : decode cX11_personOf 60 = .ok (.iaload, 1) := by decide +kernel
theorem dX11_personOf_61 : decode cX11_personOf 61 = .ok (.ireturn, 1) := by decide +kernel
theorem dX11_personOf_62 : decode cX11_personOf 62 = .ok (.aload_n 0, 1) := by decide +kernel
theorem dX11_personOf_63 : decode cX11_personOf 63 = .ok (.getfield 41, 3) := by decide +kernel
theorem dX11_personOf_66 : decode cX11_personOf 66 = .ok (.getfield 305, 3) := by decide +kernel
theorem dX11_personOf_69 : decode cX11_personOf 69 = .ok (.iload_n 1, 1) := by decide +kernel
theorem dX11_personOf_70 : decode cX11_personOf 70 = .ok (.iaload, 1) := by decide +kernel
theorem dX11_personOf_71 : decode cX11_personOf 71 = .ok (.ireturn, 1) := by decide +kernel
theorem dX11_personOf_72 : decode cX11_personOf 72 = .ok (.aload_n 0, 1) := by decide +kernel
theorem dX11_personOf_73 : decode cX11_personOf 73 = .ok (.getfield 41, 3) := by decide +kernel
theorem dX11_personOf_76 : decode cX11_personOf 76 = .ok (.getfield 308, 3) := by decide +kernel
theorem dX11_personOf_79 : decode cX11_personOf 79 = .ok (.iload_n 1, 1) := by decide +kernel
theorem dX11_personOf_80 : decode cX11_personOf 80 = .ok (.iaload, 1) := by decide +kernel
theorem dX11_personOf_81 : decode cX11_personOf 81 = .ok (.ireturn, 1) := by decide +kernel
theorem dX11_personOf_82 : decode cX11_personOf 82 = .ok (.aload_n 0, 1) := by decide +kernel
theorem dX11_personOf_83 : decode cX11_personOf 83 = .ok (.getfield 41, 3) := by decide +kernel
theorem dX11_personOf_86 : decode cX11_personOf 86 = .ok (.getfield 311, 3) := by decide +kernel
theorem dX11_personOf_89 : decode cX11_personOf 89 = .ok (.iload_n 1, 1) := by decide +kernel
theorem dX11_personOf_90 : decode cX11_personOf 90 = .ok (.iaload, 1) := by decide +kernel
theorem dX11_personOf_91 : decode cX11_personOf 91 = .ok (.ireturn, 1) := by decide +kernel
theorem dX11_personOf_92 : decode cX11_personOf 92 = .ok (.aload_n 0, 1) := by decide +kernel
theorem dX11_personOf_93 : decode cX11_personOf 93 = .ok (.getfield 41, 3) := by decide +kernel
theorem dX11_personOf_96 : decode cX11_personOf 96 = .ok (.getfield 314, 3) := by decide +kernel
theorem dX11_personOf_99 : decode cX11_personOf 99 = .ok (.iload_n 1, 1) := by decide +kernel
theorem dX11_personOf_100 : decode cX11_personOf 100 = .ok (.iaload, 1) := by decide +kernel
theorem dX11_personOf_101 : decode cX11_personOf 101 = .ok (.ireturn, 1) := by decide +kernel
theorem dX11_personOf_102 : decode cX11_personOf 102 = .ok (.aload_n 0, 1) := by decide +kernel
theorem dX11_personOf_103 : decode cX11_personOf 103 = .ok (.getfield 41, 3) := by decide +kernel
theorem dX11_personOf_106 : decode cX11_personOf 106 = .ok (.iload_n 1, 1) := by decide +kernel
theorem dX11_personOf_107 : decode cX11_personOf 107 = .ok (.iconst (-1), 1) := by decide +kernel
theorem dX11_personOf_108 : decode cX11_personOf 108 = .ok (.invokevirtual 317, 3) := by decide +kernel
theorem dX11_personOf_111 : decode cX11_personOf 111 = .ok (.ireturn, 1) := by decide +kernel
theorem dX11_personOf_112 : decode cX11_personOf 112 = .ok (.bipush (-5), 2) := by decide +kernel
theorem dX11_personOf_114 : decode cX11_personOf 114 = .ok (.ireturn, 1) := by decide +kernel
theorem dX11_chest_0 : decode cX11_chest 0 = .ok (.iload_n 1, 1) := by decide +kernel
theorem dX11_chest_1 : decode cX11_chest 1 = .ok (.iconst (-1), 1) := by decide +kernel
theorem dX11_chest_2 : decode cX11_chest 2 = .ok (.if_icmp .ne 19, 3) := by decide +kernel
theorem dX11_chest_5 : decode cX11_chest 5 = .ok (.aload_n 0, 1) := by decide +kernel
theorem dX11_chest_6 : decode cX11_chest 6 = .ok (.getfield 41, 3) := by decide +kernel
theorem dX11_chest_9 : decode cX11_chest 9 = .ok (.invokevirtual 320, 3) := by decide +kernel
theorem dX11_chest_12 : decode cX11_chest 12 = .ok (.aload_n 0, 1) := by decide +kernel
theorem dX11_chest_13 : decode cX11_chest 13 = .ok (.getfield 25, 3) := by decide +kernel
theorem dX11_chest_16 : decode cX11_chest 16 = .ok (.invokevirtual 323, 3) := by decide +kernel
theorem dX11_chest_19 : decode cX11_chest 19 = .ok (.iadd, 1) := by decide +kernel
theorem dX11_chest_20 : decode cX11_chest 20 = .ok (.ireturn, 1) := by decide +kernel
theorem dX11_chest_21 : decode cX11_chest 21 = .ok (.aload_n 0, 1) := by decide +kernel
theorem dX11_chest_22 : decode cX11_chest 22 = .ok (.getfield 25, 3) := by decide +kernel
theorem dX11_chest_25 : decode cX11_chest 25 = .ok (.iload_n 1, 1) := by decide +kernel
theorem dX11_chest_26 : decode cX11_chest 26 = .ok (.invokevirtual 185, 3) := by decide +kernel
theorem dX11_chest_29 : decode cX11_chest 29 = .ok (.ifCond .eq 15, 3) := by decide +kernel
theorem dX11_chest_32 : decode cX11_chest 32 = .ok (.aload_n 0, 1) := by decide +kernel
theorem dX11_chest_33 : decode cX11_chest 33 = .ok (.getfield 25, 3) := by decide +kernel
theorem dX11_chest_36 : decode cX11_chest 36 = .ok (.getfield 326, 3) := by decide +kernel
theorem dX11_chest_39 : decode cX11_chest 39 = .ok (.iload_n 1, 1) := by decide +kernel
theorem dX11_chest_40 : decode cX11_chest 40 = .ok (.iaload, 1) := by decide +kernel
theorem dX11_chest_41 : decode cX11_chest 41 = .ok (.goto 5, 3) := by decide +kernel
theorem dX11_chest_44 : decode cX11_chest 44 = .ok (.bipush (-5), 2) := by decide +kernel
theorem dX11_chest_46 : decode cX11_chest 46 = .ok (.ireturn, 1) := by decide +kernel
theorem dX11_way_0 : decode cX11_way 0 = .ok (.aload_n 0, 1) := by decide +kernel
theorem dX11_way_1 : decode cX11_way 1 = .ok (.getfield 50, 3) := by decide +kernel
theorem dX11_way_4 : decode cX11_way 4 = .ok (.iload_n 1, 1) := by decide +kernel
theorem dX11_way_5 : decode cX11_way 5 = .ok (.invokevirtual 329, 3) := by decide +kernel
theorem dX11_way_8 : decode cX11_way 8 = .ok (.ifCond .ne 5, 3) := by decide +kernel
theorem dX11_way_11 : decode cX11_way 11 = .ok (.iconst (-1), 1) := by decide +kernel
theorem dX11_way_12 : decode cX11_way 12 = .ok (.ireturn, 1) := by decide +kernel
theorem dX11_way_13 : decode cX11_way 13 = .ok (.iload_n 2, 1) := by decide +kernel
theorem dX11_way_14 : decode cX11_way 14 = .ok (.iconst 0, 1) := by decide +kernel
theorem dX11_way_15 : decode cX11_way 15 = .ok (.bipush 9, 2) := by decide +kernel
theorem dX11_way_17 : decode cX11_way 17 = .ok (.invokestatic 95, 3) := by decide +kernel
theorem dX11_way_20 : decode cX11_way 20 = .ok (.ifCond .ne 6, 3) := by decide +kernel
theorem dX11_way_23 : decode cX11_way 23 = .ok (.bipush (-2), 2) := by decide +kernel
theorem dX11_way_25 : decode cX11_way 25 = .ok (.ireturn, 1) := by decide +kernel
theorem dX11_way_26 : decode cX11_way 26 = .ok (.aload_n 0, 1) := by decide +kernel
theorem dX11_way_27 : decode cX11_way 27 = .ok (.getfield 50, 3) := by decide +kernel
theorem dX11_way_30 : decode cX11_way 30 = .ok (.iload_n 1, 1) := by decide +kernel
theorem dX11_way_31 : decode cX11_way 31 = .ok (.invokevirtual 332, 3) := by decide +kernel
theorem dX11_way_34 : decode cX11_way 34 = .ok (.ifCond .eq 6, 3) := by decide +kernel
theorem dX11_way_37 : decode cX11_way 37 = .ok (.bipush (-4), 2) := by decide +kernel
theorem dX11_way_39 : decode cX11_way 39 = .ok (.ireturn, 1) := by decide +kernel
theorem dX11_way_40 : decode cX11_way 40 = .ok (.aload_n 0, 1) := by decide +kernel
theorem dX11_way_41 : decode cX11_way 41 = .ok (.getfield 87, 3) := by decide +kernel
theorem dX11_way_44 : decode cX11_way 44 = .ok (.aload_n 0, 1) := by decide +kernel
theorem dX11_way_45 : decode cX11_way 45 = .ok (.getfield 102, 3) := by decide +kernel
theorem dX11_way_48 : decode cX11_way 48 = .ok (.invokevirtual 111, 3) := by decide +kernel
theorem dX11_way_51 : decode cX11_way 51 = .ok (.istore_n 3, 1) := by decide +kernel
theorem dX11_way_52 : decode cX11_way 52 = .ok (.aload_n 0, 1) := by decide +kernel
theorem dX11_way_53 : decode cX11_way 53 = .ok (.iconst 0, 1) := by decide +kernel
theorem dX11_way_54 : decode cX11_way 54 = .ok (.putfield 102, 3) := by decide +kernel
theorem dX11_way_57 : decode cX11_way 57 = .ok (.iload_n 3, 1) := by decide +kernel
theorem dX11_way_58 : decode cX11_way 58 = .ok (.iconst (-1), 1) := by decide +kernel
theorem dX11_way_59 : decode cX11_way 59 = .ok (.if_icmp .eq 8, 3) := by decide +kernel
theorem dX11_way_62 : decode cX11_way 62 = .ok (.bipush (-10), 2) := by decide +kernel
theorem dX11_way_64 : decode cX11_way 64 = .ok (.iload_n 3, 1) := by decide +kernel
theorem dX11_way_65 : decode cX11_way 65 = .ok (.isub, 1) := by decide +kernel
theorem dX11_way_66 : decode cX11_way 66 = .ok (.ireturn, 1) := by decide +kernel
theorem dX11_way_67 : decode cX11_way 67 = .ok (.aload_n 0, 1) := by decide +kernel
theorem dX11_way_68 : decode cX11_way 68 = .ok (.getfield 50, 3) := by decide +kernel
theorem dX11_way_71 : decode cX11_way 71 = .ok (.iload_n 1, 1) := by decide +kernel
theorem dX11_way_72 : decode cX11_way 72 = .ok (.aload_n 0, 1) := by decide +kernel
theorem dX11_way_73 : decode cX11_way 73 = .ok (.getfield 87, 3) := by decide +kernel
theorem dX11_way_76 : decode cX11_way 76 = .ok (.iload_n 2, 1) := by decide +kernel
theorem dX11_way_77 : decode cX11_way 77 = .ok (.invokevirtual 334, 3) := by decide +kernel
theorem dX11_way_80 : decode cX11_way 80 = .ok (.istore 4, 2) := by decide +kernel
theorem dX11_way_82 : decode cX11_way 82 = .ok (.aload_n 0, 1) := by decide +kernel
theorem dX11_way_83 : decode cX11_way 83 = .ok (.new 82, 3) := by decide +kernel
theorem dX11_way_86 : decode cX11_way 86 = .ok (.dup, 1) := by decide +kernel
theorem dX11_way_87 : decode cX11_way 87 = .ok (.aload_n 0, 1) := by decide +kernel
theorem dX11_way_88 : decode cX11_way 88 = .ok (.getfield 9, 3) := by decide +kernel
theorem dX11_way_91 : decode cX11_way 91 = .ok (.invokespecial 84, 3) := by decide +kernel
theorem dX11_way_94 : decode cX11_way 94 = .ok (.putfield 87, 3) := by decide +kernel
theorem dX11_way_97 : decode cX11_way 97 = .ok (.iload 4, 2) := by decide +kernel
theorem dX11_way_99 : decode cX11_way 99 = .ok (.ireturn, 1) := by decide +kernel
theorem dX11_keeps_0 : decode cX11_keeps 0 = .ok (.aload_n 0, 1) := by decide +kernel
theorem dX11_keeps_1 : decode cX11_keeps 1 = .ok (.getfield 50, 3) := by decide +kernel
theorem dX11_keeps_4 : decode cX11_keeps 4 = .ok (.iload_n 1, 1) := by decide +kernel
theorem dX11_keeps_5 : decode cX11_keeps 5 = .ok (.invokevirtual 337, 3) := by decide +kernel
theorem dX11_keeps_8 : decode cX11_keeps 8 = .ok (.ifCond .eq 18, 3) := by decide +kernel
theorem dX11_keeps_11 : decode cX11_keeps 11 = .ok (.aload_n 0, 1) := by decide +kernel
theorem dX11_keeps_12 : decode cX11_keeps 12 = .ok (.getfield 50, 3) := by decide +kernel
theorem dX11_keeps_15 : decode cX11_keeps 15 = .ok (.iload_n 1, 1) := by decide +kernel
theorem dX11_keeps_16 : decode cX11_keeps 16 = .ok (.aload_n 0, 1) := by decide +kernel
theorem dX11_keeps_17 : decode cX11_keeps 17 = .ok (.getfield 99, 3) := by decide +kernel
theorem dX11_keeps_20 : decode cX11_keeps 20 = .ok (.invokevirtual 340, 3) := by decide +kernel
theorem dX11_keeps_23 : decode cX11_keeps 23 = .ok (.goto 5, 3) := by decide +kernel
theorem dX11_keeps_26 : decode cX11_keeps 26 = .ok (.bipush (-5), 2) := by decide +kernel
theorem dX11_keeps_28 : decode cX11_keeps 28 = .ok (.ireturn, 1) := by decide +kernel
theorem dX11_near_0 : decode cX11_near 0 = .ok (.iload_n 1, 1) := by decide +kernel
theorem dX11_near_1 : decode cX11_near 1 = .ok (.iconst 0, 1) := by decide +kernel
theorem dX11_near_2 : decode cX11_near 2 = .ok (.iconst 1, 1) := by decide +kernel
theorem dX11_near_3 : decode cX11_near 3 = .ok (.invokestatic 95, 3) := by decide +kernel
theorem dX11_near_6 : decode cX11_near 6 = .ok (.ifCond .ne 5, 3) := by decide +kernel
theorem dX11_near_9 : decode cX11_near 9 = .ok (.iconst (-1), 1) := by decide +kernel
theorem dX11_near_10 : decode cX11_near 10 = .ok (.ireturn, 1) := by decide +kernel
theorem dX11_near_11 : decode cX11_near 11 = .ok (.aload_n 0, 1) := by decide +kernel
theorem dX11_near_12 : decode cX11_near 12 = .ok (.getfield 50, 3) := by decide +kernel
theorem dX11_near_15 : decode cX11_near 15 = .ok (.aload_n 0, 1) := by decide +kernel
theorem dX11_near_16 : decode cX11_near 16 = .ok (.getfield 99, 3) := by decide +kernel
theorem dX11_near_19 : decode cX11_near 19 = .ok (.invokevirtual 343, 3) := by decide +kernel
theorem dX11_near_22 : decode cX11_near 22 = .ok (.istore_n 2, 1) := by decide +kernel
theorem dX11_near_23 : decode cX11_near 23 = .ok (.iload_n 1, 1) := by decide +kernel
theorem dX11_near_24 : decode cX11_near 24 = .ok (.ifCond .ne 14, 3) := by decide +kernel
theorem dX11_near_27 : decode cX11_near 27 = .ok (.aload_n 0, 1) := by decide +kernel
theorem dX11_near_28 : decode cX11_near 28 = .ok (.getfield 50, 3) := by decide +kernel
theorem dX11_near_31 : decode cX11_near 31 = .ok (.iload_n 2, 1) := by decide +kernel
theorem dX11_near_32 : decode cX11_near 32 = .ok (.invokevirtual 346, 3) := by decide +kernel
theorem dX11_near_35 : decode cX11_near 35 = .ok (.goto 11, 3) := by decide +kernel
theorem dX11_near_38 : decode cX11_near 38 = .ok (.aload_n 0, 1) := by decide +kernel
theorem dX11_near_39 : decode cX11_near 39 = .ok (.getfield 50, 3) := by decide +kernel
theorem dX11_near_42 : decode cX11_near 42 = .ok (.iload_n 2, 1) := by decide +kernel
theorem dX11_near_43 : decode cX11_near 43 = .ok (.invokevirtual 349, 3) := by decide +kernel
theorem dX11_near_46 : decode cX11_near 46 = .ok (.ireturn, 1) := by decide +kernel
theorem dX11_line_0 : decode cX11_line 0 = .ok (.iload_n 1, 1) := by decide +kernel
theorem dX11_line_1 : decode cX11_line 1 = .ok (.iconst 0, 1) := by decide +kernel
theorem dX11_line_2 : decode cX11_line 2 = .ok (.bipush 99, 2) := by decide +kernel
theorem dX11_line_4 : decode cX11_line 4 = .ok (.invokestatic 95, 3) := by decide +kernel
theorem dX11_line_7 : decode cX11_line 7 = .ok (.ifCond .ne 6, 3) := by decide +kernel
theorem dX11_line_10 : decode cX11_line 10 = .ok (.bipush (-2), 2) := by decide +kernel
theorem dX11_line_12 : decode cX11_line 12 = .ok (.ireturn, 1) := by decide +kernel
theorem dX11_line_13 : decode cX11_line 13 = .ok (.aload_n 0, 1) := by decide +kernel
theorem dX11_line_14 : decode cX11_line 14 = .ok (.getfield 57, 3) := by decide +kernel
theorem dX11_line_17 : decode cX11_line 17 = .ok (.invokevirtual 352, 3) := by decide +kernel
theorem dX11_line_20 : decode cX11_line 20 = .ok (.ifCond .eq 8, 3) := by decide +kernel
theorem dX11_line_23 : decode cX11_line 23 = .ok (.bipush (-4), 2) := by decide +kernel
theorem dX11_line_25 : decode cX11_line 25 = .ok (.goto 11, 3) := by decide +kernel
theorem dX11_line_28 : decode cX11_line 28 = .ok (.aload_n 0, 1) := by decide +kernel
theorem dX11_line_29 : decode cX11_line 29 = .ok (.getfield 57, 3) := by decide +kernel
theorem dX11_line_32 : decode cX11_line 32 = .ok (.iload_n 1, 1) := by decide +kernel
theorem dX11_line_33 : decode cX11_line 33 = .ok (.invokevirtual 355, 3) := by decide +kernel
theorem dX11_line_36 : decode cX11_line 36 = .ok (.ireturn, 1) := by decide +kernel
theorem dX11_section_0 : decode cX11_section 0 = .ok (.aload_n 0, 1) := by decide +kernel
theorem dX11_section_1 : decode cX11_section 1 = .ok (.getfield 57, 3) := by decide +kernel
theorem dX11_section_4 : decode cX11_section 4 = .ok (.invokevirtual 358, 3) := by decide +kernel
theorem dX11_section_7 : decode cX11_section 7 = .ok (.ifCond .eq 8, 3) := by decide +kernel
theorem dX11_section_10 : decode cX11_section 10 = .ok (.bipush (-4), 2) := by decide +kernel
theorem dX11_section_12 : decode cX11_section 12 = .ok (.goto 10, 3) := by decide +kernel
theorem dX11_section_15 : decode cX11_section 15 = .ok (.aload_n 0, 1) := by decide +kernel
theorem dX11_section_16 : decode cX11_section 16 = .ok (.getfield 57, 3) := by decide +kernel
theorem dX11_section_19 : decode cX11_section 19 = .ok (.invokevirtual 361, 3) := by decide +kernel
theorem dX11_section_22 : decode cX11_section 22 = .ok (.ireturn, 1) := by decide +kernel
theorem dX11_like_0 : decode cX11_like 0 = .ok (.iload_n 1, 1) := by decide +kernel
theorem dX11_like_1 : decode cX11_like 1 = .ok (.iconst 0, 1) := by decide +kernel
theorem dX11_like_2 : decode cX11_like 2 = .ok (.aload_n 0, 1) := by decide +kernel
theorem dX11_like_3 : decode cX11_like 3 = .ok (.getfield 57, 3) := by decide +kernel
theorem dX11_like_6 : decode cX11_like 6 = .ok (.getfield 364, 3) := by decide +kernel
theorem dX11_like_9 : decode cX11_like 9 = .ok (.iconst 1, 1) := by decide +kernel
theorem dX11_like_10 : decode cX11_like 10 = .ok (.isub, 1) := by decide +kernel
theorem dX11_like_11 : decode cX11_like 11 = .ok (.invokestatic 95, 3) := by decide +kernel
theorem dX11_like_14 : decode cX11_like 14 = .ok (.ifCond .eq 31, 3) := by decide +kernel
theorem dX11_like_17 : decode cX11_like 17 = .ok (.iload_n 2, 1) := by decide +kernel
theorem dX11_like_18 : decode cX11_like 18 = .ok (.iconst 0, 1) := by decide +kernel
theorem dX11_like_19 : decode cX11_like 19 = .ok (.aload_n 0, 1) := by decide +kernel
theorem dX11_like_20 : decode cX11_like 20 = .ok (.getfield 57, 3) := by decide +kernel
theorem dX11_like_23 : decode cX11_like 23 = .ok (.getfield 367, 3) := by decide +kernel
theorem dX11_like_26 : decode cX11_like 26 = .ok (.iconst 1, 1) := by decide +kernel
theorem dX11_like_27 : decode cX11_like 27 = .ok (.isub, 1) := by decide +kernel
theorem dX11_like_28 : decode cX11_like 28 = .ok (.invokestatic 95, 3) := by decide +kernel
theorem dX11_like_31 : decode cX11_like 31 = .ok (.ifCond .eq 14, 3) := by decide +kernel
theorem dX11_like_34 : decode cX11_like 34 = .ok (.iload_n 3, 1) := by decide +kernel
theorem dX11_like_35 : decode cX11_like 35 = .ok (.bipush (-9), 2) := by decide +kernel
theorem dX11_like_37 : decode cX11_like 37 = .ok (.bipush 9, 2) := by decide +kernel
theorem dX11_like_39 : decode cX11_like 39 = .ok (.invokestatic 95, 3) := by decide +kernel
theorem dX11_like_42 : decode cX11_like 42 = .ok (.ifCond .ne 6, 3) := by decide +kernel
theorem dX11_like_45 : decode cX11_like 45 = .ok (.bipush (-100), 2) := by decide +kernel
theorem dX11_like_47 : decode cX11_like 47 = .ok (.ireturn, 1) := by decide +kernel
theorem dX11_like_48 : decode cX11_like 48 = .ok (.aload_n 0, 1) := by decide +kernel
theorem dX11_like_49 : decode cX11_like 49 = .ok (.getfield 57, 3) := by decide +kernel
theorem dX11_like_52 : decode cX11_like 52 = .ok (.getfield 370, 3) := by decide +kernel
theorem dX11_like_55 : decode cX11_like 55 = .ok (.iload_n 1, 1) := by decide +kernel
theorem dX11_like_56 : decode cX11_like 56 = .ok (.aaload, 1) := by decide +kernel
theorem dX11_like_57 : decode cX11_like 57 = .ok (.iload_n 2, 1) := by decide +kernel
theorem dX11_like_58 : decode cX11_like 58 = .ok (.iaload, 1) := by decide +kernel
theorem dX11_like_59 : decode cX11_like 59 = .ok (.istore 4, 2) := by decide +kernel
theorem dX11_like_61 : decode cX11_like 61 = .ok (.aload_n 0, 1) := by decide +kernel
theorem dX11_like_62 : decode cX11_like 62 = .ok (.getfield 57, 3) := by decide +kernel
theorem dX11_like_65 : decode cX11_like 65 = .ok (.getfield 370, 3) := by decide +kernel
theorem dX11_like_68 : decode cX11_like 68 = .ok (.iload_n 1, 1) := by decide +kernel
theorem dX11_like_69 : decode cX11_like 69 = .ok (.aaload, 1) := by decide +kernel
theorem dX11_like_70 : decode cX11_like 70 = .ok (.iload_n 2, 1) := by decide +kernel
theorem dX11_like_71 : decode cX11_like 71 = .ok (.iload_n 3, 1) := by decide +kernel
theorem dX11_like_72 : decode cX11_like 72 = .ok (.iastore, 1) := by decide +kernel
theorem dX11_like_73 : decode cX11_like 73 = .ok (.iload 4, 2) := by decide +kernel
theorem dX11_like_75 : decode cX11_like 75 = .ok (.ireturn, 1) := by decide +kernel
theorem dX11_yes_0 : decode cX11_yes 0 = .ok (.aload_n 0, 1) := by decide +kernel
theorem dX11_yes_1 : decode cX11_yes 1 = .ok (.getfield 57, 3) := by decide +kernel
theorem dX11_yes_4 : decode cX11_yes 4 = .ok (.iload_n 1, 1) := by decide +kernel
theorem dX11_yes_5 : decode cX11_yes 5 = .ok (.invokevirtual 374, 3) := by decide +kernel
theorem dX11_yes_8 : decode cX11_yes 8 = .ok (.ifCond .eq 14, 3) := by decide +kernel
theorem dX11_yes_11 : decode cX11_yes 11 = .ok (.aload_n 0, 1) := by decide +kernel
theorem dX11_yes_12 : decode cX11_yes 12 = .ok (.getfield 57, 3) := by decide +kernel
theorem dX11_yes_15 : decode cX11_yes 15 = .ok (.iload_n 1, 1) := by decide +kernel
theorem dX11_yes_16 : decode cX11_yes 16 = .ok (.invokevirtual 377, 3) := by decide +kernel
theorem dX11_yes_19 : decode cX11_yes 19 = .ok (.goto 4, 3) := by decide +kernel
theorem dX11_yes_22 : decode cX11_yes 22 = .ok (.iconst (-1), 1) := by decide +kernel
theorem dX11_yes_23 : decode cX11_yes 23 = .ok (.ireturn, 1) := by decide +kernel
theorem dX11_least_0 : decode cX11_least 0 = .ok (.iload_n 1, 1) := by decide +kernel
theorem dX11_least_1 : decode cX11_least 1 = .ok (.iconst 0, 1) := by decide +kernel
theorem dX11_least_2 : decode cX11_least 2 = .ok (.iconst 1, 1) := by decide +kernel
theorem dX11_least_3 : decode cX11_least 3 = .ok (.invokestatic 95, 3) := by decide +kernel
theorem dX11_least_6 : decode cX11_least 6 = .ok (.ifCond .ne 5, 3) := by decide +kernel
theorem dX11_least_9 : decode cX11_least 9 = .ok (.iconst (-1), 1) := by decide +kernel
theorem dX11_least_10 : decode cX11_least 10 = .ok (.ireturn, 1) := by decide +kernel
theorem dX11_least_11 : decode cX11_least 11 = .ok (.aload_n 0, 1) := by decide +kernel
theorem dX11_least_12 : decode cX11_least 12 = .ok (.getfield 57, 3) := by decide +kernel
theorem dX11_least_15 : decode cX11_least 15 = .ok (.invokevirtual 380, 3) := by decide +kernel
theorem dX11_least_18 : decode cX11_least 18 = .ok (.istore_n 2, 1) := by decide +kernel
theorem dX11_least_19 : decode cX11_least 19 = .ok (.iload_n 2, 1) := by decide +kernel
theorem dX11_least_20 : decode cX11_least 20 = .ok (.ifCond .ge 6, 3) := by decide +kernel
theorem dX11_least_23 : decode cX11_least 23 = .ok (.bipush (-3), 2) := by decide +kernel
theorem dX11_least_25 : decode cX11_least 25 = .ok (.ireturn, 1) := by decide +kernel
theorem dX11_least_26 : decode cX11_least 26 = .ok (.iload_n 1, 1) := by decide +kernel
theorem dX11_least_27 : decode cX11_least 27 = .ok (.ifCond .ne 7, 3) := by decide +kernel
theorem dX11_least_30 : decode cX11_least 30 = .ok (.iload_n 2, 1) := by decide +kernel
theorem dX11_least_31 : decode cX11_least 31 = .ok (.goto 11, 3) := by decide +kernel
theorem dX11_least_34 : decode cX11_least 34 = .ok (.aload_n 0, 1) := by decide +kernel
theorem dX11_least_35 : decode cX11_least 35 = .ok (.getfield 57, 3) := by decide +kernel
theorem dX11_least_38 : decode cX11_least 38 = .ok (.iload_n 2, 1) := by decide +kernel
theorem dX11_least_39 : decode cX11_least 39 = .ok (.invokevirtual 383, 3) := by decide +kernel
theorem dX11_least_42 : decode cX11_least 42 = .ok (.ireturn, 1) := by decide +kernel
theorem dX11_teach_0 : decode cX11_teach 0 = .ok (.aload_n 0, 1) := by decide +kernel
theorem dX11_teach_1 : decode cX11_teach 1 = .ok (.getfield 25, 3) := by decide +kernel
theorem dX11_teach_4 : decode cX11_teach 4 = .ok (.iload_n 1, 1) := by decide +kernel
theorem dX11_teach_5 : decode cX11_teach 5 = .ok (.invokevirtual 185, 3) := by decide +kernel
theorem dX11_teach_8 : decode cX11_teach 8 = .ok (.ifCond .ne 5, 3) := by decide +kernel
theorem dX11_teach_11 : decode cX11_teach 11 = .ok (.iconst (-1), 1) := by decide +kernel
theorem dX11_teach_12 : decode cX11_teach 12 = .ok (.ireturn, 1) := by decide +kernel
theorem dX11_teach_13 : decode cX11_teach 13 = .ok (.iload_n 2, 1) := by decide +kernel
theorem dX11_teach_14 : decode cX11_teach 14 = .ok (.tableswitch 140 0 2 #[26, 54, 82], 26) := by decide +kernel
theorem dX11_teach_40 : decode cX11_teach 40 = .ok (.iload_n 3, 1) := by decide +kernel
theorem dX11_teach_41 : decode cX11_teach 41 = .ok (.iconst 1, 1) := by decide +kernel
theorem dX11_teach_42 : decode cX11_teach 42 = .ok (.bipush 12, 2) := by decide +kernel
theorem dX11_teach_44 : decode cX11_teach 44 = .ok (.invokestatic 95, 3) := by decide +kernel
theorem dX11_teach_47 : decode cX11_teach 47 = .ok (.ifCond .eq 18, 3) := by decide +kernel
theorem dX11_teach_50 : decode cX11_teach 50 = .ok (.aload_n 0, 1) := by decide +kernel
theorem dX11_teach_51 : decode cX11_teach 51 = .ok (.getfield 64, 3) := by decide +kernel
theorem dX11_teach_54 : decode cX11_teach 54 = .ok (.getfield 386, 3) := by decide +kernel
theorem dX11_teach_57 : decode cX11_teach 57 = .ok (.iload_n 1, 1) := by decide +kernel
theorem dX11_teach_58 : decode cX11_teach 58 = .ok (.iload_n 3, 1) := by decide +kernel
theorem dX11_teach_59 : decode cX11_teach 59 = .ok (.invokestatic 389, 3) := by decide +kernel
theorem dX11_teach_62 : decode cX11_teach 62 = .ok (.goto 5, 3) := by decide +kernel
theorem dX11_teach_65 : decode cX11_teach 65 = .ok (.bipush (-2), 2) := by decide +kernel
theorem dX11_teach_67 : decode cX11_teach 67 = .ok (.ireturn, 1) := by decide +kernel
theorem dX11_teach_68 : decode cX11_teach 68 = .ok (.iload_n 3, 1) := by decide +kernel
theorem dX11_teach_69 : decode cX11_teach 69 = .ok (.iconst 0, 1) := by decide +kernel
theorem dX11_teach_70 : decode cX11_teach 70 = .ok (.bipush 99, 2) := by decide +kernel
theorem dX11_teach_72 : decode cX11_teach 72 = .ok (.invokestatic 95, 3) := by decide +kernel
theorem dX11_teach_75 : decode cX11_teach 75 = .ok (.ifCond .eq 18, 3) := by decide +kernel
theorem dX11_teach_78 : decode cX11_teach 78 = .ok (.aload_n 0, 1) := by decide +kernel
theorem dX11_teach_79 : decode cX11_teach 79 = .ok (.getfield 64, 3) := by decide +kernel
theorem dX11_teach_82 : decode cX11_teach 82 = .ok (.getfield 393, 3) := by decide +kernel
theorem dX11_teach_85 : decode cX11_teach 85 = .ok (.iload_n 1, 1) := by decide +kernel
theorem dX11_teach_86 : decode cX11_teach 86 = .ok (.iload_n 3, 1) := by decide +kernel
theorem dX11_teach_87 : decode cX11_teach 87 = .ok (.invokestatic 389, 3) := by decide +kernel
theorem dX11_teach_90 : decode cX11_teach 90 = .ok (.goto 5, 3) := by decide +kernel
theorem dX11_teach_93 : decode cX11_teach 93 = .ok (.bipush (-2), 2) := by decide +kernel
theorem dX11_teach_95 : decode cX11_teach 95 = .ok (.ireturn, 1) := by decide +kernel
theorem dX11_teach_96 : decode cX11_teach 96 = .ok (.iload_n 3, 1) := by decide +kernel
theorem dX11_teach_97 : decode cX11_teach 97 = .ok (.iconst (-1), 1) := by decide +kernel
theorem dX11_teach_98 : decode cX11_teach 98 = .ok (.if_icmp .eq 26, 3) := by decide +kernel
theorem dX11_teach_101 : decode cX11_teach 101 = .ok (.aload_n 0, 1) := by decide +kernel
theorem dX11_teach_102 : decode cX11_teach 102 = .ok (.getfield 25, 3) := by decide +kernel
theorem dX11_teach_105 : decode cX11_teach 105 = .ok (.iload_n 3, 1) := by decide +kernel
theorem dX11_teach_106 : decode cX11_teach 106 = .ok (.invokevirtual 185, 3) := by decide +kernel
theorem dX11_teach_109 : decode cX11_teach 109 = .ok (.ifCond .eq 19, 3) := by decide +kernel
theorem dX11_teach_112 : decode cX11_teach 112 = .ok (.aload_n 0, 1) := by decide +kernel
theorem dX11_teach_113 : decode cX11_teach 113 = .ok (.getfield 64, 3) := by decide +kernel
theorem dX11_teach_116 : decode cX11_teach 116 = .ok (.iload_n 1, 1) := by decide +kernel
theorem dX11_teach_117 : decode cX11_teach 117 = .ok (.iload_n 3, 1) := by decide +kernel
theorem dX11_teach_118 : decode cX11_teach 118 = .ok (.invokevirtual 396, 3) := by decide +kernel
theorem dX11_teach_121 : decode cX11_teach 121 = .ok (.ifCond .ne 7, 3) := by decide +kernel
theorem dX11_teach_124 : decode cX11_teach 124 = .ok (.iconst 1, 1) := by decide +kernel
theorem dX11_teach_125 : decode cX11_teach 125 = .ok (.goto 4, 3) := by decide +kernel
theorem dX11_teach_128 : decode cX11_teach 128 = .ok (.iconst 0, 1) := by decide +kernel
theorem dX11_teach_129 : decode cX11_teach 129 = .ok (.istore 4, 2) := by decide +kernel
theorem dX11_teach_131 : decode cX11_teach 131 = .ok (.iload 4, 2) := by decide +kernel
theorem dX11_teach_133 : decode cX11_teach 133 = .ok (.ifCond .eq 18, 3) := by decide +kernel
theorem dX11_teach_136 : decode cX11_teach 136 = .ok (.aload_n 0, 1) := by decide +kernel
theorem dX11_teach_137 : decode cX11_teach 137 = .ok (.getfield 64, 3) := by decide +kernel
theorem dX11_teach_140 : decode cX11_teach 140 = .ok (.getfield 399, 3) := by decide +kernel
theorem dX11_teach_143 : decode cX11_teach 143 = .ok (.iload_n 1, 1) := by decide +kernel
theorem dX11_teach_144 : decode cX11_teach 144 = .ok (.iload_n 3, 1) := by decide +kernel
theorem dX11_teach_145 : decode cX11_teach 145 = .ok (.invokestatic 389, 3) := by decide +kernel
theorem dX11_teach_148 : decode cX11_teach 148 = .ok (.goto 5, 3) := by decide +kernel
theorem dX11_teach_151 : decode cX11_teach 151 = .ok (.bipush (-2), 2) := by decide +kernel
theorem dX11_teach_153 : decode cX11_teach 153 = .ok (.ireturn, 1) := by decide +kernel
theorem dX11_teach_154 : decode cX11_teach 154 = .ok (.iconst (-1), 1) := by decide +kernel
theorem dX11_teach_155 : decode cX11_teach 155 = .ok (.ireturn, 1) := by decide +kernel
theorem dX11_waits_0 : decode cX11_waits 0 = .ok (.aload_n 0, 1) := by decide +kernel
theorem dX11_waits_1 : decode cX11_waits 1 = .ok (.getfield 25, 3) := by decide +kernel
theorem dX11_waits_4 : decode cX11_waits 4 = .ok (.getfield 402, 3) := by decide +kernel
theorem dX11_waits_7 : decode cX11_waits 7 = .ok (.ifCond .ne 7, 3) := by decide +kernel
theorem dX11_waits_10 : decode cX11_waits 10 = .ok (.iconst (-1), 1) := by decide +kernel
theorem dX11_waits_11 : decode cX11_waits 11 = .ok (.goto 17, 3) := by decide +kernel
theorem dX11_waits_14 : decode cX11_waits 14 = .ok (.aload_n 0, 1) := by decide +kernel
theorem dX11_waits_15 : decode cX11_waits 15 = .ok (.getfield 64, 3) := by decide +kernel
theorem dX11_waits_18 : decode cX11_waits 18 = .ok (.aload_n 0, 1) := by decide +kernel
theorem dX11_waits_19 : decode cX11_waits 19 = .ok (.getfield 25, 3) := by decide +kernel
theorem dX11_waits_22 : decode cX11_waits 22 = .ok (.getfield 402, 3) := by decide +kernel
theorem dX11_waits_25 : decode cX11_waits 25 = .ok (.invokevirtual 404, 3) := by decide +kernel
theorem dX11_waits_28 : decode cX11_waits 28 = .ok (.ireturn, 1) := by decide +kernel
theorem dX11_taught_0 : decode cX11_taught 0 = .ok (.iload_n 1, 1) := by decide +kernel
theorem dX11_taught_1 : decode cX11_taught 1 = .ok (.iconst 0, 1) := by decide +kernel
theorem dX11_taught_2 : decode cX11_taught 2 = .ok (.aload_n 0, 1) := by decide +kernel
theorem dX11_taught_3 : decode cX11_taught 3 = .ok (.getfield 25, 3) := by decide +kernel
theorem dX11_taught_6 : decode cX11_taught 6 = .ok (.getfield 402, 3) := by decide +kernel
theorem dX11_taught_9 : decode cX11_taught 9 = .ok (.iconst 1, 1) := by decide +kernel
theorem dX11_taught_10 : decode cX11_taught 10 = .ok (.isub, 1) := by decide +kernel
theorem dX11_taught_11 : decode cX11_taught 11 = .ok (.invokestatic 95, 3) := by decide +kernel
theorem dX11_taught_14 : decode cX11_taught 14 = .ok (.ifCond .eq 21, 3) := by decide +kernel
theorem dX11_taught_17 : decode cX11_taught 17 = .ok (.aload_n 0, 1) := by decide +kernel
theorem dX11_taught_18 : decode cX11_taught 18 = .ok (.getfield 64, 3) := by decide +kernel
theorem dX11_taught_21 : decode cX11_taught 21 = .ok (.iload_n 1, 1) := by decide +kernel
theorem dX11_taught_22 : decode cX11_taught 22 = .ok (.aload_n 0, 1) := by decide +kernel
theorem dX11_taught_23 : decode cX11_taught 23 = .ok (.getfield 25, 3) := by decide +kernel
theorem dX11_taught_26 : decode cX11_taught 26 = .ok (.getfield 402, 3) := by decide +kernel
theorem dX11_taught_29 : decode cX11_taught 29 = .ok (.invokevirtual 407, 3) := by decide +kernel
theorem dX11_taught_32 : decode cX11_taught 32 = .ok (.goto 4, 3) := by decide +kernel
theorem dX11_taught_35 : decode cX11_taught 35 = .ok (.iconst (-1), 1) := by decide +kernel
theorem dX11_taught_36 : decode cX11_taught 36 = .ok (.ireturn, 1) := by decide +kernel
theorem dX11_act_0 : decode cX11_act 0 = .ok (.aload_n 0, 1) := by decide +kernel
theorem dX11_act_1 : decode cX11_act 1 = .ok (.getfield 16, 3) := by decide +kernel
theorem dX11_act_4 : decode cX11_act 4 = .ok (.invokevirtual 410, 3) := by decide +kernel
theorem dX11_act_7 : decode cX11_act 7 = .ok (.aload_n 0, 1) := by decide +kernel
theorem dX11_act_8 : decode cX11_act 8 = .ok (.getfield 16, 3) := by decide +kernel
theorem dX11_act_11 : decode cX11_act 11 = .ok (.iload_n 1, 1) := by decide +kernel
theorem dX11_act_12 : decode cX11_act 12 = .ok (.invokevirtual 122, 3) := by decide +kernel
theorem dX11_act_15 : decode cX11_act 15 = .ok (.ifCond .ne 5, 3) := by decide +kernel
theorem dX11_act_18 : decode cX11_act 18 = .ok (.iconst 0, 1) := by decide +kernel
theorem dX11_act_19 : decode cX11_act 19 = .ok (.ireturn, 1) := by decide +kernel
theorem dX11_act_20 : decode cX11_act 20 = .ok (.iload_n 2, 1) := by decide +kernel
theorem dX11_act_21 : decode cX11_act 21 = .ok (.tableswitch 81 0 2 #[27, 45, 63], 27) := by decide +kernel
theorem dX11_act_48 : decode cX11_act 48 = .ok (.aload_n 0, 1) := by decide +kernel
theorem dX11_act_49 : decode cX11_act 49 = .ok (.getfield 16, 3) := by decide +kernel
theorem dX11_act_52 : decode cX11_act 52 = .ok (.aload_n 0, 1) := by decide +kernel
theorem dX11_act_53 : decode cX11_act 53 = .ok (.getfield 16, 3) := by decide +kernel
theorem dX11_act_56 : decode cX11_act 56 = .ok (.iload_n 1, 1) := by decide +kernel
theorem dX11_act_57 : decode cX11_act 57 = .ok (.invokevirtual 126, 3) := by decide +kernel
theorem dX11_act_60 : decode cX11_act 60 = .ok (.iload_n 1, 1) := by decide +kernel
theorem dX11_act_61 : decode cX11_act 61 = .ok (.iload_n 3, 1) := by decide +kernel
theorem dX11_act_62 : decode cX11_act 62 = .ok (.invokevirtual 413, 3) := by decide +kernel
theorem dX11_act_65 : decode cX11_act 65 = .ok (.ireturn, 1) := by decide +kernel
theorem dX11_act_66 : decode cX11_act 66 = .ok (.aload_n 0, 1) := by decide +kernel
theorem dX11_act_67 : decode cX11_act 67 = .ok (.getfield 16, 3) := by decide +kernel
theorem dX11_act_70 : decode cX11_act 70 = .ok (.aload_n 0, 1) := by decide +kernel
theorem dX11_act_71 : decode cX11_act 71 = .ok (.getfield 16, 3) := by decide +kernel
theorem dX11_act_74 : decode cX11_act 74 = .ok (.iload_n 1, 1) := by decide +kernel
theorem dX11_act_75 : decode cX11_act 75 = .ok (.invokevirtual 126, 3) := by decide +kernel
theorem dX11_act_78 : decode cX11_act 78 = .ok (.iload_n 1, 1) := by decide +kernel
theorem dX11_act_79 : decode cX11_act 79 = .ok (.iload_n 3, 1) := by decide +kernel
theorem dX11_act_80 : decode cX11_act 80 = .ok (.invokevirtual 417, 3) := by decide +kernel
theorem dX11_act_83 : decode cX11_act 83 = .ok (.ireturn, 1) := by decide +kernel
theorem dX11_act_84 : decode cX11_act 84 = .ok (.aload_n 0, 1) := by decide +kernel
theorem dX11_act_85 : decode cX11_act 85 = .ok (.getfield 16, 3) := by decide +kernel
theorem dX11_act_88 : decode cX11_act 88 = .ok (.aload_n 0, 1) := by decide +kernel
theorem dX11_act_89 : decode cX11_act 89 = .ok (.getfield 16, 3) := by decide +kernel
theorem dX11_act_92 : decode cX11_act 92 = .ok (.iload_n 1, 1) := by decide +kernel
theorem dX11_act_93 : decode cX11_act 93 = .ok (.invokevirtual 126, 3) := by decide +kernel
theorem dX11_act_96 : decode cX11_act 96 = .ok (.iload_n 1, 1) := by decide +kernel
theorem dX11_act_97 : decode cX11_act 97 = .ok (.iload_n 3, 1) := by decide +kernel
theorem dX11_act_98 : decode cX11_act 98 = .ok (.invokevirtual 420, 3) := by decide +kernel
theorem dX11_act_101 : decode cX11_act 101 = .ok (.ireturn, 1) := by decide +kernel
theorem dX11_act_102 : decode cX11_act 102 = .ok (.iconst 0, 1) := by decide +kernel
theorem dX11_act_103 : decode cX11_act 103 = .ok (.ireturn, 1) := by decide +kernel
theorem dX11_trace_0 : decode cX11_trace 0 = .ok (.aload_n 0, 1) := by decide +kernel
theorem dX11_trace_1 : decode cX11_trace 1 = .ok (.getfield 16, 3) := by decide +kernel
theorem dX11_trace_4 : decode cX11_trace 4 = .ok (.iload_n 1, 1) := by decide +kernel
theorem dX11_trace_5 : decode cX11_trace 5 = .ok (.invokevirtual 423, 3) := by decide +kernel
theorem dX11_trace_8 : decode cX11_trace 8 = .ok (.ireturn, 1) := by decide +kernel
theorem dX11_taken_0 : decode cX11_taken 0 = .ok (.iload_n 2, 1) := by decide +kernel
theorem dX11_taken_1 : decode cX11_taken 1 = .ok (.iconst 0, 1) := by decide +kernel
theorem dX11_taken_2 : decode cX11_taken 2 = .ok (.iconst 5, 1) := by decide +kernel
theorem dX11_taken_3 : decode cX11_taken 3 = .ok (.invokestatic 95, 3) := by decide +kernel
theorem dX11_taken_6 : decode cX11_taken 6 = .ok (.ifCond .ne 6, 3) := by decide +kernel
theorem dX11_taken_9 : decode cX11_taken 9 = .ok (.bipush (-2), 2) := by decide +kernel
theorem dX11_taken_11 : decode cX11_taken 11 = .ok (.ireturn, 1) := by decide +kernel
theorem dX11_taken_12 : decode cX11_taken 12 = .ok (.aload_n 0, 1) := by decide +kernel
theorem dX11_taken_13 : decode cX11_taken 13 = .ok (.getfield 16, 3) := by decide +kernel
theorem dX11_taken_16 : decode cX11_taken 16 = .ok (.iload_n 1, 1) := by decide +kernel
theorem dX11_taken_17 : decode cX11_taken 17 = .ok (.invokevirtual 122, 3) := by decide +kernel
theorem dX11_taken_20 : decode cX11_taken 20 = .ok (.ifCond .ne 6, 3) := by decide +kernel
theorem dX11_taken_23 : decode cX11_taken 23 = .ok (.bipush (-11), 2) := by decide +kernel
theorem dX11_taken_25 : decode cX11_taken 25 = .ok (.ireturn, 1) := by decide +kernel
theorem dX11_taken_26 : decode cX11_taken 26 = .ok (.aload_n 0, 1) := by decide +kernel
theorem dX11_taken_27 : decode cX11_taken 27 = .ok (.getfield 16, 3) := by decide +kernel
theorem dX11_taken_30 : decode cX11_taken 30 = .ok (.iload_n 1, 1) := by decide +kernel
theorem dX11_taken_31 : decode cX11_taken 31 = .ok (.invokevirtual 126, 3) := by decide +kernel
theorem dX11_taken_34 : decode cX11_taken 34 = .ok (.getfield 142, 3) := by decide +kernel
theorem dX11_taken_37 : decode cX11_taken 37 = .ok (.istore_n 3, 1) := by decide +kernel
theorem dX11_taken_38 : decode cX11_taken 38 = .ok (.iload_n 3, 1) := by decide +kernel
theorem dX11_taken_39 : decode cX11_taken 39 = .ok (.iload_n 2, 1) := by decide +kernel
theorem dX11_taken_40 : decode cX11_taken 40 = .ok (.invokestatic 426, 3) := by decide +kernel
theorem dX11_taken_43 : decode cX11_taken 43 = .ok (.ifCond .eq 7, 3) := by decide +kernel
theorem dX11_taken_46 : decode cX11_taken 46 = .ok (.iload_n 3, 1) := by decide +kernel
theorem dX11_taken_47 : decode cX11_taken 47 = .ok (.goto 5, 3) := by decide +kernel
theorem dX11_taken_50 : decode cX11_taken 50 = .ok (.bipush (-13), 2) := by decide +kernel
theorem dX11_taken_52 : decode cX11_taken 52 = .ok (.ireturn, 1) := by decide +kernel
theorem dX11_count_0 : decode cX11_count 0 = .ok (.iload_n 1, 1) := by decide +kernel
theorem dX11_count_1 : decode cX11_count 1 = .ok (.tableswitch 167 0 12 #[67, 75, 83, 91, 99, 108, 117, 122, 130, 138, 143, 151, 159], 67) := by decide +kernel
theorem dX11_count_68 : decode cX11_count 68 = .ok (.aload_n 0, 1) := by decide +kernel
theorem dX11_count_69 : decode cX11_count 69 = .ok (.getfield 16, 3) := by decide +kernel
theorem dX11_count_72 : decode cX11_count 72 = .ok (.getfield 429, 3) := by decide +kernel
theorem dX11_count_75 : decode cX11_count 75 = .ok (.ireturn, 1) := by decide +kernel
theorem dX11_count_76 : decode cX11_count 76 = .ok (.aload_n 0, 1) := by decide +kernel
theorem dX11_count_77 : decode cX11_count 77 = .ok (.getfield 25, 3) := by decide +kernel
theorem dX11_count_80 : decode cX11_count 80 = .ok (.getfield 402, 3) := by decide +kernel
theorem dX11_count_83 : decode cX11_count 83 = .ok (.ireturn, 1) := by decide +kernel
theorem dX11_count_84 : decode cX11_count 84 = .ok (.aload_n 0, 1) := by decide +kernel
theorem dX11_count_85 : decode cX11_count 85 = .ok (.getfield 32, 3) := by decide +kernel
theorem dX11_count_88 : decode cX11_count 88 = .ok (.getfield 430, 3) := by decide +kernel
theorem dX11_count_91 : decode cX11_count 91 = .ok (.ireturn, 1) := by decide +kernel
theorem dX11_count_92 : decode cX11_count 92 = .ok (.aload_n 0, 1) := by decide +kernel
theorem dX11_count_93 : decode cX11_count 93 = .ok (.getfield 41, 3) := by decide +kernel
theorem dX11_count_96 : decode cX11_count 96 = .ok (.getfield 431, 3) := by decide +kernel
theorem dX11_count_99 : decode cX11_count 99 = .ok (.ireturn, 1) := by decide +kernel
theorem dX11_count_100 : decode cX11_count 100 = .ok (.aload_n 0, 1) := by decide +kernel
theorem dX11_count_101 : decode cX11_count 101 = .ok (.getfield 41, 3) := by decide +kernel
theorem dX11_count_104 : decode cX11_count 104 = .ok (.iconst 0, 1) := by decide +kernel
theorem dX11_count_105 : decode cX11_count 105 = .ok (.invokevirtual 432, 3) := by decide +kernel
theorem dX11_count_108 : decode cX11_count 108 = .ok (.ireturn, 1) := by decide +kernel
theorem dX11_count_109 : decode cX11_count 109 = .ok (.aload_n 0, 1) := by decide +kernel
theorem dX11_count_110 : decode cX11_count 110 = .ok (.getfield 41, 3) := by decide +kernel
theorem dX11_count_113 : decode cX11_count 113 = .ok (.iconst 2, 1) := by decide +kernel
theorem dX11_count_114 : decode cX11_count 114 = .ok (.invokevirtual 432, 3) := by decide +kernel
theorem dX11_count_117 : decode cX11_count 117 = .ok (.ireturn, 1) := by decide +kernel
theorem dX11_count_118 : decode cX11_count 118 = .ok (.aload_n 0, 1) := by decide +kernel
theorem dX11_count_119 : decode cX11_count 119 = .ok (.getfield 99, 3) := by decide +kernel
theorem dX11_count_122 : decode cX11_count 122 = .ok (.ireturn, 1) := by decide +kernel
theorem dX11_count_123 : decode cX11_count 123 = .ok (.aload_n 0, 1) := by decide +kernel
theorem dX11_count_124 : decode cX11_count 124 = .ok (.getfield 57, 3) := by decide +kernel
theorem dX11_count_127 : decode cX11_count 127 = .ok (.getfield 367, 3) := by decide +kernel
theorem dX11_count_130 : decode cX11_count 130 = .ok (.ireturn, 1) := by decide +kernel
theorem dX11_count_131 : decode cX11_count 131 = .ok (.aload_n 0, 1) := by decide +kernel
theorem dX11_count_132 : decode cX11_count 132 = .ok (.getfield 57, 3) := by decide +kernel
theorem dX11_count_135 : decode cX11_count 135 = .ok (.getfield 364, 3) := by decide +kernel
theorem dX11_count_138 : decode cX11_count 138 = .ok (.ireturn, 1) := by decide +kernel
theorem dX11_count_139 : decode cX11_count 139 = .ok (.aload_n 0, 1) := by decide +kernel
theorem dX11_count_140 : decode cX11_count 140 = .ok (.getfield 102, 3) := by decide +kernel
theorem dX11_count_143 : decode cX11_count 143 = .ok (.ireturn, 1) := by decide +kernel
theorem dX11_count_144 : decode cX11_count 144 = .ok (.aload_n 0, 1) := by decide +kernel
theorem dX11_count_145 : decode cX11_count 145 = .ok (.getfield 50, 3) := by decide +kernel
theorem dX11_count_148 : decode cX11_count 148 = .ok (.invokevirtual 435, 3) := by decide +kernel
theorem dX11_count_151 : decode cX11_count 151 = .ok (.ireturn, 1) := by decide +kernel
theorem dX11_count_152 : decode cX11_count 152 = .ok (.aload_n 0, 1) := by decide +kernel
theorem dX11_count_153 : decode cX11_count 153 = .ok (.getfield 16, 3) := by decide +kernel
theorem dX11_count_156 : decode cX11_count 156 = .ok (.getfield 438, 3) := by decide +kernel
theorem dX11_count_159 : decode cX11_count 159 = .ok (.ireturn, 1) := by decide +kernel
theorem dX11_count_160 : decode cX11_count 160 = .ok (.aload_n 0, 1) := by decide +kernel
theorem dX11_count_161 : decode cX11_count 161 = .ok (.getfield 25, 3) := by decide +kernel
theorem dX11_count_164 : decode cX11_count 164 = .ok (.getfield 211, 3) := by decide +kernel
theorem dX11_count_167 : decode cX11_count 167 = .ok (.ireturn, 1) := by decide +kernel
theorem dX11_count_168 : decode cX11_count 168 = .ok (.bipush (-2), 2) := by decide +kernel
theorem dX11_count_170 : decode cX11_count 170 = .ok (.ireturn, 1) := by decide +kernel
theorem dX11_sheet_0 : decode cX11_sheet 0 = .ok (.aload_n 0, 1) := by decide +kernel
theorem dX11_sheet_1 : decode cX11_sheet 1 = .ok (.getfield 71, 3) := by decide +kernel
theorem dX11_sheet_4 : decode cX11_sheet 4 = .ok (.iload_n 1, 1) := by decide +kernel
theorem dX11_sheet_5 : decode cX11_sheet 5 = .ok (.invokevirtual 234, 3) := by decide +kernel
theorem dX11_sheet_8 : decode cX11_sheet 8 = .ok (.ifCond .eq 19, 3) := by decide +kernel
theorem dX11_sheet_11 : decode cX11_sheet 11 = .ok (.iload_n 2, 1) := by decide +kernel
theorem dX11_sheet_12 : decode cX11_sheet 12 = .ok (.iconst (-1), 1) := by decide +kernel
theorem dX11_sheet_13 : decode cX11_sheet 13 = .ok (.if_icmp .eq 17, 3) := by decide +kernel
theorem dX11_sheet_16 : decode cX11_sheet 16 = .ok (.aload_n 0, 1) := by decide +kernel
theorem dX11_sheet_17 : decode cX11_sheet 17 = .ok (.getfield 71, 3) := by decide +kernel
theorem dX11_sheet_20 : decode cX11_sheet 20 = .ok (.iload_n 2, 1) := by decide +kernel
theorem dX11_sheet_21 : decode cX11_sheet 21 = .ok (.invokevirtual 235, 3) := by decide +kernel
theorem dX11_sheet_24 : decode cX11_sheet 24 = .ok (.ifCond .ne 6, 3) := by decide +kernel
theorem dX11_sheet_27 : decode cX11_sheet 27 = .ok (.bipush (-2), 2) := by decide +kernel
theorem dX11_sheet_29 : decode cX11_sheet 29 = .ok (.ireturn, 1) := by decide +kernel
theorem dX11_sheet_30 : decode cX11_sheet 30 = .ok (.iload_n 2, 1) := by decide +kernel
theorem dX11_sheet_31 : decode cX11_sheet 31 = .ok (.iconst (-1), 1) := by decide +kernel
theorem dX11_sheet_32 : decode cX11_sheet 32 = .ok (.if_icmp .ne 13, 3) := by decide +kernel
theorem dX11_sheet_35 : decode cX11_sheet 35 = .ok (.aload_n 0, 1) := by decide +kernel
theorem dX11_sheet_36 : decode cX11_sheet 36 = .ok (.getfield 71, 3) := by decide +kernel
theorem dX11_sheet_39 : decode cX11_sheet 39 = .ok (.iload_n 1, 1) := by decide +kernel
theorem dX11_sheet_40 : decode cX11_sheet 40 = .ok (.invokevirtual 441, 3) := by decide +kernel
theorem dX11_sheet_43 : decode cX11_sheet 43 = .ok (.iconst 1, 1) := by decide +kernel
theorem dX11_sheet_44 : decode cX11_sheet 44 = .ok (.ireturn, 1) := by decide +kernel
theorem dX11_sheet_45 : decode cX11_sheet 45 = .ok (.iload_n 3, 1) := by decide +kernel
theorem dX11_sheet_46 : decode cX11_sheet 46 = .ok (.bipush 40, 2) := by decide +kernel
theorem dX11_sheet_48 : decode cX11_sheet 48 = .ok (.if_icmp .le 6, 3) := by decide +kernel
theorem dX11_sheet_51 : decode cX11_sheet 51 = .ok (.bipush (-2), 2) := by decide +kernel
theorem dX11_sheet_53 : decode cX11_sheet 53 = .ok (.ireturn, 1) := by decide +kernel
theorem dX11_sheet_54 : decode cX11_sheet 54 = .ok (.iload_n 3, 1) := by decide +kernel
theorem dX11_sheet_55 : decode cX11_sheet 55 = .ok (.ifCond .ge 6, 3) := by decide +kernel
theorem dX11_sheet_58 : decode cX11_sheet 58 = .ok (.bipush (-14), 2) := by decide +kernel
theorem dX11_sheet_60 : decode cX11_sheet 60 = .ok (.ireturn, 1) := by decide +kernel
theorem dX11_sheet_61 : decode cX11_sheet 61 = .ok (.aload_n 0, 1) := by decide +kernel
theorem dX11_sheet_62 : decode cX11_sheet 62 = .ok (.getfield 71, 3) := by decide +kernel
theorem dX11_sheet_65 : decode cX11_sheet 65 = .ok (.iload_n 1, 1) := by decide +kernel
theorem dX11_sheet_66 : decode cX11_sheet 66 = .ok (.iload_n 2, 1) := by decide +kernel
theorem dX11_sheet_67 : decode cX11_sheet 67 = .ok (.iload_n 3, 1) := by decide +kernel
theorem dX11_sheet_68 : decode cX11_sheet 68 = .ok (.invokevirtual 444, 3) := by decide +kernel
theorem dX11_sheet_71 : decode cX11_sheet 71 = .ok (.iconst 1, 1) := by decide +kernel
theorem dX11_sheet_72 : decode cX11_sheet 72 = .ok (.ireturn, 1) := by decide +kernel
theorem dX11_cell_0 : decode cX11_cell 0 = .ok (.aload_n 0, 1) := by decide +kernel
theorem dX11_cell_1 : decode cX11_cell 1 = .ok (.getfield 71, 3) := by decide +kernel
theorem dX11_cell_4 : decode cX11_cell 4 = .ok (.iload_n 1, 1) := by decide +kernel
theorem dX11_cell_5 : decode cX11_cell 5 = .ok (.invokevirtual 234, 3) := by decide +kernel
theorem dX11_cell_8 : decode cX11_cell 8 = .ok (.ifCond .ne 6, 3) := by decide +kernel
theorem dX11_cell_11 : decode cX11_cell 11 = .ok (.bipush (-2), 2) := by decide +kernel
theorem dX11_cell_13 : decode cX11_cell 13 = .ok (.ireturn, 1) := by decide +kernel
theorem dX11_cell_14 : decode cX11_cell 14 = .ok (.aload_n 0, 1) := by decide +kernel
theorem dX11_cell_15 : decode cX11_cell 15 = .ok (.getfield 71, 3) := by decide +kernel
theorem dX11_cell_18 : decode cX11_cell 18 = .ok (.iload_n 1, 1) := by decide +kernel
theorem dX11_cell_19 : decode cX11_cell 19 = .ok (.invokevirtual 236, 3) := by decide +kernel
theorem dX11_cell_22 : decode cX11_cell 22 = .ok (.ifCond .eq 6, 3) := by decide +kernel
theorem dX11_cell_25 : decode cX11_cell 25 = .ok (.bipush (-11), 2) := by decide +kernel
theorem dX11_cell_27 : decode cX11_cell 27 = .ok (.ireturn, 1) := by decide +kernel
theorem dX11_cell_28 : decode cX11_cell 28 = .ok (.aload_n 0, 1) := by decide +kernel
theorem dX11_cell_29 : decode cX11_cell 29 = .ok (.getfield 71, 3) := by decide +kernel
theorem dX11_cell_32 : decode cX11_cell 32 = .ok (.iload_n 1, 1) := by decide +kernel
theorem dX11_cell_33 : decode cX11_cell 33 = .ok (.iload_n 2, 1) := by decide +kernel
theorem dX11_cell_34 : decode cX11_cell 34 = .ok (.iconst 1, 1) := by decide +kernel
theorem dX11_cell_35 : decode cX11_cell 35 = .ok (.invokevirtual 242, 3) := by decide +kernel
theorem dX11_cell_38 : decode cX11_cell 38 = .ok (.ifCond .ne 6, 3) := by decide +kernel
theorem dX11_cell_41 : decode cX11_cell 41 = .ok (.bipush (-12), 2) := by decide +kernel
theorem dX11_cell_43 : decode cX11_cell 43 = .ok (.ireturn, 1) := by decide +kernel
theorem dX11_cell_44 : decode cX11_cell 44 = .ok (.aload_n 0, 1) := by decide +kernel
theorem dX11_cell_45 : decode cX11_cell 45 = .ok (.getfield 71, 3) := by decide +kernel
theorem dX11_cell_48 : decode cX11_cell 48 = .ok (.iload_n 1, 1) := by decide +kernel
theorem dX11_cell_49 : decode cX11_cell 49 = .ok (.iload_n 2, 1) := by decide +kernel
theorem dX11_cell_50 : decode cX11_cell 50 = .ok (.iload_n 3, 1) := by decide +kernel
theorem dX11_cell_51 : decode cX11_cell 51 = .ok (.invokevirtual 448, 3) := by decide +kernel
theorem dX11_cell_54 : decode cX11_cell 54 = .ok (.iconst 1, 1) := by decide +kernel
theorem dX11_cell_55 : decode cX11_cell 55 = .ok (.ireturn, 1) := by decide +kernel
theorem dX11_copy_0 : decode cX11_copy 0 = .ok (.aload_n 0, 1) := by decide +kernel
theorem dX11_copy_1 : decode cX11_copy 1 = .ok (.getfield 71, 3) := by decide +kernel
theorem dX11_copy_4 : decode cX11_copy 4 = .ok (.iload_n 1, 1) := by decide +kernel
theorem dX11_copy_5 : decode cX11_copy 5 = .ok (.invokevirtual 234, 3) := by decide +kernel
theorem dX11_copy_8 : decode cX11_copy 8 = .ok (.ifCond .eq 14, 3) := by decide +kernel
theorem dX11_copy_11 : decode cX11_copy 11 = .ok (.aload_n 0, 1) := by decide +kernel
theorem dX11_copy_12 : decode cX11_copy 12 = .ok (.getfield 71, 3) := by decide +kernel
theorem dX11_copy_15 : decode cX11_copy 15 = .ok (.iload_n 3, 1) := by decide +kernel
theorem dX11_copy_16 : decode cX11_copy 16 = .ok (.invokevirtual 234, 3) := by decide +kernel
theorem dX11_copy_19 : decode cX11_copy 19 = .ok (.ifCond .ne 6, 3) := by decide +kernel
theorem dX11_copy_22 : decode cX11_copy 22 = .ok (.bipush (-2), 2) := by decide +kernel
theorem dX11_copy_24 : decode cX11_copy 24 = .ok (.ireturn, 1) := by decide +kernel
theorem dX11_copy_25 : decode cX11_copy 25 = .ok (.aload_n 0, 1) := by decide +kernel
theorem dX11_copy_26 : decode cX11_copy 26 = .ok (.getfield 71, 3) := by decide +kernel
theorem dX11_copy_29 : decode cX11_copy 29 = .ok (.iload_n 1, 1) := by decide +kernel
theorem dX11_copy_30 : decode cX11_copy 30 = .ok (.invokevirtual 236, 3) := by decide +kernel
theorem dX11_copy_33 : decode cX11_copy 33 = .ok (.ifCond .ne 14, 3) := by decide +kernel
theorem dX11_copy_36 : decode cX11_copy 36 = .ok (.aload_n 0, 1) := by decide +kernel
theorem dX11_copy_37 : decode cX11_copy 37 = .ok (.getfield 71, 3) := by decide +kernel
theorem dX11_copy_40 : decode cX11_copy 40 = .ok (.iload_n 3, 1) := by decide +kernel
theorem dX11_copy_41 : decode cX11_copy 41 = .ok (.invokevirtual 236, 3) := by decide +kernel
theorem dX11_copy_44 : decode cX11_copy 44 = .ok (.ifCond .eq 6, 3) := by decide +kernel
theorem dX11_copy_47 : decode cX11_copy 47 = .ok (.bipush (-11), 2) := by decide +kernel
theorem dX11_copy_49 : decode cX11_copy 49 = .ok (.ireturn, 1) := by decide +kernel
theorem dX11_copy_50 : decode cX11_copy 50 = .ok (.aload_n 0, 1) := by decide +kernel
theorem dX11_copy_51 : decode cX11_copy 51 = .ok (.getfield 71, 3) := by decide +kernel
theorem dX11_copy_54 : decode cX11_copy 54 = .ok (.getfield 239, 3) := by decide +kernel
theorem dX11_copy_57 : decode cX11_copy 57 = .ok (.iload_n 1, 1) := by decide +kernel
theorem dX11_copy_58 : decode cX11_copy 58 = .ok (.iaload, 1) := by decide +kernel
theorem dX11_copy_59 : decode cX11_copy 59 = .ok (.aload_n 0, 1) := by decide +kernel
theorem dX11_copy_60 : decode cX11_copy 60 = .ok (.getfield 71, 3) := by decide +kernel
theorem dX11_copy_63 : decode cX11_copy 63 = .ok (.getfield 239, 3) := by decide +kernel
theorem dX11_copy_66 : decode cX11_copy 66 = .ok (.iload_n 3, 1) := by decide +kernel
theorem dX11_copy_67 : decode cX11_copy 67 = .ok (.iaload, 1) := by decide +kernel
theorem dX11_copy_68 : decode cX11_copy 68 = .ok (.if_icmp .eq 6, 3) := by decide +kernel
theorem dX11_copy_71 : decode cX11_copy 71 = .ok (.bipush (-13), 2) := by decide +kernel
theorem dX11_copy_73 : decode cX11_copy 73 = .ok (.ireturn, 1) := by decide +kernel
theorem dX11_copy_74 : decode cX11_copy 74 = .ok (.aload_n 0, 1) := by decide +kernel
theorem dX11_copy_75 : decode cX11_copy 75 = .ok (.getfield 71, 3) := by decide +kernel
theorem dX11_copy_78 : decode cX11_copy 78 = .ok (.iload_n 1, 1) := by decide +kernel
theorem dX11_copy_79 : decode cX11_copy 79 = .ok (.iload_n 2, 1) := by decide +kernel
theorem dX11_copy_80 : decode cX11_copy 80 = .ok (.iload 5, 2) := by decide +kernel
theorem dX11_copy_82 : decode cX11_copy 82 = .ok (.invokevirtual 242, 3) := by decide +kernel
theorem dX11_copy_85 : decode cX11_copy 85 = .ok (.ifCond .eq 18, 3) := by decide +kernel
theorem dX11_copy_88 : decode cX11_copy 88 = .ok (.aload_n 0, 1) := by decide +kernel
theorem dX11_copy_89 : decode cX11_copy 89 = .ok (.getfield 71, 3) := by decide +kernel
theorem dX11_copy_92 : decode cX11_copy 92 = .ok (.iload_n 3, 1) := by decide +kernel
theorem dX11_copy_93 : decode cX11_copy 93 = .ok (.iload 4, 2) := by decide +kernel
theorem dX11_copy_95 : decode cX11_copy 95 = .ok (.iload 5, 2) := by decide +kernel
theorem dX11_copy_97 : decode cX11_copy 97 = .ok (.invokevirtual 242, 3) := by decide +kernel
theorem dX11_copy_100 : decode cX11_copy 100 = .ok (.ifCond .ne 6, 3) := by decide +kernel
theorem dX11_copy_103 : decode cX11_copy 103 = .ok (.bipush (-12), 2) := by decide +kernel
theorem dX11_copy_105 : decode cX11_copy 105 = .ok (.ireturn, 1) := by decide +kernel
theorem dX11_copy_106 : decode cX11_copy 106 = .ok (.aload_n 0, 1) := by decide +kernel
theorem dX11_copy_107 : decode cX11_copy 107 = .ok (.getfield 71, 3) := by decide +kernel
theorem dX11_copy_110 : decode cX11_copy 110 = .ok (.getfield 451, 3) := by decide +kernel
theorem dX11_copy_113 : decode cX11_copy 113 = .ok (.iload_n 1, 1) := by decide +kernel
theorem dX11_copy_114 : decode cX11_copy 114 = .ok (.aaload, 1) := by decide +kernel
theorem dX11_copy_115 : decode cX11_copy 115 = .ok (.iload_n 2, 1) := by decide +kernel
theorem dX11_copy_116 : decode cX11_copy 116 = .ok (.aload_n 0, 1) := by decide +kernel
theorem dX11_copy_117 : decode cX11_copy 117 = .ok (.getfield 71, 3) := by decide +kernel
theorem dX11_copy_120 : decode cX11_copy 120 = .ok (.getfield 451, 3) := by decide +kernel
theorem dX11_copy_123 : decode cX11_copy 123 = .ok (.iload_n 3, 1) := by decide +kernel
theorem dX11_copy_124 : decode cX11_copy 124 = .ok (.aaload, 1) := by decide +kernel
theorem dX11_copy_125 : decode cX11_copy 125 = .ok (.iload 4, 2) := by decide +kernel
theorem dX11_copy_127 : decode cX11_copy 127 = .ok (.iload 5, 2) := by decide +kernel
theorem dX11_copy_129 : decode cX11_copy 129 = .ok (.invokestatic 454, 3) := by decide +kernel
theorem dX11_copy_132 : decode cX11_copy 132 = .ok (.iload 5, 2) := by decide +kernel
theorem dX11_copy_134 : decode cX11_copy 134 = .ok (.ireturn, 1) := by decide +kernel
theorem dX11_casesMoved_0 : decode cX11_casesMoved 0 = .ok (.iconst 0, 1) := by decide +kernel
theorem dX11_casesMoved_1 : decode cX11_casesMoved 1 = .ok (.istore_n 2, 1) := by decide +kernel
theorem dX11_casesMoved_2 : decode cX11_casesMoved 2 = .ok (.iconst 0, 1) := by decide +kernel
theorem dX11_casesMoved_3 : decode cX11_casesMoved 3 = .ok (.istore_n 3, 1) := by decide +kernel
theorem dX11_casesMoved_4 : decode cX11_casesMoved 4 = .ok (.iload_n 3, 1) := by decide +kernel
theorem dX11_casesMoved_5 : decode cX11_casesMoved 5 = .ok (.aload_n 0, 1) := by decide +kernel
theorem dX11_casesMoved_6 : decode cX11_casesMoved 6 = .ok (.getfield 32, 3) := by decide +kernel
theorem dX11_casesMoved_9 : decode cX11_casesMoved 9 = .ok (.getfield 430, 3) := by decide +kernel
theorem dX11_casesMoved_12 : decode cX11_casesMoved 12 = .ok (.if_icmp .ge 55, 3) := by decide +kernel
theorem dX11_casesMoved_15 : decode cX11_casesMoved 15 = .ok (.aload_n 0, 1) := by decide +kernel
theorem dX11_casesMoved_16 : decode cX11_casesMoved 16 = .ok (.getfield 78, 3) := by decide +kernel
theorem dX11_casesMoved_19 : decode cX11_casesMoved 19 = .ok (.aload_n 0, 1) := by decide +kernel
theorem dX11_casesMoved_20 : decode cX11_casesMoved 20 = .ok (.getfield 32, 3) := by decide +kernel
theorem dX11_casesMoved_23 : decode cX11_casesMoved 23 = .ok (.getfield 460, 3) := by decide +kernel
theorem dX11_casesMoved_26 : decode cX11_casesMoved 26 = .ok (.iload_n 3, 1) := by decide +kernel
theorem dX11_casesMoved_27 : decode cX11_casesMoved 27 = .ok (.iaload, 1) := by decide +kernel
theorem dX11_casesMoved_28 : decode cX11_casesMoved 28 = .ok (.invokevirtual 172, 3) := by decide +kernel
theorem dX11_casesMoved_31 : decode cX11_casesMoved 31 = .ok (.ifCond .eq 30, 3) := by decide +kernel
theorem dX11_casesMoved_34 : decode cX11_casesMoved 34 = .ok (.aload_n 0, 1) := by decide +kernel
theorem dX11_casesMoved_35 : decode cX11_casesMoved 35 = .ok (.getfield 25, 3) := by decide +kernel
theorem dX11_casesMoved_38 : decode cX11_casesMoved 38 = .ok (.aload_n 0, 1) := by decide +kernel
theorem dX11_casesMoved_39 : decode cX11_casesMoved 39 = .ok (.getfield 32, 3) := by decide +kernel
theorem dX11_casesMoved_42 : decode cX11_casesMoved 42 = .ok (.getfield 461, 3) := by decide +kernel
theorem dX11_casesMoved_45 : decode cX11_casesMoved 45 = .ok (.iload_n 3, 1) := by decide +kernel
theorem dX11_casesMoved_46 : decode cX11_casesMoved 46 = .ok (.iaload, 1) := by decide +kernel
theorem dX11_casesMoved_47 : decode cX11_casesMoved 47 = .ok (.iload_n 1, 1) := by decide +kernel
theorem dX11_casesMoved_48 : decode cX11_casesMoved 48 = .ok (.aload_n 0, 1) := by decide +kernel
theorem dX11_casesMoved_49 : decode cX11_casesMoved 49 = .ok (.getfield 99, 3) := by decide +kernel
theorem dX11_casesMoved_52 : decode cX11_casesMoved 52 = .ok (.invokevirtual 463, 3) := by decide +kernel
theorem dX11_casesMoved_55 : decode cX11_casesMoved 55 = .ok (.ifCond .eq 6, 3) := by decide +kernel
theorem dX11_casesMoved_58 : decode cX11_casesMoved 58 = .ok (.iinc 2 1, 3) := by decide +kernel
theorem dX11_casesMoved_61 : decode cX11_casesMoved 61 = .ok (.iinc 3 1, 3) := by decide +kernel
theorem dX11_casesMoved_64 : decode cX11_casesMoved 64 = .ok (.goto (-60), 3) := by decide +kernel
theorem dX11_casesMoved_67 : decode cX11_casesMoved 67 = .ok (.iload_n 2, 1) := by decide +kernel
theorem dX11_casesMoved_68 : decode cX11_casesMoved 68 = .ok (.ireturn, 1) := by decide +kernel
theorem dX11_tellOf_0 : decode cX11_tellOf 0 = .ok (.iload_n 1, 1) := by decide +kernel
theorem dX11_tellOf_1 : decode cX11_tellOf 1 = .ok (.lookupswitch 37 #[(0, 27), (1, 32)], 27) := by decide +kernel
theorem dX11_tellOf_28 : decode cX11_tellOf 28 = .ok (.aload_n 0, 1) := by decide +kernel
theorem dX11_tellOf_29 : decode cX11_tellOf 29 = .ok (.invokevirtual 276, 3) := by decide +kernel
theorem dX11_tellOf_32 : decode cX11_tellOf 32 = .ok (.ireturn, 1) := by decide +kernel
theorem dX11_tellOf_33 : decode cX11_tellOf 33 = .ok (.aload_n 0, 1) := by decide +kernel
theorem dX11_tellOf_34 : decode cX11_tellOf 34 = .ok (.invokevirtual 465, 3) := by decide +kernel
theorem dX11_tellOf_37 : decode cX11_tellOf 37 = .ok (.ireturn, 1) := by decide +kernel
theorem dX11_tellOf_38 : decode cX11_tellOf 38 = .ok (.aload_n 0, 1) := by decide +kernel
theorem dX11_tellOf_39 : decode cX11_tellOf 39 = .ok (.invokevirtual 468, 3) := by decide +kernel
theorem dX11_tellOf_42 : decode cX11_tellOf 42 = .ok (.ireturn, 1) := by decide +kernel
theorem dX11_swap_0 : decode cX11_swap 0 = .ok (.iload_n 1, 1) := by decide +kernel
theorem dX11_swap_1 : decode cX11_swap 1 = .ok (.ifCond .lt 9, 3) := by decide +kernel
theorem dX11_swap_4 : decode cX11_swap 4 = .ok (.iload_n 1, 1) := by decide +kernel
theorem dX11_swap_5 : decode cX11_swap 5 = .ok (.aload_n 0, 1) := by decide +kernel
theorem dX11_swap_6 : decode cX11_swap 6 = .ok (.arraylength, 1) := by decide +kernel
theorem dX11_swap_7 : decode cX11_swap 7 = .ok (.if_icmp .lt 5, 3) := by decide +kernel
theorem dX11_swap_10 : decode cX11_swap 10 = .ok (.iconst (-1), 1) := by decide +kernel
theorem dX11_swap_11 : decode cX11_swap 11 = .ok (.ireturn, 1) := by decide +kernel
theorem dX11_swap_12 : decode cX11_swap 12 = .ok (.aload_n 0, 1) := by decide +kernel
theorem dX11_swap_13 : decode cX11_swap 13 = .ok (.iload_n 1, 1) := by decide +kernel
theorem dX11_swap_14 : decode cX11_swap 14 = .ok (.iaload, 1) := by decide +kernel
theorem dX11_swap_15 : decode cX11_swap 15 = .ok (.istore_n 3, 1) := by decide +kernel
theorem dX11_swap_16 : decode cX11_swap 16 = .ok (.aload_n 0, 1) := by decide +kernel
theorem dX11_swap_17 : decode cX11_swap 17 = .ok (.iload_n 1, 1) := by decide +kernel
theorem dX11_swap_18 : decode cX11_swap 18 = .ok (.iload_n 2, 1) := by decide +kernel
theorem dX11_swap_19 : decode cX11_swap 19 = .ok (.iastore, 1) := by decide +kernel
theorem dX11_swap_20 : decode cX11_swap 20 = .ok (.iload_n 3, 1) := by decide +kernel
theorem dX11_swap_21 : decode cX11_swap 21 = .ok (.ireturn, 1) := by decide +kernel
theorem dX11_within_0 : decode cX11_within 0 = .ok (.iload_n 0, 1) := by decide +kernel
theorem dX11_within_1 : decode cX11_within 1 = .ok (.iload_n 1, 1) := by decide +kernel
theorem dX11_within_2 : decode cX11_within 2 = .ok (.if_icmp .lt 12, 3) := by decide +kernel
theorem dX11_within_5 : decode cX11_within 5 = .ok (.iload_n 0, 1) := by decide +kernel
theorem dX11_within_6 : decode cX11_within 6 = .ok (.iload_n 2, 1) := by decide +kernel
theorem dX11_within_7 : decode cX11_within 7 = .ok (.if_icmp .gt 7, 3) := by decide +kernel
theorem dX11_within_10 : decode cX11_within 10 = .ok (.iconst 1, 1) := by decide +kernel
theorem dX11_within_11 : decode cX11_within 11 = .ok (.goto 4, 3) := by decide +kernel
theorem dX11_within_14 : decode cX11_within 14 = .ok (.iconst 0, 1) := by decide +kernel
theorem dX11_within_15 : decode cX11_within 15 = .ok (.ireturn, 1) := by decide +kernel
theorem dX11_isSort_0 : decode cX11_isSort 0 = .ok (.iload_n 0, 1) := by decide +kernel
theorem dX11_isSort_1 : decode cX11_isSort 1 = .ok (.iconst 0, 1) := by decide +kernel
theorem dX11_isSort_2 : decode cX11_isSort 2 = .ok (.sipush 1535, 3) := by decide +kernel
theorem dX11_isSort_5 : decode cX11_isSort 5 = .ok (.invokestatic 95, 3) := by decide +kernel
theorem dX11_isSort_8 : decode cX11_isSort 8 = .ok (.ireturn, 1) := by decide +kernel
theorem dX11_isEnd_0 : decode cX11_isEnd 0 = .ok (.iload_n 0, 1) := by decide +kernel
theorem dX11_isEnd_1 : decode cX11_isEnd 1 = .ok (.ifCond .eq 20, 3) := by decide +kernel
theorem dX11_isEnd_4 : decode cX11_isEnd 4 = .ok (.iload_n 0, 1) := by decide +kernel
theorem dX11_isEnd_5 : decode cX11_isEnd 5 = .ok (.iconst 1, 1) := by decide +kernel
theorem dX11_isEnd_6 : decode cX11_isEnd 6 = .ok (.if_icmp .eq 15, 3) := by decide +kernel
theorem dX11_isEnd_9 : decode cX11_isEnd 9 = .ok (.iload_n 0, 1) := by decide +kernel
theorem dX11_isEnd_10 : decode cX11_isEnd 10 = .ok (.bipush 100, 2) := by decide +kernel
theorem dX11_isEnd_12 : decode cX11_isEnd 12 = .ok (.sipush 203, 3) := by decide +kernel
theorem dX11_isEnd_15 : decode cX11_isEnd 15 = .ok (.invokestatic 95, 3) := by decide +kernel
theorem dX11_isEnd_18 : decode cX11_isEnd 18 = .ok (.ifCond .eq 7, 3) := by decide +kernel
theorem dX11_isEnd_21 : decode cX11_isEnd 21 = .ok (.iconst 1, 1) := by decide +kernel
theorem dX11_isEnd_22 : decode cX11_isEnd 22 = .ok (.goto 4, 3) := by decide +kernel
theorem dX11_isEnd_25 : decode cX11_isEnd 25 = .ok (.iconst 0, 1) := by decide +kernel
theorem dX11_isEnd_26 : decode cX11_isEnd 26 = .ok (.ireturn, 1) := by decide +kernel
theorem dX11_isUnder_0 : decode cX11_isUnder 0 = .ok (.iload_n 1, 1) := by decide +kernel
theorem dX11_isUnder_1 : decode cX11_isUnder 1 = .ok (.tableswitch 64 0 4 #[35, 37, 64, 64, 53], 35) := by decide +kernel
theorem dX11_isUnder_36 : decode cX11_isUnder 36 = .ok (.iconst 1, 1) := by decide +kernel
theorem dX11_isUnder_37 : decode cX11_isUnder 37 = .ok (.ireturn, 1) := by decide +kernel
theorem dX11_isUnder_38 : decode cX11_isUnder 38 = .ok (.iload_n 0, 1) := by decide +kernel
theorem dX11_isUnder_39 : decode cX11_isUnder 39 = .ok (.iconst 1, 1) := by decide +kernel
theorem dX11_isUnder_40 : decode cX11_isUnder 40 = .ok (.if_icmp .eq 8, 3) := by decide +kernel
theorem dX11_isUnder_43 : decode cX11_isUnder 43 = .ok (.iload_n 0, 1) := by decide +kernel
theorem dX11_isUnder_44 : decode cX11_isUnder 44 = .ok (.iconst 4, 1) := by decide +kernel
theorem dX11_isUnder_45 : decode cX11_isUnder 45 = .ok (.if_icmp .lt 7, 3) := by decide +kernel
theorem dX11_isUnder_48 : decode cX11_isUnder 48 = .ok (.iconst 1, 1) := by decide +kernel
theorem dX11_isUnder_49 : decode cX11_isUnder 49 = .ok (.goto 4, 3) := by decide +kernel
theorem dX11_isUnder_52 : decode cX11_isUnder 52 = .ok (.iconst 0, 1) := by decide +kernel
theorem dX11_isUnder_53 : decode cX11_isUnder 53 = .ok (.ireturn, 1) := by decide +kernel
theorem dX11_isUnder_54 : decode cX11_isUnder 54 = .ok (.iload_n 0, 1) := by decide +kernel
theorem dX11_isUnder_55 : decode cX11_isUnder 55 = .ok (.iconst 4, 1) := by decide +kernel
theorem dX11_isUnder_56 : decode cX11_isUnder 56 = .ok (.if_icmp .lt 7, 3) := by decide +kernel
theorem dX11_isUnder_59 : decode cX11_isUnder 59 = .ok (.iconst 1, 1) := by decide +kernel
theorem dX11_isUnder_60 : decode cX11_isUnder 60 = .ok (.goto 4, 3) := by decide +kernel
theorem dX11_isUnder_63 : decode cX11_isUnder 63 = .ok (.iconst 0, 1) := by decide +kernel
theorem dX11_isUnder_64 : decode cX11_isUnder 64 = .ok (.ireturn, 1) := by decide +kernel
theorem dX11_isUnder_65 : decode cX11_isUnder 65 = .ok (.iload_n 0, 1) := by decide +kernel
theorem dX11_isUnder_66 : decode cX11_isUnder 66 = .ok (.iload_n 1, 1) := by decide +kernel
theorem dX11_isUnder_67 : decode cX11_isUnder 67 = .ok (.if_icmp .ne 7, 3) := by decide +kernel
theorem dX11_isUnder_70 : decode cX11_isUnder 70 = .ok (.iconst 1, 1) := by decide +kernel
theorem dX11_isUnder_71 : decode cX11_isUnder 71 = .ok (.goto 4, 3) := by decide +kernel
theorem dX11_isUnder_74 : decode cX11_isUnder 74 = .ok (.iconst 0, 1) := by decide +kernel
theorem dX11_isUnder_75 : decode cX11_isUnder 75 = .ok (.ireturn, 1) := by decide +kernel
theorem dX11_sizeOf_0 : decode cX11_sizeOf 0 = .ok (.iload_n 0, 1) := by decide +kernel
theorem dX11_sizeOf_1 : decode cX11_sizeOf 1 = .ok (.lookupswitch 31 #[(2, 27), (4, 29)], 27) := by decide +kernel
theorem dX11_sizeOf_28 : decode cX11_sizeOf 28 = .ok (.iconst 3, 1) := by decide +kernel
theorem dX11_sizeOf_29 : decode cX11_sizeOf 29 = .ok (.ireturn, 1) := by decide +kernel
theorem dX11_sizeOf_30 : decode cX11_sizeOf 30 = .ok (.iconst 2, 1) := by decide +kernel
theorem dX11_sizeOf_31 : decode cX11_sizeOf 31 = .ok (.ireturn, 1) := by decide +kernel
theorem dX11_sizeOf_32 : decode cX11_sizeOf 32 = .ok (.iconst 4, 1) := by decide +kernel
theorem dX11_sizeOf_33 : decode cX11_sizeOf 33 = .ok (.ireturn, 1) := by decide +kernel
theorem dX11_fieldOf_0 : decode cX11_fieldOf 0 = .ok (.iload_n 1, 1) := by decide +kernel
theorem dX11_fieldOf_1 : decode cX11_fieldOf 1 = .ok (.tableswitch 68 0 4 #[35, 41, 48, 55, 62], 35) := by decide +kernel
theorem dX11_fieldOf_36 : decode cX11_fieldOf 36 = .ok (.iload_n 0, 1) := by decide +kernel
theorem dX11_fieldOf_37 : decode cX11_fieldOf 37 = .ok (.sipush 384, 3) := by decide +kernel
theorem dX11_fieldOf_40 : decode cX11_fieldOf 40 = .ok (.idiv, 1) := by decide +kernel
theorem dX11_fieldOf_41 : decode cX11_fieldOf 41 = .ok (.ireturn, 1) := by decide +kernel
theorem dX11_fieldOf_42 : decode cX11_fieldOf 42 = .ok (.iload_n 0, 1) := by decide +kernel
theorem dX11_fieldOf_43 : decode cX11_fieldOf 43 = .ok (.bipush 96, 2) := by decide +kernel
theorem dX11_fieldOf_45 : decode cX11_fieldOf 45 = .ok (.idiv, 1) := by decide +kernel
theorem dX11_fieldOf_46 : decode cX11_fieldOf 46 = .ok (.iconst 4, 1) := by decide +kernel
theorem dX11_fieldOf_47 : decode cX11_fieldOf 47 = .ok (.irem, 1) := by decide +kernel
theorem dX11_fieldOf_48 : decode cX11_fieldOf 48 = .ok (.ireturn, 1) := by decide +kernel
theorem dX11_fieldOf_49 : decode cX11_fieldOf 49 = .ok (.iload_n 0, 1) := by decide +kernel
theorem dX11_fieldOf_50 : decode cX11_fieldOf 50 = .ok (.bipush 32, 2) := by decide +kernel
theorem dX11_fieldOf_52 : decode cX11_fieldOf 52 = .ok (.idiv, 1) := by decide +kernel
theorem dX11_fieldOf_53 : decode cX11_fieldOf 53 = .ok (.iconst 3, 1) := by decide +kernel
theorem dX11_fieldOf_54 : decode cX11_fieldOf 54 = .ok (.irem, 1) := by decide +kernel
theorem dX11_fieldOf_55 : decode cX11_fieldOf 55 = .ok (.ireturn, 1) := by decide +kernel
theorem dX11_fieldOf_56 : decode cX11_fieldOf 56 = .ok (.iload_n 0, 1) := by decide +kernel
theorem dX11_fieldOf_57 : decode cX11_fieldOf 57 = .ok (.bipush 8, 2) := by decide +kernel
theorem dX11_fieldOf_59 : decode cX11_fieldOf 59 = .ok (.idiv, 1) := by decide +kernel
theorem dX11_fieldOf_60 : decode cX11_fieldOf 60 = .ok (.iconst 4, 1) := by decide +kernel
theorem dX11_fieldOf_61 : decode cX11_fieldOf 61 = .ok (.irem, 1) := by decide +kernel
theorem dX11_fieldOf_62 : decode cX11_fieldOf 62 = .ok (.ireturn, 1) := by decide +kernel
theorem dX11_fieldOf_63 : decode cX11_fieldOf 63 = .ok (.iload_n 0, 1) := by decide +kernel
theorem dX11_fieldOf_64 : decode cX11_fieldOf 64 = .ok (.iconst 4, 1) := by decide +kernel
theorem dX11_fieldOf_65 : decode cX11_fieldOf 65 = .ok (.idiv, 1) := by decide +kernel
theorem dX11_fieldOf_66 : decode cX11_fieldOf 66 = .ok (.iconst 2, 1) := by decide +kernel
theorem dX11_fieldOf_67 : decode cX11_fieldOf 67 = .ok (.irem, 1) := by decide +kernel
theorem dX11_fieldOf_68 : decode cX11_fieldOf 68 = .ok (.ireturn, 1) := by decide +kernel
theorem dX11_fieldOf_69 : decode cX11_fieldOf 69 = .ok (.iload_n 0, 1) := by decide +kernel
theorem dX11_fieldOf_70 : decode cX11_fieldOf 70 = .ok (.iconst 4, 1) := by decide +kernel
theorem dX11_fieldOf_71 : decode cX11_fieldOf 71 = .ok (.irem, 1) := by decide +kernel
theorem dX11_fieldOf_72 : decode cX11_fieldOf 72 = .ok (.ireturn, 1) := by decide +kernel
theorem dX11_nameOf_0 : decode cX11_nameOf 0 = .ok (.iload_n 0, 1) := by decide +kernel
theorem dX11_nameOf_1 : decode cX11_nameOf 1 = .ok (.tableswitch 55 0 4 #[35, 39, 43, 47, 51], 35) := by decide +kernel
theorem dX11_nameOf_36 : decode cX11_nameOf 36 = .ok (.ldc_w 471, 3) := by decide +kernel
theorem dX11_nameOf_39 : decode cX11_nameOf 39 = .ok (.areturn, 1) := by decide +kernel
theorem dX11_nameOf_40 : decode cX11_nameOf 40 = .ok (.ldc_w 473, 3) := by decide +kernel
theorem dX11_nameOf_43 : decode cX11_nameOf 43 = .ok (.areturn, 1) := by decide +kernel
theorem dX11_nameOf_44 : decode cX11_nameOf 44 = .ok (.ldc_w 475, 3) := by decide +kernel
theorem dX11_nameOf_47 : decode cX11_nameOf 47 = .ok (.areturn, 1) := by decide +kernel
theorem dX11_nameOf_48 : decode cX11_nameOf 48 = .ok (.ldc_w 477, 3) := by decide +kernel
theorem dX11_nameOf_51 : decode cX11_nameOf 51 = .ok (.areturn, 1) := by decide +kernel
theorem dX11_nameOf_52 : decode cX11_nameOf 52 = .ok (.ldc_w 479, 3) := by decide +kernel
theorem dX11_nameOf_55 : decode cX11_nameOf 55 = .ok (.areturn, 1) := by decide +kernel
theorem dX11_nameOf_56 : decode cX11_nameOf 56 = .ok (.ldc_w 481, 3) := by decide +kernel
theorem dX11_nameOf_59 : decode cX11_nameOf 59 = .ok (.areturn, 1) := by decide +kernel
theorem dX11_isSo_0 : decode cX11_isSo 0 = .ok (.iload_n 1, 1) := by decide +kernel
theorem dX11_isSo_1 : decode cX11_isSo 1 = .ok (.lookupswitch 49 #[(0, 27), (1, 38)], 27) := by decide +kernel
theorem dX11_isSo_28 : decode cX11_isSo 28 = .ok (.iload_n 0, 1) := by decide +kernel
theorem dX11_isSo_29 : decode cX11_isSo 29 = .ok (.iload_n 2, 1) := by decide +kernel
theorem dX11_isSo_30 : decode cX11_isSo 30 = .ok (.if_icmp .ge 7, 3) := by decide +kernel
theorem dX11_isSo_33 : decode cX11_isSo 33 = .ok (.iconst 1, 1) := by decide +kernel
theorem dX11_isSo_34 : decode cX11_isSo 34 = .ok (.goto 4, 3) := by decide +kernel
theorem dX11_isSo_37 : decode cX11_isSo 37 = .ok (.iconst 0, 1) := by decide +kernel
theorem dX11_isSo_38 : decode cX11_isSo 38 = .ok (.ireturn, 1) := by decide +kernel
theorem dX11_isSo_39 : decode cX11_isSo 39 = .ok (.iload_n 0, 1) := by decide +kernel
theorem dX11_isSo_40 : decode cX11_isSo 40 = .ok (.iload_n 2, 1) := by decide +kernel
theorem dX11_isSo_41 : decode cX11_isSo 41 = .ok (.if_icmp .ne 7, 3) := by decide +kernel
theorem dX11_isSo_44 : decode cX11_isSo 44 = .ok (.iconst 1, 1) := by decide +kernel
theorem dX11_isSo_45 : decode cX11_isSo 45 = .ok (.goto 4, 3) := by decide +kernel
theorem dX11_isSo_48 : decode cX11_isSo 48 = .ok (.iconst 0, 1) := by decide +kernel
theorem dX11_isSo_49 : decode cX11_isSo 49 = .ok (.ireturn, 1) := by decide +kernel
theorem dX11_isSo_50 : decode cX11_isSo 50 = .ok (.iload_n 0, 1) := by decide +kernel
theorem dX11_isSo_51 : decode cX11_isSo 51 = .ok (.iload_n 2, 1) := by decide +kernel
theorem dX11_isSo_52 : decode cX11_isSo 52 = .ok (.if_icmp .le 7, 3) := by decide +kernel
theorem dX11_isSo_55 : decode cX11_isSo 55 = .ok (.iconst 1, 1) := by decide +kernel
theorem dX11_isSo_56 : decode cX11_isSo 56 = .ok (.goto 4, 3) := by decide +kernel
theorem dX11_isSo_59 : decode cX11_isSo 59 = .ok (.iconst 0, 1) := by decide +kernel
theorem dX11_isSo_60 : decode cX11_isSo 60 = .ok (.ireturn, 1) := by decide +kernel
theorem dX11_rankOf_0 : decode cX11_rankOf 0 = .ok (.iload_n 0, 1) := by decide +kernel
theorem dX11_rankOf_1 : decode cX11_rankOf 1 = .ok (.bipush 8, 2) := by decide +kernel
theorem dX11_rankOf_3 : decode cX11_rankOf 3 = .ok (.ishr, 1) := by decide +kernel
theorem dX11_rankOf_4 : decode cX11_rankOf 4 = .ok (.iconst 1, 1) := by decide +kernel
theorem dX11_rankOf_5 : decode cX11_rankOf 5 = .ok (.isub, 1) := by decide +kernel
theorem dX11_rankOf_6 : decode cX11_rankOf 6 = .ok (.ireturn, 1) := by decide +kernel
theorem dX11_endOf_0 : decode cX11_endOf 0 = .ok (.iload_n 0, 1) := by decide +kernel
theorem dX11_endOf_1 : decode cX11_endOf 1 = .ok (.sipush 255, 3) := by decide +kernel
theorem dX11_endOf_4 : decode cX11_endOf 4 = .ok (.iand, 1) := by decide +kernel
theorem dX11_endOf_5 : decode cX11_endOf 5 = .ok (.iconst 3, 1) := by decide +kernel
theorem dX11_endOf_6 : decode cX11_endOf 6 = .ok (.isub, 1) := by decide +kernel
theorem dX11_endOf_7 : decode cX11_endOf 7 = .ok (.ireturn, 1) := by decide +kernel
theorem dX11_joined_0 : decode cX11_joined 0 = .ok (.iload_n 1, 1) := by decide +kernel
theorem dX11_joined_1 : decode cX11_joined 1 = .ok (.iconst 1, 1) := by decide +kernel
theorem dX11_joined_2 : decode cX11_joined 2 = .ok (.iadd, 1) := by decide +kernel
theorem dX11_joined_3 : decode cX11_joined 3 = .ok (.bipush 8, 2) := by decide +kernel
theorem dX11_joined_5 : decode cX11_joined 5 = .ok (.ishl, 1) := by decide +kernel
theorem dX11_joined_6 : decode cX11_joined 6 = .ok (.istore_n 3, 1) := by decide +kernel
theorem dX11_joined_7 : decode cX11_joined 7 = .ok (.iload_n 0, 1) := by decide +kernel
theorem dX11_joined_8 : decode cX11_joined 8 = .ok (.sipush (-256), 3) := by decide +kernel
theorem dX11_joined_11 : decode cX11_joined 11 = .ok (.iand, 1) := by decide +kernel
theorem dX11_joined_12 : decode cX11_joined 12 = .ok (.istore 4, 2) := by decide +kernel
theorem dX11_joined_14 : decode cX11_joined 14 = .ok (.iload_n 3, 1) := by decide +kernel
theorem dX11_joined_15 : decode cX11_joined 15 = .ok (.iload 4, 2) := by decide +kernel
theorem dX11_joined_17 : decode cX11_joined 17 = .ok (.if_icmp .le 9, 3) := by decide +kernel
theorem dX11_joined_20 : decode cX11_joined 20 = .ok (.iload_n 3, 1) := by decide +kernel
theorem dX11_joined_21 : decode cX11_joined 21 = .ok (.iload_n 2, 1) := by decide +kernel
theorem dX11_joined_22 : decode cX11_joined 22 = .ok (.iconst 3, 1) := by decide +kernel
theorem dX11_joined_23 : decode cX11_joined 23 = .ok (.iadd, 1) := by decide +kernel
theorem dX11_joined_24 : decode cX11_joined 24 = .ok (.ior, 1) := by decide +kernel
theorem dX11_joined_25 : decode cX11_joined 25 = .ok (.ireturn, 1) := by decide +kernel
theorem dX11_joined_26 : decode cX11_joined 26 = .ok (.iload_n 3, 1) := by decide +kernel
theorem dX11_joined_27 : decode cX11_joined 27 = .ok (.iload 4, 2) := by decide +kernel
theorem dX11_joined_29 : decode cX11_joined 29 = .ok (.if_icmp .ne 18, 3) := by decide +kernel
theorem dX11_joined_32 : decode cX11_joined 32 = .ok (.iload_n 0, 1) := by decide +kernel
theorem dX11_joined_33 : decode cX11_joined 33 = .ok (.sipush 255, 3) := by decide +kernel
theorem dX11_joined_36 : decode cX11_joined 36 = .ok (.iand, 1) := by decide +kernel
theorem dX11_joined_37 : decode cX11_joined 37 = .ok (.iload_n 2, 1) := by decide +kernel
theorem dX11_joined_38 : decode cX11_joined 38 = .ok (.iconst 3, 1) := by decide +kernel
theorem dX11_joined_39 : decode cX11_joined 39 = .ok (.iadd, 1) := by decide +kernel
theorem dX11_joined_40 : decode cX11_joined 40 = .ok (.if_icmp .eq 7, 3) := by decide +kernel
theorem dX11_joined_43 : decode cX11_joined 43 = .ok (.iconst 1, 1) := by decide +kernel
theorem dX11_joined_44 : decode cX11_joined 44 = .ok (.goto 4, 3) := by decide +kernel
theorem dX11_joined_47 : decode cX11_joined 47 = .ok (.iconst 0, 1) := by decide +kernel
theorem dX11_joined_48 : decode cX11_joined 48 = .ok (.istore 5, 2) := by decide +kernel
theorem dX11_joined_50 : decode cX11_joined 50 = .ok (.iload 5, 2) := by decide +kernel
theorem dX11_joined_52 : decode cX11_joined 52 = .ok (.ifCond .eq 9, 3) := by decide +kernel
theorem dX11_joined_55 : decode cX11_joined 55 = .ok (.iload_n 3, 1) := by decide +kernel
theorem dX11_joined_56 : decode cX11_joined 56 = .ok (.iconst 1, 1) := by decide +kernel
theorem dX11_joined_57 : decode cX11_joined 57 = .ok (.ior, 1) := by decide +kernel
theorem dX11_joined_58 : decode cX11_joined 58 = .ok (.goto 4, 3) := by decide +kernel
theorem dX11_joined_61 : decode cX11_joined 61 = .ok (.iload_n 0, 1) := by decide +kernel
theorem dX11_joined_62 : decode cX11_joined 62 = .ok (.ireturn, 1) := by decide +kernel
