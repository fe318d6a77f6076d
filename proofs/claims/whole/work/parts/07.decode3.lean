theorem dX8_init_0 : decode cX8_init 0 = .ok (.aload_n 0, 1) := by decide +kernel
theorem dX8_init_1 : decode cX8_init 1 = .ok (.invokespecial 1, 3) := by decide +kernel
theorem dX8_init_4 : decode cX8_init 4 = .ok (.aload_n 0, 1) := by decide +kernel
theorem dX8_init_5 : decode cX8_init 5 = .ok (.sipush 600, 3) := by decide +kernel
theorem dX8_init_8 : decode cX8_init 8 = .ok (.newarray .int, 2) := by decide +kernel
theorem dX8_init_10 : decode cX8_init 10 = .ok (.putfield 7, 3) := by decide +kernel
theorem dX8_init_13 : decode cX8_init 13 = .ok (.aload_n 0, 1) := by decide +kernel
theorem dX8_init_14 : decode cX8_init 14 = .ok (.iconst (-1), 1) := by decide +kernel
theorem dX8_init_15 : decode cX8_init 15 = .ok (.putfield 13, 3) := by decide +kernel
theorem dX8_init_18 : decode cX8_init 18 = .ok (.aload_n 0, 1) := by decide +kernel
theorem dX8_init_19 : decode cX8_init 19 = .ok (.iconst (-1), 1) := by decide +kernel
theorem dX8_init_20 : decode cX8_init 20 = .ok (.putfield 17, 3) := by decide +kernel
theorem dX8_init_23 : decode cX8_init 23 = .ok (.aload_n 0, 1) := by decide +kernel
theorem dX8_init_24 : decode cX8_init 24 = .ok (.sipush 351, 3) := by decide +kernel
theorem dX8_init_27 : decode cX8_init 27 = .ok (.newarray .int, 2) := by decide +kernel
theorem dX8_init_29 : decode cX8_init 29 = .ok (.putfield 20, 3) := by decide +kernel
theorem dX8_init_32 : decode cX8_init 32 = .ok (.aload_n 0, 1) := by decide +kernel
theorem dX8_init_33 : decode cX8_init 33 = .ok (.sipush 351, 3) := by decide +kernel
theorem dX8_init_36 : decode cX8_init 36 = .ok (.newarray .int, 2) := by decide +kernel
theorem dX8_init_38 : decode cX8_init 38 = .ok (.putfield 23, 3) := by decide +kernel
theorem dX8_init_41 : decode cX8_init 41 = .ok (.aload_n 0, 1) := by decide +kernel
theorem dX8_init_42 : decode cX8_init 42 = .ok (.sipush 2106, 3) := by decide +kernel
theorem dX8_init_45 : decode cX8_init 45 = .ok (.newarray .int, 2) := by decide +kernel
theorem dX8_init_47 : decode cX8_init 47 = .ok (.putfield 26, 3) := by decide +kernel
theorem dX8_init_50 : decode cX8_init 50 = .ok (.aload_n 0, 1) := by decide +kernel
theorem dX8_init_51 : decode cX8_init 51 = .ok (.sipush 351, 3) := by decide +kernel
theorem dX8_init_54 : decode cX8_init 54 = .ok (.newarray .int, 2) := by decide +kernel
theorem dX8_init_56 : decode cX8_init 56 = .ok (.putfield 29, 3) := by decide +kernel
theorem dX8_init_59 : decode cX8_init 59 = .ok (.aload_n 0, 1) := by decide +kernel
theorem dX8_init_60 : decode cX8_init 60 = .ok (.sipush 351, 3) := by decide +kernel
theorem dX8_init_63 : decode cX8_init 63 = .ok (.newarray .int, 2) := by decide +kernel
theorem dX8_init_65 : decode cX8_init 65 = .ok (.putfield 32, 3) := by decide +kernel
theorem dX8_init_68 : decode cX8_init 68 = .ok (.aload_n 0, 1) := by decide +kernel
theorem dX8_init_69 : decode cX8_init 69 = .ok (.bipush 10, 2) := by decide +kernel
theorem dX8_init_71 : decode cX8_init 71 = .ok (.newarray .long, 2) := by decide +kernel
theorem dX8_init_73 : decode cX8_init 73 = .ok (.putfield 35, 3) := by decide +kernel
theorem dX8_init_76 : decode cX8_init 76 = .ok (.aload_n 0, 1) := by decide +kernel
theorem dX8_init_77 : decode cX8_init 77 = .ok (.bipush 10, 2) := by decide +kernel
theorem dX8_init_79 : decode cX8_init 79 = .ok (.newarray .long, 2) := by decide +kernel
theorem dX8_init_81 : decode cX8_init 81 = .ok (.putfield 39, 3) := by decide +kernel
theorem dX8_init_84 : decode cX8_init 84 = .ok (.aload_n 0, 1) := by decide +kernel
theorem dX8_init_85 : decode cX8_init 85 = .ok (.bipush 10, 2) := by decide +kernel
theorem dX8_init_87 : decode cX8_init 87 = .ok (.newarray .long, 2) := by decide +kernel
theorem dX8_init_89 : decode cX8_init 89 = .ok (.putfield 42, 3) := by decide +kernel
theorem dX8_init_92 : decode cX8_init 92 = .ok (.aload_n 0, 1) := by decide +kernel
theorem dX8_init_93 : decode cX8_init 93 = .ok (.bipush 6, 2) := by decide +kernel
theorem dX8_init_95 : decode cX8_init 95 = .ok (.newarray .int, 2) := by decide +kernel
theorem dX8_init_97 : decode cX8_init 97 = .ok (.putfield 45, 3) := by decide +kernel
theorem dX8_init_100 : decode cX8_init 100 = .ok (.aload_n 0, 1) := by decide +kernel
theorem dX8_init_101 : decode cX8_init 101 = .ok (.bipush 6, 2) := by decide +kernel
theorem dX8_init_103 : decode cX8_init 103 = .ok (.newarray .int, 2) := by decide +kernel
theorem dX8_init_105 : decode cX8_init 105 = .ok (.putfield 48, 3) := by decide +kernel
theorem dX8_init_108 : decode cX8_init 108 = .ok (.aload_n 0, 1) := by decide +kernel
theorem dX8_init_109 : decode cX8_init 109 = .ok (.sipush 4096, 3) := by decide +kernel
theorem dX8_init_112 : decode cX8_init 112 = .ok (.newarray .int, 2) := by decide +kernel
theorem dX8_init_114 : decode cX8_init 114 = .ok (.putfield 51, 3) := by decide +kernel
theorem dX8_init_117 : decode cX8_init 117 = .ok (.aload_n 0, 1) := by decide +kernel
theorem dX8_init_118 : decode cX8_init 118 = .ok (.sipush 4096, 3) := by decide +kernel
theorem dX8_init_121 : decode cX8_init 121 = .ok (.newarray .int, 2) := by decide +kernel
theorem dX8_init_123 : decode cX8_init 123 = .ok (.putfield 54, 3) := by decide +kernel
theorem dX8_init_126 : decode cX8_init 126 = .ok (.aload_n 0, 1) := by decide +kernel
theorem dX8_init_127 : decode cX8_init 127 = .ok (.bipush 24, 2) := by decide +kernel
theorem dX8_init_129 : decode cX8_init 129 = .ok (.newarray .int, 2) := by decide +kernel
theorem dX8_init_131 : decode cX8_init 131 = .ok (.putfield 57, 3) := by decide +kernel
theorem dX8_init_134 : decode cX8_init 134 = .ok (.aload_n 0, 1) := by decide +kernel
theorem dX8_init_135 : decode cX8_init 135 = .ok (.bipush 60, 2) := by decide +kernel
theorem dX8_init_137 : decode cX8_init 137 = .ok (.newarray .int, 2) := by decide +kernel
theorem dX8_init_139 : decode cX8_init 139 = .ok (.putfield 60, 3) := by decide +kernel
theorem dX8_init_142 : decode cX8_init 142 = .ok (.aload_n 0, 1) := by decide +kernel
theorem dX8_init_143 : decode cX8_init 143 = .ok (.bipush 60, 2) := by decide +kernel
theorem dX8_init_145 : decode cX8_init 145 = .ok (.newarray .int, 2) := by decide +kernel
theorem dX8_init_147 : decode cX8_init 147 = .ok (.putfield 63, 3) := by decide +kernel
theorem dX8_init_150 : decode cX8_init 150 = .ok (.aload_n 0, 1) := by decide +kernel
theorem dX8_init_151 : decode cX8_init 151 = .ok (.bipush 60, 2) := by decide +kernel
theorem dX8_init_153 : decode cX8_init 153 = .ok (.newarray .int, 2) := by decide +kernel
theorem dX8_init_155 : decode cX8_init 155 = .ok (.putfield 66, 3) := by decide +kernel
theorem dX8_init_158 : decode cX8_init 158 = .ok (.aload_n 0, 1) := by decide +kernel
theorem dX8_init_159 : decode cX8_init 159 = .ok (.iconst 2, 1) := by decide +kernel
theorem dX8_init_160 : decode cX8_init 160 = .ok (.newarray .int, 2) := by decide +kernel
theorem dX8_init_162 : decode cX8_init 162 = .ok (.putfield 69, 3) := by decide +kernel
theorem dX8_init_165 : decode cX8_init 165 = .ok (.aload_n 0, 1) := by decide +kernel
theorem dX8_init_166 : decode cX8_init 166 = .ok (.iconst 2, 1) := by decide +kernel
theorem dX8_init_167 : decode cX8_init 167 = .ok (.newarray .int, 2) := by decide +kernel
theorem dX8_init_169 : decode cX8_init 169 = .ok (.putfield 72, 3) := by decide +kernel
theorem dX8_init_172 : decode cX8_init 172 = .ok (.aload_n 0, 1) := by decide +kernel
theorem dX8_init_173 : decode cX8_init 173 = .ok (.sipush 500, 3) := by decide +kernel
theorem dX8_init_176 : decode cX8_init 176 = .ok (.newarray .int, 2) := by decide +kernel
theorem dX8_init_178 : decode cX8_init 178 = .ok (.putfield 75, 3) := by decide +kernel
theorem dX8_init_181 : decode cX8_init 181 = .ok (.aload_n 0, 1) := by decide +kernel
theorem dX8_init_182 : decode cX8_init 182 = .ok (.invokevirtual 78, 3) := by decide +kernel
theorem dX8_init_185 : decode cX8_init 185 = .ok (.return_, 1) := by decide +kernel
theorem dX8_thrown_0 : decode cX8_thrown 0 = .ok (.aload_n 0, 1) := by decide +kernel
theorem dX8_thrown_1 : decode cX8_thrown 1 = .ok (.getfield 81, 3) := by decide +kernel
theorem dX8_thrown_4 : decode cX8_thrown 4 = .ok (.ireturn, 1) := by decide +kernel
theorem dX8_isIn_0 : decode cX8_isIn 0 = .ok (.lload_n 0, 1) := by decide +kernel
theorem dX8_isIn_1 : decode cX8_isIn 1 = .ok (.lload_n 2, 1) := by decide +kernel
theorem dX8_isIn_2 : decode cX8_isIn 2 = .ok (.lcmp, 1) := by decide +kernel
theorem dX8_isIn_3 : decode cX8_isIn 3 = .ok (.ifCond .lt 14, 3) := by decide +kernel
theorem dX8_isIn_6 : decode cX8_isIn 6 = .ok (.lload_n 0, 1) := by decide +kernel
theorem dX8_isIn_7 : decode cX8_isIn 7 = .ok (.lload 4, 2) := by decide +kernel
theorem dX8_isIn_9 : decode cX8_isIn 9 = .ok (.lcmp, 1) := by decide +kernel
theorem dX8_isIn_10 : decode cX8_isIn 10 = .ok (.ifCond .gt 7, 3) := by decide +kernel
theorem dX8_isIn_13 : decode cX8_isIn 13 = .ok (.iconst 1, 1) := by decide +kernel
theorem dX8_isIn_14 : decode cX8_isIn 14 = .ok (.goto 4, 3) := by decide +kernel
theorem dX8_isIn_17 : decode cX8_isIn 17 = .ok (.iconst 0, 1) := by decide +kernel
theorem dX8_isIn_18 : decode cX8_isIn 18 = .ok (.ireturn, 1) := by decide +kernel
theorem dX8_truth_0 : decode cX8_truth 0 = .ok (.iload_n 0, 1) := by decide +kernel
theorem dX8_truth_1 : decode cX8_truth 1 = .ok (.ifCond .eq 7, 3) := by decide +kernel
theorem dX8_truth_4 : decode cX8_truth 4 = .ok (.iconst 1, 1) := by decide +kernel
theorem dX8_truth_5 : decode cX8_truth 5 = .ok (.goto 4, 3) := by decide +kernel
theorem dX8_truth_8 : decode cX8_truth 8 = .ok (.iconst 0, 1) := by decide +kernel
theorem dX8_truth_9 : decode cX8_truth 9 = .ok (.ireturn, 1) := by decide +kernel
theorem dX8_hasBit_0 : decode cX8_hasBit 0 = .ok (.iload_n 0, 1) := by decide +kernel
theorem dX8_hasBit_1 : decode cX8_hasBit 1 = .ok (.iload_n 1, 1) := by decide +kernel
theorem dX8_hasBit_2 : decode cX8_hasBit 2 = .ok (.ishr, 1) := by decide +kernel
theorem dX8_hasBit_3 : decode cX8_hasBit 3 = .ok (.iconst 1, 1) := by decide +kernel
theorem dX8_hasBit_4 : decode cX8_hasBit 4 = .ok (.iand, 1) := by decide +kernel
theorem dX8_hasBit_5 : decode cX8_hasBit 5 = .ok (.iconst 1, 1) := by decide +kernel
theorem dX8_hasBit_6 : decode cX8_hasBit 6 = .ok (.if_icmp .ne 7, 3) := by decide +kernel
theorem dX8_hasBit_9 : decode cX8_hasBit 9 = .ok (.iconst 1, 1) := by decide +kernel
theorem dX8_hasBit_10 : decode cX8_hasBit 10 = .ok (.goto 4, 3) := by decide +kernel
theorem dX8_hasBit_13 : decode cX8_hasBit 13 = .ok (.iconst 0, 1) := by decide +kernel
theorem dX8_hasBit_14 : decode cX8_hasBit 14 = .ok (.ireturn, 1) := by decide +kernel
theorem dX8_goes_0 : decode cX8_goes 0 = .ok (.aload_n 0, 1) := by decide +kernel
theorem dX8_goes_1 : decode cX8_goes 1 = .ok (.iload_n 1, 1) := by decide +kernel
theorem dX8_goes_2 : decode cX8_goes 2 = .ok (.ifCond .ne 7, 3) := by decide +kernel
theorem dX8_goes_5 : decode cX8_goes 5 = .ok (.iconst 1, 1) := by decide +kernel
theorem dX8_goes_6 : decode cX8_goes 6 = .ok (.goto 4, 3) := by decide +kernel
theorem dX8_goes_9 : decode cX8_goes 9 = .ok (.iconst 0, 1) := by decide +kernel
theorem dX8_goes_10 : decode cX8_goes 10 = .ok (.invokestatic 84, 3) := by decide +kernel
theorem dX8_goes_13 : decode cX8_goes 13 = .ok (.putfield 81, 3) := by decide +kernel
theorem dX8_goes_16 : decode cX8_goes 16 = .ok (.iload_n 1, 1) := by decide +kernel
theorem dX8_goes_17 : decode cX8_goes 17 = .ok (.ireturn, 1) := by decide +kernel
theorem dX8_goesBoth_0 : decode cX8_goesBoth 0 = .ok (.aload_n 0, 1) := by decide +kernel
theorem dX8_goesBoth_1 : decode cX8_goesBoth 1 = .ok (.iload_n 1, 1) := by decide +kernel
theorem dX8_goesBoth_2 : decode cX8_goesBoth 2 = .ok (.ifCond .ne 7, 3) := by decide +kernel
theorem dX8_goesBoth_5 : decode cX8_goesBoth 5 = .ok (.iconst 1, 1) := by decide +kernel
theorem dX8_goesBoth_6 : decode cX8_goesBoth 6 = .ok (.goto 12, 3) := by decide +kernel
theorem dX8_goesBoth_9 : decode cX8_goesBoth 9 = .ok (.iload_n 2, 1) := by decide +kernel
theorem dX8_goesBoth_10 : decode cX8_goesBoth 10 = .ok (.ifCond .ne 7, 3) := by decide +kernel
theorem dX8_goesBoth_13 : decode cX8_goesBoth 13 = .ok (.iconst 2, 1) := by decide +kernel
theorem dX8_goesBoth_14 : decode cX8_goesBoth 14 = .ok (.goto 4, 3) := by decide +kernel
theorem dX8_goesBoth_17 : decode cX8_goesBoth 17 = .ok (.iconst 0, 1) := by decide +kernel
theorem dX8_goesBoth_18 : decode cX8_goesBoth 18 = .ok (.putfield 81, 3) := by decide +kernel
theorem dX8_goesBoth_21 : decode cX8_goesBoth 21 = .ok (.aload_n 0, 1) := by decide +kernel
theorem dX8_goesBoth_22 : decode cX8_goesBoth 22 = .ok (.getfield 81, 3) := by decide +kernel
theorem dX8_goesBoth_25 : decode cX8_goesBoth 25 = .ok (.ifCond .ne 7, 3) := by decide +kernel
theorem dX8_goesBoth_28 : decode cX8_goesBoth 28 = .ok (.iconst 1, 1) := by decide +kernel
theorem dX8_goesBoth_29 : decode cX8_goesBoth 29 = .ok (.goto 4, 3) := by decide +kernel
theorem dX8_goesBoth_32 : decode cX8_goesBoth 32 = .ok (.iconst 0, 1) := by decide +kernel
theorem dX8_goesBoth_33 : decode cX8_goesBoth 33 = .ok (.ireturn, 1) := by decide +kernel
theorem dX8_feed_0 : decode cX8_feed 0 = .ok (.aload_n 0, 1) := by decide +kernel
theorem dX8_feed_1 : decode cX8_feed 1 = .ok (.aload_n 0, 1) := by decide +kernel
theorem dX8_feed_2 : decode cX8_feed 2 = .ok (.getfield 88, 3) := by decide +kernel
theorem dX8_feed_5 : decode cX8_feed 5 = .ok (.bipush 20, 2) := by decide +kernel
theorem dX8_feed_7 : decode cX8_feed 7 = .ok (.iadd, 1) := by decide +kernel
theorem dX8_feed_8 : decode cX8_feed 8 = .ok (.sipush 600, 3) := by decide +kernel
theorem dX8_feed_11 : decode cX8_feed 11 = .ok (.if_icmp .gt 7, 3) := by decide +kernel
theorem dX8_feed_14 : decode cX8_feed 14 = .ok (.iconst 1, 1) := by decide +kernel
theorem dX8_feed_15 : decode cX8_feed 15 = .ok (.goto 4, 3) := by decide +kernel
theorem dX8_feed_18 : decode cX8_feed 18 = .ok (.iconst 0, 1) := by decide +kernel
theorem dX8_feed_19 : decode cX8_feed 19 = .ok (.invokevirtual 91, 3) := by decide +kernel
theorem dX8_feed_22 : decode cX8_feed 22 = .ok (.ifCond .ne 5, 3) := by decide +kernel
theorem dX8_feed_25 : decode cX8_feed 25 = .ok (.iconst 0, 1) := by decide +kernel
theorem dX8_feed_26 : decode cX8_feed 26 = .ok (.ireturn, 1) := by decide +kernel
theorem dX8_feed_27 : decode cX8_feed 27 = .ok (.aload_n 0, 1) := by decide +kernel
theorem dX8_feed_28 : decode cX8_feed 28 = .ok (.iload_n 1, 1) := by decide +kernel
theorem dX8_feed_29 : decode cX8_feed 29 = .ok (.invokevirtual 95, 3) := by decide +kernel
theorem dX8_feed_32 : decode cX8_feed 32 = .ok (.aload_n 0, 1) := by decide +kernel
theorem dX8_feed_33 : decode cX8_feed 33 = .ok (.iload_n 2, 1) := by decide +kernel
theorem dX8_feed_34 : decode cX8_feed 34 = .ok (.invokevirtual 95, 3) := by decide +kernel
theorem dX8_feed_37 : decode cX8_feed 37 = .ok (.aload_n 0, 1) := by decide +kernel
theorem dX8_feed_38 : decode cX8_feed 38 = .ok (.iload_n 3, 1) := by decide +kernel
theorem dX8_feed_39 : decode cX8_feed 39 = .ok (.invokevirtual 95, 3) := by decide +kernel
theorem dX8_feed_42 : decode cX8_feed 42 = .ok (.aload_n 0, 1) := by decide +kernel
theorem dX8_feed_43 : decode cX8_feed 43 = .ok (.iload 4, 2) := by decide +kernel
theorem dX8_feed_45 : decode cX8_feed 45 = .ok (.invokevirtual 95, 3) := by decide +kernel
theorem dX8_feed_48 : decode cX8_feed 48 = .ok (.aload_n 0, 1) := by decide +kernel
theorem dX8_feed_49 : decode cX8_feed 49 = .ok (.iload 5, 2) := by decide +kernel
theorem dX8_feed_51 : decode cX8_feed 51 = .ok (.invokevirtual 95, 3) := by decide +kernel
theorem dX8_feed_54 : decode cX8_feed 54 = .ok (.aload_n 0, 1) := by decide +kernel
theorem dX8_feed_55 : decode cX8_feed 55 = .ok (.getfield 88, 3) := by decide +kernel
theorem dX8_feed_58 : decode cX8_feed 58 = .ok (.ireturn, 1) := by decide +kernel
theorem dX8_four_0 : decode cX8_four 0 = .ok (.bipush 24, 2) := by decide +kernel
theorem dX8_four_2 : decode cX8_four 2 = .ok (.istore_n 2, 1) := by decide +kernel
theorem dX8_four_3 : decode cX8_four 3 = .ok (.iload_n 2, 1) := by decide +kernel
theorem dX8_four_4 : decode cX8_four 4 = .ok (.ifCond .lt 35, 3) := by decide +kernel
theorem dX8_four_7 : decode cX8_four 7 = .ok (.aload_n 0, 1) := by decide +kernel
theorem dX8_four_8 : decode cX8_four 8 = .ok (.getfield 7, 3) := by decide +kernel
theorem dX8_four_11 : decode cX8_four 11 = .ok (.aload_n 0, 1) := by decide +kernel
theorem dX8_four_12 : decode cX8_four 12 = .ok (.getfield 88, 3) := by decide +kernel
theorem dX8_four_15 : decode cX8_four 15 = .ok (.iload_n 1, 1) := by decide +kernel
theorem dX8_four_16 : decode cX8_four 16 = .ok (.iload_n 2, 1) := by decide +kernel
theorem dX8_four_17 : decode cX8_four 17 = .ok (.ishr, 1) := by decide +kernel
theorem dX8_four_18 : decode cX8_four 18 = .ok (.sipush 255, 3) := by decide +kernel
theorem dX8_four_21 : decode cX8_four 21 = .ok (.iand, 1) := by decide +kernel
theorem dX8_four_22 : decode cX8_four 22 = .ok (.iastore, 1) := by decide +kernel
theorem dX8_four_23 : decode cX8_four 23 = .ok (.aload_n 0, 1) := by decide +kernel
theorem dX8_four_24 : decode cX8_four 24 = .ok (.dup, 1) := by decide +kernel
theorem dX8_four_25 : decode cX8_four 25 = .ok (.getfield 88, 3) := by decide +kernel
theorem dX8_four_28 : decode cX8_four 28 = .ok (.iconst 1, 1) := by decide +kernel
theorem dX8_four_29 : decode cX8_four 29 = .ok (.iadd, 1) := by decide +kernel
theorem dX8_four_30 : decode cX8_four 30 = .ok (.putfield 88, 3) := by decide +kernel
theorem dX8_four_33 : decode cX8_four 33 = .ok (.iinc 2 (-8), 3) := by decide +kernel
theorem dX8_four_36 : decode cX8_four 36 = .ok (.goto (-33), 3) := by decide +kernel
theorem dX8_four_39 : decode cX8_four 39 = .ok (.return_, 1) := by decide +kernel
theorem dX8_truncate_0 : decode cX8_truncate 0 = .ok (.aload_n 0, 1) := by decide +kernel
theorem dX8_truncate_1 : decode cX8_truncate 1 = .ok (.iload_n 1, 1) := by decide +kernel
theorem dX8_truncate_2 : decode cX8_truncate 2 = .ok (.i2l, 1) := by decide +kernel
theorem dX8_truncate_3 : decode cX8_truncate 3 = .ok (.lconst 0, 1) := by decide +kernel
theorem dX8_truncate_4 : decode cX8_truncate 4 = .ok (.aload_n 0, 1) := by decide +kernel
theorem dX8_truncate_5 : decode cX8_truncate 5 = .ok (.getfield 88, 3) := by decide +kernel
theorem dX8_truncate_8 : decode cX8_truncate 8 = .ok (.i2l, 1) := by decide +kernel
theorem dX8_truncate_9 : decode cX8_truncate 9 = .ok (.invokestatic 99, 3) := by decide +kernel
theorem dX8_truncate_12 : decode cX8_truncate 12 = .ok (.invokevirtual 91, 3) := by decide +kernel
theorem dX8_truncate_15 : decode cX8_truncate 15 = .ok (.ifCond .ne 5, 3) := by decide +kernel
theorem dX8_truncate_18 : decode cX8_truncate 18 = .ok (.iconst 0, 1) := by decide +kernel
theorem dX8_truncate_19 : decode cX8_truncate 19 = .ok (.ireturn, 1) := by decide +kernel
theorem dX8_truncate_20 : decode cX8_truncate 20 = .ok (.aload_n 0, 1) := by decide +kernel
theorem dX8_truncate_21 : decode cX8_truncate 21 = .ok (.iload_n 1, 1) := by decide +kernel
theorem dX8_truncate_22 : decode cX8_truncate 22 = .ok (.putfield 88, 3) := by decide +kernel
theorem dX8_truncate_25 : decode cX8_truncate 25 = .ok (.iload_n 1, 1) := by decide +kernel
theorem dX8_truncate_26 : decode cX8_truncate 26 = .ok (.ireturn, 1) := by decide +kernel
theorem dX8_here_0 : decode cX8_here 0 = .ok (.aload_n 0, 1) := by decide +kernel
theorem dX8_here_1 : decode cX8_here 1 = .ok (.getfield 103, 3) := by decide +kernel
theorem dX8_here_4 : decode cX8_here 4 = .ok (.iload_n 1, 1) := by decide +kernel
theorem dX8_here_5 : decode cX8_here 5 = .ok (.iadd, 1) := by decide +kernel
theorem dX8_here_6 : decode cX8_here 6 = .ok (.aload_n 0, 1) := by decide +kernel
theorem dX8_here_7 : decode cX8_here 7 = .ok (.getfield 106, 3) := by decide +kernel
theorem dX8_here_10 : decode cX8_here 10 = .ok (.if_icmp .ge 17, 3) := by decide +kernel
theorem dX8_here_13 : decode cX8_here 13 = .ok (.aload_n 0, 1) := by decide +kernel
theorem dX8_here_14 : decode cX8_here 14 = .ok (.getfield 7, 3) := by decide +kernel
theorem dX8_here_17 : decode cX8_here 17 = .ok (.aload_n 0, 1) := by decide +kernel
theorem dX8_here_18 : decode cX8_here 18 = .ok (.getfield 103, 3) := by decide +kernel
theorem dX8_here_21 : decode cX8_here 21 = .ok (.iload_n 1, 1) := by decide +kernel
theorem dX8_here_22 : decode cX8_here 22 = .ok (.iadd, 1) := by decide +kernel
theorem dX8_here_23 : decode cX8_here 23 = .ok (.iaload, 1) := by decide +kernel
theorem dX8_here_24 : decode cX8_here 24 = .ok (.goto 4, 3) := by decide +kernel
theorem dX8_here_27 : decode cX8_here 27 = .ok (.iconst (-1), 1) := by decide +kernel
theorem dX8_here_28 : decode cX8_here 28 = .ok (.ireturn, 1) := by decide +kernel
theorem dX8_isLetter_0 : decode cX8_isLetter 0 = .ok (.iload_n 0, 1) := by decide +kernel
theorem dX8_isLetter_1 : decode cX8_isLetter 1 = .ok (.bipush 97, 2) := by decide +kernel
theorem dX8_isLetter_3 : decode cX8_isLetter 3 = .ok (.if_icmp .lt 13, 3) := by decide +kernel
theorem dX8_isLetter_6 : decode cX8_isLetter 6 = .ok (.iload_n 0, 1) := by decide +kernel
theorem dX8_isLetter_7 : decode cX8_isLetter 7 = .ok (.bipush 122, 2) := by decide +kernel
theorem dX8_isLetter_9 : decode cX8_isLetter 9 = .ok (.if_icmp .gt 7, 3) := by decide +kernel
theorem dX8_isLetter_12 : decode cX8_isLetter 12 = .ok (.iconst 1, 1) := by decide +kernel
theorem dX8_isLetter_13 : decode cX8_isLetter 13 = .ok (.goto 4, 3) := by decide +kernel
theorem dX8_isLetter_16 : decode cX8_isLetter 16 = .ok (.iconst 0, 1) := by decide +kernel
theorem dX8_isLetter_17 : decode cX8_isLetter 17 = .ok (.ireturn, 1) := by decide +kernel
theorem dX8_isDigit_0 : decode cX8_isDigit 0 = .ok (.iload_n 0, 1) := by decide +kernel
theorem dX8_isDigit_1 : decode cX8_isDigit 1 = .ok (.bipush 48, 2) := by decide +kernel
theorem dX8_isDigit_3 : decode cX8_isDigit 3 = .ok (.if_icmp .lt 13, 3) := by decide +kernel
theorem dX8_isDigit_6 : decode cX8_isDigit 6 = .ok (.iload_n 0, 1) := by decide +kernel
theorem dX8_isDigit_7 : decode cX8_isDigit 7 = .ok (.bipush 57, 2) := by decide +kernel
theorem dX8_isDigit_9 : decode cX8_isDigit 9 = .ok (.if_icmp .gt 7, 3) := by decide +kernel
theorem dX8_isDigit_12 : decode cX8_isDigit 12 = .ok (.iconst 1, 1) := by decide +kernel
theorem dX8_isDigit_13 : decode cX8_isDigit 13 = .ok (.goto 4, 3) := by decide +kernel
theorem dX8_isDigit_16 : decode cX8_isDigit 16 = .ok (.iconst 0, 1) := by decide +kernel
theorem dX8_isDigit_17 : decode cX8_isDigit 17 = .ok (.ireturn, 1) := by decide +kernel
theorem dX8_goOn_0 : decode cX8_goOn 0 = .ok (.aload_n 0, 1) := by decide +kernel
theorem dX8_goOn_1 : decode cX8_goOn 1 = .ok (.iconst 0, 1) := by decide +kernel
theorem dX8_goOn_2 : decode cX8_goOn 2 = .ok (.invokevirtual 109, 3) := by decide +kernel
theorem dX8_goOn_5 : decode cX8_goOn 5 = .ok (.bipush 32, 2) := by decide +kernel
theorem dX8_goOn_7 : decode cX8_goOn 7 = .ok (.if_icmp .eq 13, 3) := by decide +kernel
theorem dX8_goOn_10 : decode cX8_goOn 10 = .ok (.aload_n 0, 1) := by decide +kernel
theorem dX8_goOn_11 : decode cX8_goOn 11 = .ok (.iconst 0, 1) := by decide +kernel
theorem dX8_goOn_12 : decode cX8_goOn 12 = .ok (.invokevirtual 109, 3) := by decide +kernel
theorem dX8_goOn_15 : decode cX8_goOn 15 = .ok (.bipush 10, 2) := by decide +kernel
theorem dX8_goOn_17 : decode cX8_goOn 17 = .ok (.if_icmp .ne 16, 3) := by decide +kernel
theorem dX8_goOn_20 : decode cX8_goOn 20 = .ok (.aload_n 0, 1) := by decide +kernel
theorem dX8_goOn_21 : decode cX8_goOn 21 = .ok (.dup, 1) := by decide +kernel
theorem dX8_goOn_22 : decode cX8_goOn 22 = .ok (.getfield 103, 3) := by decide +kernel
theorem dX8_goOn_25 : decode cX8_goOn 25 = .ok (.iconst 1, 1) := by decide +kernel
theorem dX8_goOn_26 : decode cX8_goOn 26 = .ok (.iadd, 1) := by decide +kernel
theorem dX8_goOn_27 : decode cX8_goOn 27 = .ok (.putfield 103, 3) := by decide +kernel
theorem dX8_goOn_30 : decode cX8_goOn 30 = .ok (.goto (-30), 3) := by decide +kernel
theorem dX8_goOn_33 : decode cX8_goOn 33 = .ok (.aload_n 0, 1) := by decide +kernel
theorem dX8_goOn_34 : decode cX8_goOn 34 = .ok (.aload_n 0, 1) := by decide +kernel
theorem dX8_goOn_35 : decode cX8_goOn 35 = .ok (.getfield 103, 3) := by decide +kernel
theorem dX8_goOn_38 : decode cX8_goOn 38 = .ok (.putfield 113, 3) := by decide +kernel
theorem dX8_goOn_41 : decode cX8_goOn 41 = .ok (.aload_n 0, 1) := by decide +kernel
theorem dX8_goOn_42 : decode cX8_goOn 42 = .ok (.lconst 0, 1) := by decide +kernel
theorem dX8_goOn_43 : decode cX8_goOn 43 = .ok (.putfield 116, 3) := by decide +kernel
theorem dX8_goOn_46 : decode cX8_goOn 46 = .ok (.aload_n 0, 1) := by decide +kernel
theorem dX8_goOn_47 : decode cX8_goOn 47 = .ok (.iconst 0, 1) := by decide +kernel
theorem dX8_goOn_48 : decode cX8_goOn 48 = .ok (.putfield 120, 3) := by decide +kernel
theorem dX8_goOn_51 : decode cX8_goOn 51 = .ok (.aload_n 0, 1) := by decide +kernel
theorem dX8_goOn_52 : decode cX8_goOn 52 = .ok (.iconst 0, 1) := by decide +kernel
theorem dX8_goOn_53 : decode cX8_goOn 53 = .ok (.putfield 123, 3) := by decide +kernel
theorem dX8_goOn_56 : decode cX8_goOn 56 = .ok (.aload_n 0, 1) := by decide +kernel
theorem dX8_goOn_57 : decode cX8_goOn 57 = .ok (.iconst 0, 1) := by decide +kernel
theorem dX8_goOn_58 : decode cX8_goOn 58 = .ok (.invokevirtual 109, 3) := by decide +kernel
theorem dX8_goOn_61 : decode cX8_goOn 61 = .ok (.istore_n 1, 1) := by decide +kernel
theorem dX8_goOn_62 : decode cX8_goOn 62 = .ok (.iconst 0, 1) := by decide +kernel
theorem dX8_goOn_63 : decode cX8_goOn 63 = .ok (.istore_n 2, 1) := by decide +kernel
theorem dX8_goOn_64 : decode cX8_goOn 64 = .ok (.iload_n 1, 1) := by decide +kernel
theorem dX8_goOn_65 : decode cX8_goOn 65 = .ok (.ifCond .ge 9, 3) := by decide +kernel
theorem dX8_goOn_68 : decode cX8_goOn 68 = .ok (.aload_n 0, 1) := by decide +kernel
theorem dX8_goOn_69 : decode cX8_goOn 69 = .ok (.iconst 0, 1) := by decide +kernel
theorem dX8_goOn_70 : decode cX8_goOn 70 = .ok (.putfield 126, 3) := by decide +kernel
theorem dX8_goOn_73 : decode cX8_goOn 73 = .ok (.return_, 1) := by decide +kernel
theorem dX8_goOn_74 : decode cX8_goOn 74 = .ok (.iload_n 1, 1) := by decide +kernel
theorem dX8_goOn_75 : decode cX8_goOn 75 = .ok (.invokestatic 129, 3) := by decide +kernel
theorem dX8_goOn_78 : decode cX8_goOn 78 = .ok (.ifCond .eq 71, 3) := by decide +kernel
theorem dX8_goOn_81 : decode cX8_goOn 81 = .ok (.aload_n 0, 1) := by decide +kernel
theorem dX8_goOn_82 : decode cX8_goOn 82 = .ok (.iload_n 2, 1) := by decide +kernel
theorem dX8_goOn_83 : decode cX8_goOn 83 = .ok (.invokevirtual 109, 3) := by decide +kernel
theorem dX8_goOn_86 : decode cX8_goOn 86 = .ok (.invokestatic 129, 3) := by decide +kernel
theorem dX8_goOn_89 : decode cX8_goOn 89 = .ok (.ifCond .eq 37, 3) := by decide +kernel
theorem dX8_goOn_92 : decode cX8_goOn 92 = .ok (.iload_n 2, 1) := by decide +kernel
theorem dX8_goOn_93 : decode cX8_goOn 93 = .ok (.bipush 8, 2) := by decide +kernel
theorem dX8_goOn_95 : decode cX8_goOn 95 = .ok (.if_icmp .ge 25, 3) := by decide +kernel
theorem dX8_goOn_98 : decode cX8_goOn 98 = .ok (.aload_n 0, 1) := by decide +kernel
theorem dX8_goOn_99 : decode cX8_goOn 99 = .ok (.aload_n 0, 1) := by decide +kernel
theorem dX8_goOn_100 : decode cX8_goOn 100 = .ok (.getfield 116, 3) := by decide +kernel
theorem dX8_goOn_103 : decode cX8_goOn 103 = .ok (.iconst 5, 1) := by decide +kernel
theorem dX8_goOn_104 : decode cX8_goOn 104 = .ok (.lshl, 1) := by decide +kernel
theorem dX8_goOn_105 : decode cX8_goOn 105 = .ok (.aload_n 0, 1) := by decide +kernel
theorem dX8_goOn_106 : decode cX8_goOn 106 = .ok (.iload_n 2, 1) := by decide +kernel
theorem dX8_goOn_107 : decode cX8_goOn 107 = .ok (.invokevirtual 109, 3) := by decide +kernel
theorem dX8_goOn_110 : decode cX8_goOn 110 = .ok (.bipush 97, 2) := by decide +kernel
theorem dX8_goOn_112 : decode cX8_goOn 112 = .ok (.isub, 1) := by decide +kernel
theorem dX8_goOn_113 : decode cX8_goOn 113 = .ok (.iconst 1, 1) := by decide +kernel
theorem dX8_goOn_114 : decode cX8_goOn 114 = .ok (.iadd, 1) := by decide +kernel
theorem dX8_goOn_115 : decode cX8_goOn 115 = .ok (.i2l, 1) := by decide +kernel
theorem dX8_goOn_116 : decode cX8_goOn 116 = .ok (.lor, 1) := by decide +kernel
theorem dX8_goOn_117 : decode cX8_goOn 117 = .ok (.putfield 116, 3) := by decide +kernel
theorem dX8_goOn_120 : decode cX8_goOn 120 = .ok (.iinc 2 1, 3) := by decide +kernel
theorem dX8_goOn_123 : decode cX8_goOn 123 = .ok (.goto (-42), 3) := by decide +kernel
theorem dX8_goOn_126 : decode cX8_goOn 126 = .ok (.aload_n 0, 1) := by decide +kernel
theorem dX8_goOn_127 : decode cX8_goOn 127 = .ok (.iload_n 2, 1) := by decide +kernel
theorem dX8_goOn_128 : decode cX8_goOn 128 = .ok (.bipush 30, 2) := by decide +kernel
theorem dX8_goOn_130 : decode cX8_goOn 130 = .ok (.if_icmp .le 7, 3) := by decide +kernel
theorem dX8_goOn_133 : decode cX8_goOn 133 = .ok (.iconst 4, 1) := by decide +kernel
theorem dX8_goOn_134 : decode cX8_goOn 134 = .ok (.goto 4, 3) := by decide +kernel
theorem dX8_goOn_137 : decode cX8_goOn 137 = .ok (.iconst 1, 1) := by decide +kernel
theorem dX8_goOn_138 : decode cX8_goOn 138 = .ok (.putfield 126, 3) := by decide +kernel
theorem dX8_goOn_141 : decode cX8_goOn 141 = .ok (.aload_n 0, 1) := by decide +kernel
theorem dX8_goOn_142 : decode cX8_goOn 142 = .ok (.iload_n 2, 1) := by decide +kernel
theorem dX8_goOn_143 : decode cX8_goOn 143 = .ok (.putfield 123, 3) := by decide +kernel
theorem dX8_goOn_146 : decode cX8_goOn 146 = .ok (.goto 103, 3) := by decide +kernel
theorem dX8_goOn_149 : decode cX8_goOn 149 = .ok (.iload_n 1, 1) := by decide +kernel
theorem dX8_goOn_150 : decode cX8_goOn 150 = .ok (.invokestatic 133, 3) := by decide +kernel
theorem dX8_goOn_153 : decode cX8_goOn 153 = .ok (.ifCond .eq 62, 3) := by decide +kernel
theorem dX8_goOn_156 : decode cX8_goOn 156 = .ok (.aload_n 0, 1) := by decide +kernel
theorem dX8_goOn_157 : decode cX8_goOn 157 = .ok (.iload_n 2, 1) := by decide +kernel
theorem dX8_goOn_158 : decode cX8_goOn 158 = .ok (.invokevirtual 109, 3) := by decide +kernel
theorem dX8_goOn_161 : decode cX8_goOn 161 = .ok (.invokestatic 133, 3) := by decide +kernel
theorem dX8_goOn_164 : decode cX8_goOn 164 = .ok (.ifCond .eq 34, 3) := by decide +kernel
theorem dX8_goOn_167 : decode cX8_goOn 167 = .ok (.iload_n 2, 1) := by decide +kernel
theorem dX8_goOn_168 : decode cX8_goOn 168 = .ok (.iconst 3, 1) := by decide +kernel
theorem dX8_goOn_169 : decode cX8_goOn 169 = .ok (.if_icmp .ge 23, 3) := by decide +kernel
theorem dX8_goOn_172 : decode cX8_goOn 172 = .ok (.aload_n 0, 1) := by decide +kernel
theorem dX8_goOn_173 : decode cX8_goOn 173 = .ok (.bipush 10, 2) := by decide +kernel
theorem dX8_goOn_175 : decode cX8_goOn 175 = .ok (.aload_n 0, 1) := by decide +kernel
theorem dX8_goOn_176 : decode cX8_goOn 176 = .ok (.getfield 120, 3) := by decide +kernel
theorem dX8_goOn_179 : decode cX8_goOn 179 = .ok (.imul, 1) := by decide +kernel
theorem dX8_goOn_180 : decode cX8_goOn 180 = .ok (.aload_n 0, 1) := by decide +kernel
theorem dX8_goOn_181 : decode cX8_goOn 181 = .ok (.iload_n 2, 1) := by decide +kernel
theorem dX8_goOn_182 : decode cX8_goOn 182 = .ok (.invokevirtual 109, 3) := by decide +kernel
theorem dX8_goOn_185 : decode cX8_goOn 185 = .ok (.iadd, 1) := by decide +kernel
theorem dX8_goOn_186 : decode cX8_goOn 186 = .ok (.bipush 48, 2) := by decide +kernel
theorem dX8_goOn_188 : decode cX8_goOn 188 = .ok (.isub, 1) := by decide +kernel
theorem dX8_goOn_189 : decode cX8_goOn 189 = .ok (.putfield 120, 3) := by decide +kernel
theorem dX8_goOn_192 : decode cX8_goOn 192 = .ok (.iinc 2 1, 3) := by decide +kernel
theorem dX8_goOn_195 : decode cX8_goOn 195 = .ok (.goto (-39), 3) := by decide +kernel
theorem dX8_goOn_198 : decode cX8_goOn 198 = .ok (.aload_n 0, 1) := by decide +kernel
theorem dX8_goOn_199 : decode cX8_goOn 199 = .ok (.iload_n 2, 1) := by decide +kernel
theorem dX8_goOn_200 : decode cX8_goOn 200 = .ok (.iconst 3, 1) := by decide +kernel
theorem dX8_goOn_201 : decode cX8_goOn 201 = .ok (.if_icmp .le 7, 3) := by decide +kernel
theorem dX8_goOn_204 : decode cX8_goOn 204 = .ok (.iconst 4, 1) := by decide +kernel
theorem dX8_goOn_205 : decode cX8_goOn 205 = .ok (.goto 4, 3) := by decide +kernel
theorem dX8_goOn_208 : decode cX8_goOn 208 = .ok (.iconst 2, 1) := by decide +kernel
theorem dX8_goOn_209 : decode cX8_goOn 209 = .ok (.putfield 126, 3) := by decide +kernel
theorem dX8_goOn_212 : decode cX8_goOn 212 = .ok (.goto 37, 3) := by decide +kernel
theorem dX8_goOn_215 : decode cX8_goOn 215 = .ok (.aload_n 0, 1) := by decide +kernel
theorem dX8_goOn_216 : decode cX8_goOn 216 = .ok (.iload_n 1, 1) := by decide +kernel
theorem dX8_goOn_217 : decode cX8_goOn 217 = .ok (.bipush 59, 2) := by decide +kernel
theorem dX8_goOn_219 : decode cX8_goOn 219 = .ok (.if_icmp .eq 15, 3) := by decide +kernel
theorem dX8_goOn_222 : decode cX8_goOn 222 = .ok (.iload_n 1, 1) := by decide +kernel
theorem dX8_goOn_223 : decode cX8_goOn 223 = .ok (.bipush 40, 2) := by decide +kernel
theorem dX8_goOn_225 : decode cX8_goOn 225 = .ok (.if_icmp .eq 9, 3) := by decide +kernel
theorem dX8_goOn_228 : decode cX8_goOn 228 = .ok (.iload_n 1, 1) := by decide +kernel
theorem dX8_goOn_229 : decode cX8_goOn 229 = .ok (.bipush 41, 2) := by decide +kernel
theorem dX8_goOn_231 : decode cX8_goOn 231 = .ok (.if_icmp .ne 7, 3) := by decide +kernel
theorem dX8_goOn_234 : decode cX8_goOn 234 = .ok (.iconst 3, 1) := by decide +kernel
theorem dX8_goOn_235 : decode cX8_goOn 235 = .ok (.goto 4, 3) := by decide +kernel
theorem dX8_goOn_238 : decode cX8_goOn 238 = .ok (.iconst 4, 1) := by decide +kernel
theorem dX8_goOn_239 : decode cX8_goOn 239 = .ok (.putfield 126, 3) := by decide +kernel
theorem dX8_goOn_242 : decode cX8_goOn 242 = .ok (.aload_n 0, 1) := by decide +kernel
theorem dX8_goOn_243 : decode cX8_goOn 243 = .ok (.iload_n 1, 1) := by decide +kernel
theorem dX8_goOn_244 : decode cX8_goOn 244 = .ok (.putfield 120, 3) := by decide +kernel
theorem dX8_goOn_247 : decode cX8_goOn 247 = .ok (.iconst 1, 1) := by decide +kernel
theorem dX8_goOn_248 : decode cX8_goOn 248 = .ok (.istore_n 2, 1) := by decide +kernel
theorem dX8_goOn_249 : decode cX8_goOn 249 = .ok (.aload_n 0, 1) := by decide +kernel
theorem dX8_goOn_250 : decode cX8_goOn 250 = .ok (.dup, 1) := by decide +kernel
theorem dX8_goOn_251 : decode cX8_goOn 251 = .ok (.getfield 103, 3) := by decide +kernel
theorem dX8_goOn_254 : decode cX8_goOn 254 = .ok (.iload_n 2, 1) := by decide +kernel
theorem dX8_goOn_255 : decode cX8_goOn 255 = .ok (.iadd, 1) := by decide +kernel
theorem dX8_goOn_256 : decode cX8_goOn 256 = .ok (.putfield 103, 3) := by decide +kernel
theorem dX8_goOn_259 : decode cX8_goOn 259 = .ok (.return_, 1) := by decide +kernel
theorem dX8_wrong_0 : decode cX8_wrong 0 = .ok (.aload_n 0, 1) := by decide +kernel
theorem dX8_wrong_1 : decode cX8_wrong 1 = .ok (.getfield 136, 3) := by decide +kernel
theorem dX8_wrong_4 : decode cX8_wrong 4 = .ok (.ifCond .le 4, 3) := by decide +kernel
theorem dX8_wrong_7 : decode cX8_wrong 7 = .ok (.return_, 1) := by decide +kernel
theorem dX8_wrong_8 : decode cX8_wrong 8 = .ok (.aload_n 0, 1) := by decide +kernel
theorem dX8_wrong_9 : decode cX8_wrong 9 = .ok (.aload_n 0, 1) := by decide +kernel
theorem dX8_wrong_10 : decode cX8_wrong 10 = .ok (.getfield 126, 3) := by decide +kernel
theorem dX8_wrong_13 : decode cX8_wrong 13 = .ok (.iconst 4, 1) := by decide +kernel
theorem dX8_wrong_14 : decode cX8_wrong 14 = .ok (.if_icmp .ne 7, 3) := by decide +kernel
theorem dX8_wrong_17 : decode cX8_wrong 17 = .ok (.iconst 1, 1) := by decide +kernel
theorem dX8_wrong_18 : decode cX8_wrong 18 = .ok (.goto 4, 3) := by decide +kernel
theorem dX8_wrong_21 : decode cX8_wrong 21 = .ok (.iload_n 1, 1) := by decide +kernel
theorem dX8_wrong_22 : decode cX8_wrong 22 = .ok (.putfield 136, 3) := by decide +kernel
theorem dX8_wrong_25 : decode cX8_wrong 25 = .ok (.aload_n 0, 1) := by decide +kernel
theorem dX8_wrong_26 : decode cX8_wrong 26 = .ok (.aload_n 0, 1) := by decide +kernel
theorem dX8_wrong_27 : decode cX8_wrong 27 = .ok (.getfield 113, 3) := by decide +kernel
theorem dX8_wrong_30 : decode cX8_wrong 30 = .ok (.putfield 13, 3) := by decide +kernel
theorem dX8_wrong_33 : decode cX8_wrong 33 = .ok (.return_, 1) := by decide +kernel
theorem dX8_isGood_0 : decode cX8_isGood 0 = .ok (.aload_n 0, 1) := by decide +kernel
theorem dX8_isGood_1 : decode cX8_isGood 1 = .ok (.getfield 136, 3) := by decide +kernel
theorem dX8_isGood_4 : decode cX8_isGood 4 = .ok (.ifCond .ne 7, 3) := by decide +kernel
theorem dX8_isGood_7 : decode cX8_isGood 7 = .ok (.iconst 1, 1) := by decide +kernel
theorem dX8_isGood_8 : decode cX8_isGood 8 = .ok (.goto 4, 3) := by decide +kernel
theorem dX8_isGood_11 : decode cX8_isGood 11 = .ok (.iconst 0, 1) := by decide +kernel
theorem dX8_isGood_12 : decode cX8_isGood 12 = .ok (.ireturn, 1) := by decide +kernel
theorem dX8_isWord_0 : decode cX8_isWord 0 = .ok (.aload_n 0, 1) := by decide +kernel
theorem dX8_isWord_1 : decode cX8_isWord 1 = .ok (.getfield 136, 3) := by decide +kernel
theorem dX8_isWord_4 : decode cX8_isWord 4 = .ok (.ifCond .ne 33, 3) := by decide +kernel
theorem dX8_isWord_7 : decode cX8_isWord 7 = .ok (.aload_n 0, 1) := by decide +kernel
theorem dX8_isWord_8 : decode cX8_isWord 8 = .ok (.getfield 126, 3) := by decide +kernel
theorem dX8_isWord_11 : decode cX8_isWord 11 = .ok (.iconst 1, 1) := by decide +kernel
theorem dX8_isWord_12 : decode cX8_isWord 12 = .ok (.if_icmp .ne 25, 3) := by decide +kernel
theorem dX8_isWord_15 : decode cX8_isWord 15 = .ok (.aload_n 0, 1) := by decide +kernel
theorem dX8_isWord_16 : decode cX8_isWord 16 = .ok (.getfield 123, 3) := by decide +kernel
theorem dX8_isWord_19 : decode cX8_isWord 19 = .ok (.bipush 8, 2) := by decide +kernel
theorem dX8_isWord_21 : decode cX8_isWord 21 = .ok (.if_icmp .gt 16, 3) := by decide +kernel
theorem dX8_isWord_24 : decode cX8_isWord 24 = .ok (.aload_n 0, 1) := by decide +kernel
theorem dX8_isWord_25 : decode cX8_isWord 25 = .ok (.getfield 116, 3) := by decide +kernel
theorem dX8_isWord_28 : decode cX8_isWord 28 = .ok (.lload_n 1, 1) := by decide +kernel
theorem dX8_isWord_29 : decode cX8_isWord 29 = .ok (.lcmp, 1) := by decide +kernel
theorem dX8_isWord_30 : decode cX8_isWord 30 = .ok (.ifCond .ne 7, 3) := by decide +kernel
theorem dX8_isWord_33 : decode cX8_isWord 33 = .ok (.iconst 1, 1) := by decide +kernel
theorem dX8_isWord_34 : decode cX8_isWord 34 = .ok (.goto 4, 3) := by decide +kernel
theorem dX8_isWord_37 : decode cX8_isWord 37 = .ok (.iconst 0, 1) := by decide +kernel
theorem dX8_isWord_38 : decode cX8_isWord 38 = .ok (.ireturn, 1) := by decide +kernel
theorem dX8_isSign_0 : decode cX8_isSign 0 = .ok (.aload_n 0, 1) := by decide +kernel
theorem dX8_isSign_1 : decode cX8_isSign 1 = .ok (.getfield 136, 3) := by decide +kernel
theorem dX8_isSign_4 : decode cX8_isSign 4 = .ok (.ifCond .ne 23, 3) := by decide +kernel
theorem dX8_isSign_7 : decode cX8_isSign 7 = .ok (.aload_n 0, 1) := by decide +kernel
theorem dX8_isSign_8 : decode cX8_isSign 8 = .ok (.getfield 126, 3) := by decide +kernel
theorem dX8_isSign_11 : decode cX8_isSign 11 = .ok (.iconst 3, 1) := by decide +kernel
theorem dX8_isSign_12 : decode cX8_isSign 12 = .ok (.if_icmp .ne 15, 3) := by decide +kernel
theorem dX8_isSign_15 : decode cX8_isSign 15 = .ok (.aload_n 0, 1) := by decide +kernel
theorem dX8_isSign_16 : decode cX8_isSign 16 = .ok (.getfield 120, 3) := by decide +kernel
theorem dX8_isSign_19 : decode cX8_isSign 19 = .ok (.iload_n 1, 1) := by decide +kernel
theorem dX8_isSign_20 : decode cX8_isSign 20 = .ok (.if_icmp .ne 7, 3) := by decide +kernel
theorem dX8_isSign_23 : decode cX8_isSign 23 = .ok (.iconst 1, 1) := by decide +kernel
theorem dX8_isSign_24 : decode cX8_isSign 24 = .ok (.goto 4, 3) := by decide +kernel
theorem dX8_isSign_27 : decode cX8_isSign 27 = .ok (.iconst 0, 1) := by decide +kernel
theorem dX8_isSign_28 : decode cX8_isSign 28 = .ok (.ireturn, 1) := by decide +kernel
theorem dX8_mustSign_0 : decode cX8_mustSign 0 = .ok (.aload_n 0, 1) := by decide +kernel
theorem dX8_mustSign_1 : decode cX8_mustSign 1 = .ok (.invokevirtual 139, 3) := by decide +kernel
theorem dX8_mustSign_4 : decode cX8_mustSign 4 = .ok (.ifCond .eq 16, 3) := by decide +kernel
theorem dX8_mustSign_7 : decode cX8_mustSign 7 = .ok (.aload_n 0, 1) := by decide +kernel
theorem dX8_mustSign_8 : decode cX8_mustSign 8 = .ok (.iload_n 1, 1) := by decide +kernel
theorem dX8_mustSign_9 : decode cX8_mustSign 9 = .ok (.invokevirtual 143, 3) := by decide +kernel
theorem dX8_mustSign_12 : decode cX8_mustSign 12 = .ok (.ifCond .ne 8, 3) := by decide +kernel
theorem dX8_mustSign_15 : decode cX8_mustSign 15 = .ok (.aload_n 0, 1) := by decide +kernel
theorem dX8_mustSign_16 : decode cX8_mustSign 16 = .ok (.iconst 1, 1) := by decide +kernel
theorem dX8_mustSign_17 : decode cX8_mustSign 17 = .ok (.invokevirtual 146, 3) := by decide +kernel
theorem dX8_mustSign_20 : decode cX8_mustSign 20 = .ok (.aload_n 0, 1) := by decide +kernel
theorem dX8_mustSign_21 : decode cX8_mustSign 21 = .ok (.invokevirtual 139, 3) := by decide +kernel
theorem dX8_mustSign_24 : decode cX8_mustSign 24 = .ok (.ifCond .eq 7, 3) := by decide +kernel
theorem dX8_mustSign_27 : decode cX8_mustSign 27 = .ok (.aload_n 0, 1) := by decide +kernel
theorem dX8_mustSign_28 : decode cX8_mustSign 28 = .ok (.invokevirtual 149, 3) := by decide +kernel
theorem dX8_mustSign_31 : decode cX8_mustSign 31 = .ok (.return_, 1) := by decide +kernel
theorem dX8_number_0 : decode cX8_number 0 = .ok (.aload_n 0, 1) := by decide +kernel
theorem dX8_number_1 : decode cX8_number 1 = .ok (.invokevirtual 139, 3) := by decide +kernel
theorem dX8_number_4 : decode cX8_number 4 = .ok (.ifCond .eq 16, 3) := by decide +kernel
theorem dX8_number_7 : decode cX8_number 7 = .ok (.aload_n 0, 1) := by decide +kernel
theorem dX8_number_8 : decode cX8_number 8 = .ok (.getfield 126, 3) := by decide +kernel
theorem dX8_number_11 : decode cX8_number 11 = .ok (.iconst 2, 1) := by decide +kernel
theorem dX8_number_12 : decode cX8_number 12 = .ok (.if_icmp .eq 8, 3) := by decide +kernel
theorem dX8_number_15 : decode cX8_number 15 = .ok (.aload_n 0, 1) := by decide +kernel
theorem dX8_number_16 : decode cX8_number 16 = .ok (.iconst 1, 1) := by decide +kernel
theorem dX8_number_17 : decode cX8_number 17 = .ok (.invokevirtual 146, 3) := by decide +kernel
theorem dX8_number_20 : decode cX8_number 20 = .ok (.aload_n 0, 1) := by decide +kernel
theorem dX8_number_21 : decode cX8_number 21 = .ok (.getfield 120, 3) := by decide +kernel
theorem dX8_number_24 : decode cX8_number 24 = .ok (.istore_n 3, 1) := by decide +kernel
theorem dX8_number_25 : decode cX8_number 25 = .ok (.aload_n 0, 1) := by decide +kernel
theorem dX8_number_26 : decode cX8_number 26 = .ok (.invokevirtual 139, 3) := by decide +kernel
theorem dX8_number_29 : decode cX8_number 29 = .ok (.ifCond .eq 20, 3) := by decide +kernel
theorem dX8_number_32 : decode cX8_number 32 = .ok (.iload_n 3, 1) := by decide +kernel
theorem dX8_number_33 : decode cX8_number 33 = .ok (.i2l, 1) := by decide +kernel
theorem dX8_number_34 : decode cX8_number 34 = .ok (.iload_n 1, 1) := by decide +kernel
theorem dX8_number_35 : decode cX8_number 35 = .ok (.i2l, 1) := by decide +kernel
theorem dX8_number_36 : decode cX8_number 36 = .ok (.iload_n 2, 1) := by decide +kernel
theorem dX8_number_37 : decode cX8_number 37 = .ok (.i2l, 1) := by decide +kernel
theorem dX8_number_38 : decode cX8_number 38 = .ok (.invokestatic 99, 3) := by decide +kernel
theorem dX8_number_41 : decode cX8_number 41 = .ok (.ifCond .ne 8, 3) := by decide +kernel
theorem dX8_number_44 : decode cX8_number 44 = .ok (.aload_n 0, 1) := by decide +kernel
theorem dX8_number_45 : decode cX8_number 45 = .ok (.iconst 2, 1) := by decide +kernel
theorem dX8_number_46 : decode cX8_number 46 = .ok (.invokevirtual 146, 3) := by decide +kernel
theorem dX8_number_49 : decode cX8_number 49 = .ok (.aload_n 0, 1) := by decide +kernel
theorem dX8_number_50 : decode cX8_number 50 = .ok (.invokevirtual 139, 3) := by decide +kernel
theorem dX8_number_53 : decode cX8_number 53 = .ok (.ifCond .eq 7, 3) := by decide +kernel
theorem dX8_number_56 : decode cX8_number 56 = .ok (.aload_n 0, 1) := by decide +kernel
theorem dX8_number_57 : decode cX8_number 57 = .ok (.invokevirtual 149, 3) := by decide +kernel
theorem dX8_number_60 : decode cX8_number 60 = .ok (.iload_n 3, 1) := by decide +kernel
theorem dX8_number_61 : decode cX8_number 61 = .ok (.ireturn, 1) := by decide +kernel
theorem dX8_mustName_0 : decode cX8_mustName 0 = .ok (.aload_n 0, 1) := by decide +kernel
theorem dX8_mustName_1 : decode cX8_mustName 1 = .ok (.invokevirtual 139, 3) := by decide +kernel
theorem dX8_mustName_4 : decode cX8_mustName 4 = .ok (.ifCond .eq 25, 3) := by decide +kernel
theorem dX8_mustName_7 : decode cX8_mustName 7 = .ok (.aload_n 0, 1) := by decide +kernel
theorem dX8_mustName_8 : decode cX8_mustName 8 = .ok (.getfield 126, 3) := by decide +kernel
theorem dX8_mustName_11 : decode cX8_mustName 11 = .ok (.iconst 1, 1) := by decide +kernel
theorem dX8_mustName_12 : decode cX8_mustName 12 = .ok (.if_icmp .ne 12, 3) := by decide +kernel
theorem dX8_mustName_15 : decode cX8_mustName 15 = .ok (.aload_n 0, 1) := by decide +kernel
theorem dX8_mustName_16 : decode cX8_mustName 16 = .ok (.getfield 123, 3) := by decide +kernel
theorem dX8_mustName_19 : decode cX8_mustName 19 = .ok (.bipush 8, 2) := by decide +kernel
theorem dX8_mustName_21 : decode cX8_mustName 21 = .ok (.if_icmp .le 8, 3) := by decide +kernel
theorem dX8_mustName_24 : decode cX8_mustName 24 = .ok (.aload_n 0, 1) := by decide +kernel
theorem dX8_mustName_25 : decode cX8_mustName 25 = .ok (.iconst 1, 1) := by decide +kernel
theorem dX8_mustName_26 : decode cX8_mustName 26 = .ok (.invokevirtual 146, 3) := by decide +kernel
theorem dX8_mustName_29 : decode cX8_mustName 29 = .ok (.return_, 1) := by decide +kernel
theorem dX8_beginsText_0 : decode cX8_beginsText 0 = .ok (.aload_n 0, 1) := by decide +kernel
theorem dX8_beginsText_1 : decode cX8_beginsText 1 = .ok (.aload_n 0, 1) := by decide +kernel
theorem dX8_beginsText_2 : decode cX8_beginsText 2 = .ok (.getfield 88, 3) := by decide +kernel
theorem dX8_beginsText_5 : decode cX8_beginsText 5 = .ok (.putfield 106, 3) := by decide +kernel
theorem dX8_beginsText_8 : decode cX8_beginsText 8 = .ok (.aload_n 0, 1) := by decide +kernel
theorem dX8_beginsText_9 : decode cX8_beginsText 9 = .ok (.iconst 0, 1) := by decide +kernel
theorem dX8_beginsText_10 : decode cX8_beginsText 10 = .ok (.putfield 88, 3) := by decide +kernel
theorem dX8_beginsText_13 : decode cX8_beginsText 13 = .ok (.aload_n 0, 1) := by decide +kernel
theorem dX8_beginsText_14 : decode cX8_beginsText 14 = .ok (.iconst 0, 1) := by decide +kernel
theorem dX8_beginsText_15 : decode cX8_beginsText 15 = .ok (.putfield 103, 3) := by decide +kernel
theorem dX8_beginsText_18 : decode cX8_beginsText 18 = .ok (.aload_n 0, 1) := by decide +kernel
theorem dX8_beginsText_19 : decode cX8_beginsText 19 = .ok (.iconst 0, 1) := by decide +kernel
theorem dX8_beginsText_20 : decode cX8_beginsText 20 = .ok (.putfield 136, 3) := by decide +kernel
theorem dX8_beginsText_23 : decode cX8_beginsText 23 = .ok (.aload_n 0, 1) := by decide +kernel
theorem dX8_beginsText_24 : decode cX8_beginsText 24 = .ok (.iconst (-1), 1) := by decide +kernel
theorem dX8_beginsText_25 : decode cX8_beginsText 25 = .ok (.putfield 13, 3) := by decide +kernel
theorem dX8_beginsText_28 : decode cX8_beginsText 28 = .ok (.aload_n 0, 1) := by decide +kernel
theorem dX8_beginsText_29 : decode cX8_beginsText 29 = .ok (.invokevirtual 149, 3) := by decide +kernel
theorem dX8_beginsText_32 : decode cX8_beginsText 32 = .ok (.return_, 1) := by decide +kernel
theorem dX8_endsText_0 : decode cX8_endsText 0 = .ok (.aload_n 0, 1) := by decide +kernel
theorem dX8_endsText_1 : decode cX8_endsText 1 = .ok (.aload_n 0, 1) := by decide +kernel
theorem dX8_endsText_2 : decode cX8_endsText 2 = .ok (.getfield 136, 3) := by decide +kernel
theorem dX8_endsText_5 : decode cX8_endsText 5 = .ok (.putfield 152, 3) := by decide +kernel
theorem dX8_endsText_8 : decode cX8_endsText 8 = .ok (.aload_n 0, 1) := by decide +kernel
theorem dX8_endsText_9 : decode cX8_endsText 9 = .ok (.aload_n 0, 1) := by decide +kernel
theorem dX8_endsText_10 : decode cX8_endsText 10 = .ok (.getfield 13, 3) := by decide +kernel
theorem dX8_endsText_13 : decode cX8_endsText 13 = .ok (.putfield 17, 3) := by decide +kernel
theorem dX8_endsText_16 : decode cX8_endsText 16 = .ok (.aload_n 0, 1) := by decide +kernel
theorem dX8_endsText_17 : decode cX8_endsText 17 = .ok (.aload_n 0, 1) := by decide +kernel
theorem dX8_endsText_18 : decode cX8_endsText 18 = .ok (.getfield 136, 3) := by decide +kernel
theorem dX8_endsText_21 : decode cX8_endsText 21 = .ok (.ifCond .ne 7, 3) := by decide +kernel
theorem dX8_endsText_24 : decode cX8_endsText 24 = .ok (.iconst 1, 1) := by decide +kernel
theorem dX8_endsText_25 : decode cX8_endsText 25 = .ok (.goto 4, 3) := by decide +kernel
theorem dX8_endsText_28 : decode cX8_endsText 28 = .ok (.iconst 0, 1) := by decide +kernel
theorem dX8_endsText_29 : decode cX8_endsText 29 = .ok (.invokevirtual 91, 3) := by decide +kernel
theorem dX8_endsText_32 : decode cX8_endsText 32 = .ok (.ireturn, 1) := by decide +kernel
theorem dX8_errorCode_0 : decode cX8_errorCode 0 = .ok (.aload_n 0, 1) := by decide +kernel
theorem dX8_errorCode_1 : decode cX8_errorCode 1 = .ok (.iconst 0, 1) := by decide +kernel
theorem dX8_errorCode_2 : decode cX8_errorCode 2 = .ok (.putfield 81, 3) := by decide +kernel
theorem dX8_errorCode_5 : decode cX8_errorCode 5 = .ok (.aload_n 0, 1) := by decide +kernel
theorem dX8_errorCode_6 : decode cX8_errorCode 6 = .ok (.getfield 152, 3) := by decide +kernel
theorem dX8_errorCode_9 : decode cX8_errorCode 9 = .ok (.ireturn, 1) := by decide +kernel
theorem dX8_errorPosition_0 : decode cX8_errorPosition 0 = .ok (.aload_n 0, 1) := by decide +kernel
theorem dX8_errorPosition_1 : decode cX8_errorPosition 1 = .ok (.iconst 0, 1) := by decide +kernel
theorem dX8_errorPosition_2 : decode cX8_errorPosition 2 = .ok (.putfield 81, 3) := by decide +kernel
theorem dX8_errorPosition_5 : decode cX8_errorPosition 5 = .ok (.aload_n 0, 1) := by decide +kernel
theorem dX8_errorPosition_6 : decode cX8_errorPosition 6 = .ok (.getfield 17, 3) := by decide +kernel
theorem dX8_errorPosition_9 : decode cX8_errorPosition 9 = .ok (.ireturn, 1) := by decide +kernel
theorem dX8_clears_0 : decode cX8_clears 0 = .ok (.iconst 0, 1) := by decide +kernel
theorem dX8_clears_1 : decode cX8_clears 1 = .ok (.istore_n 1, 1) := by decide +kernel
theorem dX8_clears_2 : decode cX8_clears 2 = .ok (.iload_n 1, 1) := by decide +kernel
theorem dX8_clears_3 : decode cX8_clears 3 = .ok (.sipush 351, 3) := by decide +kernel
theorem dX8_clears_6 : decode cX8_clears 6 = .ok (.if_icmp .ge 16, 3) := by decide +kernel
theorem dX8_clears_9 : decode cX8_clears 9 = .ok (.aload_n 0, 1) := by decide +kernel
theorem dX8_clears_10 : decode cX8_clears 10 = .ok (.getfield 20, 3) := by decide +kernel
theorem dX8_clears_13 : decode cX8_clears 13 = .ok (.iload_n 1, 1) := by decide +kernel
theorem dX8_clears_14 : decode cX8_clears 14 = .ok (.iconst 0, 1) := by decide +kernel
theorem dX8_clears_15 : decode cX8_clears 15 = .ok (.iastore, 1) := by decide +kernel
theorem dX8_clears_16 : decode cX8_clears 16 = .ok (.iinc 1 1, 3) := by decide +kernel
theorem dX8_clears_19 : decode cX8_clears 19 = .ok (.goto (-17), 3) := by decide +kernel
theorem dX8_clears_22 : decode cX8_clears 22 = .ok (.aload_n 0, 1) := by decide +kernel
theorem dX8_clears_23 : decode cX8_clears 23 = .ok (.getfield 20, 3) := by decide +kernel
theorem dX8_clears_26 : decode cX8_clears 26 = .ok (.iconst 1, 1) := by decide +kernel
theorem dX8_clears_27 : decode cX8_clears 27 = .ok (.iconst 4, 1) := by decide +kernel
theorem dX8_clears_28 : decode cX8_clears 28 = .ok (.iastore, 1) := by decide +kernel
theorem dX8_clears_29 : decode cX8_clears 29 = .ok (.aload_n 0, 1) := by decide +kernel
theorem dX8_clears_30 : decode cX8_clears 30 = .ok (.getfield 20, 3) := by decide +kernel
theorem dX8_clears_33 : decode cX8_clears 33 = .ok (.iconst 2, 1) := by decide +kernel
theorem dX8_clears_34 : decode cX8_clears 34 = .ok (.iconst 3, 1) := by decide +kernel
theorem dX8_clears_35 : decode cX8_clears 35 = .ok (.iastore, 1) := by decide +kernel
theorem dX8_clears_36 : decode cX8_clears 36 = .ok (.aload_n 0, 1) := by decide +kernel
theorem dX8_clears_37 : decode cX8_clears 37 = .ok (.getfield 20, 3) := by decide +kernel
theorem dX8_clears_40 : decode cX8_clears 40 = .ok (.iconst 3, 1) := by decide +kernel
theorem dX8_clears_41 : decode cX8_clears 41 = .ok (.iconst 1, 1) := by decide +kernel
theorem dX8_clears_42 : decode cX8_clears 42 = .ok (.iastore, 1) := by decide +kernel
theorem dX8_clears_43 : decode cX8_clears 43 = .ok (.return_, 1) := by decide +kernel
theorem dX8_laysAside_0 : decode cX8_laysAside 0 = .ok (.iconst 0, 1) := by decide +kernel
theorem dX8_laysAside_1 : decode cX8_laysAside 1 = .ok (.istore_n 1, 1) := by decide +kernel
theorem dX8_laysAside_2 : decode cX8_laysAside 2 = .ok (.iload_n 1, 1) := by decide +kernel
theorem dX8_laysAside_3 : decode cX8_laysAside 3 = .ok (.sipush 351, 3) := by decide +kernel
theorem dX8_laysAside_6 : decode cX8_laysAside 6 = .ok (.if_icmp .ge 21, 3) := by decide +kernel
theorem dX8_laysAside_9 : decode cX8_laysAside 9 = .ok (.aload_n 0, 1) := by decide +kernel
theorem dX8_laysAside_10 : decode cX8_laysAside 10 = .ok (.getfield 29, 3) := by decide +kernel
theorem dX8_laysAside_13 : decode cX8_laysAside 13 = .ok (.iload_n 1, 1) := by decide +kernel
theorem dX8_laysAside_14 : decode cX8_laysAside 14 = .ok (.aload_n 0, 1) := by decide +kernel
theorem dX8_laysAside_15 : decode cX8_laysAside 15 = .ok (.getfield 20, 3) := by decide +kernel
theorem dX8_laysAside_18 : decode cX8_laysAside 18 = .ok (.iload_n 1, 1) := by decide +kernel
theorem dX8_laysAside_19 : decode cX8_laysAside 19 = .ok (.iaload, 1) := by decide +kernel
theorem dX8_laysAside_20 : decode cX8_laysAside 20 = .ok (.iastore, 1) := by decide +kernel
theorem dX8_laysAside_21 : decode cX8_laysAside 21 = .ok (.iinc 1 1, 3) := by decide +kernel
theorem dX8_laysAside_24 : decode cX8_laysAside 24 = .ok (.goto (-22), 3) := by decide +kernel
theorem dX8_laysAside_27 : decode cX8_laysAside 27 = .ok (.return_, 1) := by decide +kernel
theorem dX8_thinks_0 : decode cX8_thinks 0 = .ok (.iconst 0, 1) := by decide +kernel
theorem dX8_thinks_1 : decode cX8_thinks 1 = .ok (.istore_n 1, 1) := by decide +kernel
theorem dX8_thinks_2 : decode cX8_thinks 2 = .ok (.iload_n 1, 1) := by decide +kernel
theorem dX8_thinks_3 : decode cX8_thinks 3 = .ok (.sipush 351, 3) := by decide +kernel
theorem dX8_thinks_6 : decode cX8_thinks 6 = .ok (.if_icmp .ge 21, 3) := by decide +kernel
theorem dX8_thinks_9 : decode cX8_thinks 9 = .ok (.aload_n 0, 1) := by decide +kernel
theorem dX8_thinks_10 : decode cX8_thinks 10 = .ok (.getfield 32, 3) := by decide +kernel
theorem dX8_thinks_13 : decode cX8_thinks 13 = .ok (.iload_n 1, 1) := by decide +kernel
theorem dX8_thinks_14 : decode cX8_thinks 14 = .ok (.aload_n 0, 1) := by decide +kernel
theorem dX8_thinks_15 : decode cX8_thinks 15 = .ok (.getfield 20, 3) := by decide +kernel
theorem dX8_thinks_18 : decode cX8_thinks 18 = .ok (.iload_n 1, 1) := by decide +kernel
theorem dX8_thinks_19 : decode cX8_thinks 19 = .ok (.iaload, 1) := by decide +kernel
theorem dX8_thinks_20 : decode cX8_thinks 20 = .ok (.iastore, 1) := by decide +kernel
theorem dX8_thinks_21 : decode cX8_thinks 21 = .ok (.iinc 1 1, 3) := by decide +kernel
theorem dX8_thinks_24 : decode cX8_thinks 24 = .ok (.goto (-22), 3) := by decide +kernel
theorem dX8_thinks_27 : decode cX8_thinks 27 = .ok (.return_, 1) := by decide +kernel
theorem dX8_thinksNoMore_0 : decode cX8_thinksNoMore 0 = .ok (.iconst 0, 1) := by decide +kernel
theorem dX8_thinksNoMore_1 : decode cX8_thinksNoMore 1 = .ok (.istore_n 1, 1) := by decide +kernel
theorem dX8_thinksNoMore_2 : decode cX8_thinksNoMore 2 = .ok (.iload_n 1, 1) := by decide +kernel
theorem dX8_thinksNoMore_3 : decode cX8_thinksNoMore 3 = .ok (.sipush 351, 3) := by decide +kernel
theorem dX8_thinksNoMore_6 : decode cX8_thinksNoMore 6 = .ok (.if_icmp .ge 21, 3) := by decide +kernel
theorem dX8_thinksNoMore_9 : decode cX8_thinksNoMore 9 = .ok (.aload_n 0, 1) := by decide +kernel
theorem dX8_thinksNoMore_10 : decode cX8_thinksNoMore 10 = .ok (.getfield 20, 3) := by decide +kernel
theorem dX8_thinksNoMore_13 : decode cX8_thinksNoMore 13 = .ok (.iload_n 1, 1) := by decide +kernel
theorem dX8_thinksNoMore_14 : decode cX8_thinksNoMore 14 = .ok (.aload_n 0, 1) := by decide +kernel
theorem dX8_thinksNoMore_15 : decode cX8_thinksNoMore 15 = .ok (.getfield 32, 3) := by decide +kernel
theorem dX8_thinksNoMore_18 : decode cX8_thinksNoMore 18 = .ok (.iload_n 1, 1) := by decide +kernel
theorem dX8_thinksNoMore_19 : decode cX8_thinksNoMore 19 = .ok (.iaload, 1) := by decide +kernel
theorem dX8_thinksNoMore_20 : decode cX8_thinksNoMore 20 = .ok (.iastore, 1) := by decide +kernel
theorem dX8_thinksNoMore_21 : decode cX8_thinksNoMore 21 = .ok (.iinc 1 1, 3) := by decide +kernel
theorem dX8_thinksNoMore_24 : decode cX8_thinksNoMore 24 = .ok (.goto (-22), 3) := by decide +kernel
theorem dX8_thinksNoMore_27 : decode cX8_thinksNoMore 27 = .ok (.return_, 1) := by decide +kernel
theorem dX8_keeps_0 : decode cX8_keeps 0 = .ok (.aload_n 0, 1) := by decide +kernel
theorem dX8_keeps_1 : decode cX8_keeps 1 = .ok (.getfield 155, 3) := by decide +kernel
theorem dX8_keeps_4 : decode cX8_keeps 4 = .ok (.bipush 6, 2) := by decide +kernel
theorem dX8_keeps_6 : decode cX8_keeps 6 = .ok (.if_icmp .ne 49, 3) := by decide +kernel
theorem dX8_keeps_9 : decode cX8_keeps 9 = .ok (.aload_n 0, 1) := by decide +kernel
theorem dX8_keeps_10 : decode cX8_keeps 10 = .ok (.dup, 1) := by decide +kernel
theorem dX8_keeps_11 : decode cX8_keeps 11 = .ok (.getfield 155, 3) := by decide +kernel
theorem dX8_keeps_14 : decode cX8_keeps 14 = .ok (.iconst 1, 1) := by decide +kernel
theorem dX8_keeps_15 : decode cX8_keeps 15 = .ok (.isub, 1) := by decide +kernel
theorem dX8_keeps_16 : decode cX8_keeps 16 = .ok (.putfield 155, 3) := by decide +kernel
theorem dX8_keeps_19 : decode cX8_keeps 19 = .ok (.iconst 0, 1) := by decide +kernel
theorem dX8_keeps_20 : decode cX8_keeps 20 = .ok (.istore_n 1, 1) := by decide +kernel
theorem dX8_keeps_21 : decode cX8_keeps 21 = .ok (.iload_n 1, 1) := by decide +kernel
theorem dX8_keeps_22 : decode cX8_keeps 22 = .ok (.sipush 351, 3) := by decide +kernel
theorem dX8_keeps_25 : decode cX8_keeps 25 = .ok (.aload_n 0, 1) := by decide +kernel
theorem dX8_keeps_26 : decode cX8_keeps 26 = .ok (.getfield 155, 3) := by decide +kernel
theorem dX8_keeps_29 : decode cX8_keeps 29 = .ok (.imul, 1) := by decide +kernel
theorem dX8_keeps_30 : decode cX8_keeps 30 = .ok (.if_icmp .ge 25, 3) := by decide +kernel
theorem dX8_keeps_33 : decode cX8_keeps 33 = .ok (.aload_n 0, 1) := by decide +kernel
theorem dX8_keeps_34 : decode cX8_keeps 34 = .ok (.getfield 26, 3) := by decide +kernel
theorem dX8_keeps_37 : decode cX8_keeps 37 = .ok (.iload_n 1, 1) := by decide +kernel
theorem dX8_keeps_38 : decode cX8_keeps 38 = .ok (.aload_n 0, 1) := by decide +kernel
theorem dX8_keeps_39 : decode cX8_keeps 39 = .ok (.getfield 26, 3) := by decide +kernel
theorem dX8_keeps_42 : decode cX8_keeps 42 = .ok (.iload_n 1, 1) := by decide +kernel
theorem dX8_keeps_43 : decode cX8_keeps 43 = .ok (.sipush 351, 3) := by decide +kernel
theorem dX8_keeps_46 : decode cX8_keeps 46 = .ok (.iadd, 1) := by decide +kernel
theorem dX8_keeps_47 : decode cX8_keeps 47 = .ok (.iaload, 1) := by decide +kernel
theorem dX8_keeps_48 : decode cX8_keeps 48 = .ok (.iastore, 1) := by decide +kernel
theorem dX8_keeps_49 : decode cX8_keeps 49 = .ok (.iinc 1 1, 3) := by decide +kernel
theorem dX8_keeps_52 : decode cX8_keeps 52 = .ok (.goto (-31), 3) := by decide +kernel
theorem dX8_keeps_55 : decode cX8_keeps 55 = .ok (.iconst 0, 1) := by decide +kernel
theorem dX8_keeps_56 : decode cX8_keeps 56 = .ok (.istore_n 1, 1) := by decide +kernel
theorem dX8_keeps_57 : decode cX8_keeps 57 = .ok (.iload_n 1, 1) := by decide +kernel
theorem dX8_keeps_58 : decode cX8_keeps 58 = .ok (.sipush 351, 3) := by decide +kernel
theorem dX8_keeps_61 : decode cX8_keeps 61 = .ok (.if_icmp .ge 30, 3) := by decide +kernel
theorem dX8_keeps_64 : decode cX8_keeps 64 = .ok (.aload_n 0, 1) := by decide +kernel
theorem dX8_keeps_65 : decode cX8_keeps 65 = .ok (.getfield 26, 3) := by decide +kernel
theorem dX8_keeps_68 : decode cX8_keeps 68 = .ok (.sipush 351, 3) := by decide +kernel
theorem dX8_keeps_71 : decode cX8_keeps 71 = .ok (.aload_n 0, 1) := by decide +kernel
theorem dX8_keeps_72 : decode cX8_keeps 72 = .ok (.getfield 155, 3) := by decide +kernel
theorem dX8_keeps_75 : decode cX8_keeps 75 = .ok (.imul, 1) := by decide +kernel
theorem dX8_keeps_76 : decode cX8_keeps 76 = .ok (.iload_n 1, 1) := by decide +kernel
theorem dX8_keeps_77 : decode cX8_keeps 77 = .ok (.iadd, 1) := by decide +kernel
theorem dX8_keeps_78 : decode cX8_keeps 78 = .ok (.aload_n 0, 1) := by decide +kernel
theorem dX8_keeps_79 : decode cX8_keeps 79 = .ok (.getfield 29, 3) := by decide +kernel
theorem dX8_keeps_82 : decode cX8_keeps 82 = .ok (.iload_n 1, 1) := by decide +kernel
theorem dX8_keeps_83 : decode cX8_keeps 83 = .ok (.iaload, 1) := by decide +kernel
theorem dX8_keeps_84 : decode cX8_keeps 84 = .ok (.iastore, 1) := by decide +kernel
theorem dX8_keeps_85 : decode cX8_keeps 85 = .ok (.iinc 1 1, 3) := by decide +kernel
theorem dX8_keeps_88 : decode cX8_keeps 88 = .ok (.goto (-31), 3) := by decide +kernel
theorem dX8_keeps_91 : decode cX8_keeps 91 = .ok (.aload_n 0, 1) := by decide +kernel
theorem dX8_keeps_92 : decode cX8_keeps 92 = .ok (.dup, 1) := by decide +kernel
theorem dX8_keeps_93 : decode cX8_keeps 93 = .ok (.getfield 155, 3) := by decide +kernel
theorem dX8_keeps_96 : decode cX8_keeps 96 = .ok (.iconst 1, 1) := by decide +kernel
theorem dX8_keeps_97 : decode cX8_keeps 97 = .ok (.iadd, 1) := by decide +kernel
theorem dX8_keeps_98 : decode cX8_keeps 98 = .ok (.putfield 155, 3) := by decide +kernel
theorem dX8_keeps_101 : decode cX8_keeps 101 = .ok (.return_, 1) := by decide +kernel
theorem dX8_undo_0 : decode cX8_undo 0 = .ok (.aload_n 0, 1) := by decide +kernel
theorem dX8_undo_1 : decode cX8_undo 1 = .ok (.iconst 0, 1) := by decide +kernel
theorem dX8_undo_2 : decode cX8_undo 2 = .ok (.putfield 81, 3) := by decide +kernel
theorem dX8_undo_5 : decode cX8_undo 5 = .ok (.aload_n 0, 1) := by decide +kernel
theorem dX8_undo_6 : decode cX8_undo 6 = .ok (.getfield 155, 3) := by decide +kernel
theorem dX8_undo_9 : decode cX8_undo 9 = .ok (.ifCond .ne 5, 3) := by decide +kernel
theorem dX8_undo_12 : decode cX8_undo 12 = .ok (.iconst (-1), 1) := by decide +kernel
theorem dX8_undo_13 : decode cX8_undo 13 = .ok (.ireturn, 1) := by decide +kernel
theorem dX8_undo_14 : decode cX8_undo 14 = .ok (.aload_n 0, 1) := by decide +kernel
theorem dX8_undo_15 : decode cX8_undo 15 = .ok (.dup, 1) := by decide +kernel
theorem dX8_undo_16 : decode cX8_undo 16 = .ok (.getfield 155, 3) := by decide +kernel
theorem dX8_undo_19 : decode cX8_undo 19 = .ok (.iconst 1, 1) := by decide +kernel
theorem dX8_undo_20 : decode cX8_undo 20 = .ok (.isub, 1) := by decide +kernel
theorem dX8_undo_21 : decode cX8_undo 21 = .ok (.putfield 155, 3) := by decide +kernel
theorem dX8_undo_24 : decode cX8_undo 24 = .ok (.iconst 0, 1) := by decide +kernel
theorem dX8_undo_25 : decode cX8_undo 25 = .ok (.istore_n 1, 1) := by decide +kernel
theorem dX8_undo_26 : decode cX8_undo 26 = .ok (.iload_n 1, 1) := by decide +kernel
theorem dX8_undo_27 : decode cX8_undo 27 = .ok (.sipush 351, 3) := by decide +kernel
theorem dX8_undo_30 : decode cX8_undo 30 = .ok (.if_icmp .ge 30, 3) := by decide +kernel
theorem dX8_undo_33 : decode cX8_undo 33 = .ok (.aload_n 0, 1) := by decide +kernel
theorem dX8_undo_34 : decode cX8_undo 34 = .ok (.getfield 20, 3) := by decide +kernel
theorem dX8_undo_37 : decode cX8_undo 37 = .ok (.iload_n 1, 1) := by decide +kernel
theorem dX8_undo_38 : decode cX8_undo 38 = .ok (.aload_n 0, 1) := by decide +kernel
theorem dX8_undo_39 : decode cX8_undo 39 = .ok (.getfield 26, 3) := by decide +kernel
theorem dX8_undo_42 : decode cX8_undo 42 = .ok (.sipush 351, 3) := by decide +kernel
theorem dX8_undo_45 : decode cX8_undo 45 = .ok (.aload_n 0, 1) := by decide +kernel
theorem dX8_undo_46 : decode cX8_undo 46 = .ok (.getfield 155, 3) := by decide +kernel
theorem dX8_undo_49 : decode cX8_undo 49 = .ok (.imul, 1) := by decide +kernel
theorem dX8_undo_50 : decode cX8_undo 50 = .ok (.iload_n 1, 1) := by decide +kernel
theorem dX8_undo_51 : decode cX8_undo 51 = .ok (.iadd, 1) := by decide +kernel
theorem dX8_undo_52 : decode cX8_undo 52 = .ok (.iaload, 1) := by decide +kernel
theorem dX8_undo_53 : decode cX8_undo 53 = .ok (.iastore, 1) := by decide +kernel
theorem dX8_undo_54 : decode cX8_undo 54 = .ok (.iinc 1 1, 3) := by decide +kernel
theorem dX8_undo_57 : decode cX8_undo 57 = .ok (.goto (-31), 3) := by decide +kernel
theorem dX8_undo_60 : decode cX8_undo 60 = .ok (.aload_n 0, 1) := by decide +kernel
theorem dX8_undo_61 : decode cX8_undo 61 = .ok (.getfield 155, 3) := by decide +kernel
theorem dX8_undo_64 : decode cX8_undo 64 = .ok (.ireturn, 1) := by decide +kernel
theorem dX8_save_0 : decode cX8_save 0 = .ok (.aload_n 0, 1) := by decide +kernel
theorem dX8_save_1 : decode cX8_save 1 = .ok (.iconst 0, 1) := by decide +kernel
theorem dX8_save_2 : decode cX8_save 2 = .ok (.putfield 81, 3) := by decide +kernel
theorem dX8_save_5 : decode cX8_save 5 = .ok (.iconst 0, 1) := by decide +kernel
theorem dX8_save_6 : decode cX8_save 6 = .ok (.istore_n 1, 1) := by decide +kernel
theorem dX8_save_7 : decode cX8_save 7 = .ok (.iload_n 1, 1) := by decide +kernel
theorem dX8_save_8 : decode cX8_save 8 = .ok (.sipush 351, 3) := by decide +kernel
theorem dX8_save_11 : decode cX8_save 11 = .ok (.if_icmp .ge 21, 3) := by decide +kernel
theorem dX8_save_14 : decode cX8_save 14 = .ok (.aload_n 0, 1) := by decide +kernel
theorem dX8_save_15 : decode cX8_save 15 = .ok (.getfield 23, 3) := by decide +kernel
theorem dX8_save_18 : decode cX8_save 18 = .ok (.iload_n 1, 1) := by decide +kernel
theorem dX8_save_19 : decode cX8_save 19 = .ok (.aload_n 0, 1) := by decide +kernel
theorem dX8_save_20 : decode cX8_save 20 = .ok (.getfield 20, 3) := by decide +kernel
theorem dX8_save_23 : decode cX8_save 23 = .ok (.iload_n 1, 1) := by decide +kernel
theorem dX8_save_24 : decode cX8_save 24 = .ok (.iaload, 1) := by decide +kernel
theorem dX8_save_25 : decode cX8_save 25 = .ok (.iastore, 1) := by decide +kernel
theorem dX8_save_26 : decode cX8_save 26 = .ok (.iinc 1 1, 3) := by decide +kernel
theorem dX8_save_29 : decode cX8_save 29 = .ok (.goto (-22), 3) := by decide +kernel
theorem dX8_save_32 : decode cX8_save 32 = .ok (.iconst 0, 1) := by decide +kernel
theorem dX8_save_33 : decode cX8_save 33 = .ok (.istore_n 1, 1) := by decide +kernel
theorem dX8_save_34 : decode cX8_save 34 = .ok (.iload_n 1, 1) := by decide +kernel
theorem dX8_save_35 : decode cX8_save 35 = .ok (.bipush 10, 2) := by decide +kernel
theorem dX8_save_37 : decode cX8_save 37 = .ok (.if_icmp .ge 21, 3) := by decide +kernel
theorem dX8_save_40 : decode cX8_save 40 = .ok (.aload_n 0, 1) := by decide +kernel
theorem dX8_save_41 : decode cX8_save 41 = .ok (.getfield 39, 3) := by decide +kernel
theorem dX8_save_44 : decode cX8_save 44 = .ok (.iload_n 1, 1) := by decide +kernel
theorem dX8_save_45 : decode cX8_save 45 = .ok (.aload_n 0, 1) := by decide +kernel
theorem dX8_save_46 : decode cX8_save 46 = .ok (.getfield 35, 3) := by decide +kernel
theorem dX8_save_49 : decode cX8_save 49 = .ok (.iload_n 1, 1) := by decide +kernel
theorem dX8_save_50 : decode cX8_save 50 = .ok (.laload, 1) := by decide +kernel
theorem dX8_save_51 : decode cX8_save 51 = .ok (.lastore, 1) := by decide +kernel
theorem dX8_save_52 : decode cX8_save 52 = .ok (.iinc 1 1, 3) := by decide +kernel
theorem dX8_save_55 : decode cX8_save 55 = .ok (.goto (-21), 3) := by decide +kernel
theorem dX8_save_58 : decode cX8_save 58 = .ok (.aload_n 0, 1) := by decide +kernel
theorem dX8_save_59 : decode cX8_save 59 = .ok (.iconst 1, 1) := by decide +kernel
theorem dX8_save_60 : decode cX8_save 60 = .ok (.putfield 158, 3) := by decide +kernel
theorem dX8_save_63 : decode cX8_save 63 = .ok (.aload_n 0, 1) := by decide +kernel
theorem dX8_save_64 : decode cX8_save 64 = .ok (.getfield 20, 3) := by decide +kernel
theorem dX8_save_67 : decode cX8_save 67 = .ok (.iconst 0, 1) := by decide +kernel
theorem dX8_save_68 : decode cX8_save 68 = .ok (.iaload, 1) := by decide +kernel
theorem dX8_save_69 : decode cX8_save 69 = .ok (.ireturn, 1) := by decide +kernel
theorem dX8_restore_0 : decode cX8_restore 0 = .ok (.aload_n 0, 1) := by decide +kernel
theorem dX8_restore_1 : decode cX8_restore 1 = .ok (.aload_n 0, 1) := by decide +kernel
theorem dX8_restore_2 : decode cX8_restore 2 = .ok (.getfield 158, 3) := by decide +kernel
theorem dX8_restore_5 : decode cX8_restore 5 = .ok (.invokevirtual 91, 3) := by decide +kernel
theorem dX8_restore_8 : decode cX8_restore 8 = .ok (.ifCond .ne 5, 3) := by decide +kernel
theorem dX8_restore_11 : decode cX8_restore 11 = .ok (.iconst 0, 1) := by decide +kernel
theorem dX8_restore_12 : decode cX8_restore 12 = .ok (.ireturn, 1) := by decide +kernel
theorem dX8_restore_13 : decode cX8_restore 13 = .ok (.iconst 0, 1) := by decide +kernel
theorem dX8_restore_14 : decode cX8_restore 14 = .ok (.istore_n 1, 1) := by decide +kernel
theorem dX8_restore_15 : decode cX8_restore 15 = .ok (.iload_n 1, 1) := by decide +kernel
theorem dX8_restore_16 : decode cX8_restore 16 = .ok (.sipush 351, 3) := by decide +kernel
theorem dX8_restore_19 : decode cX8_restore 19 = .ok (.if_icmp .ge 21, 3) := by decide +kernel
theorem dX8_restore_22 : decode cX8_restore 22 = .ok (.aload_n 0, 1) := by decide +kernel
theorem dX8_restore_23 : decode cX8_restore 23 = .ok (.getfield 20, 3) := by decide +kernel
theorem dX8_restore_26 : decode cX8_restore 26 = .ok (.iload_n 1, 1) := by decide +kernel
theorem dX8_restore_27 : decode cX8_restore 27 = .ok (.aload_n 0, 1) := by decide +kernel
theorem dX8_restore_28 : decode cX8_restore 28 = .ok (.getfield 23, 3) := by decide +kernel
theorem dX8_restore_31 : decode cX8_restore 31 = .ok (.iload_n 1, 1) := by decide +kernel
theorem dX8_restore_32 : decode cX8_restore 32 = .ok (.iaload, 1) := by decide +kernel
theorem dX8_restore_33 : decode cX8_restore 33 = .ok (.iastore, 1) := by decide +kernel
theorem dX8_restore_34 : decode cX8_restore 34 = .ok (.iinc 1 1, 3) := by decide +kernel
theorem dX8_restore_37 : decode cX8_restore 37 = .ok (.goto (-22), 3) := by decide +kernel
theorem dX8_restore_40 : decode cX8_restore 40 = .ok (.iconst 0, 1) := by decide +kernel
theorem dX8_restore_41 : decode cX8_restore 41 = .ok (.istore_n 1, 1) := by decide +kernel
theorem dX8_restore_42 : decode cX8_restore 42 = .ok (.iload_n 1, 1) := by decide +kernel
theorem dX8_restore_43 : decode cX8_restore 43 = .ok (.bipush 10, 2) := by decide +kernel
theorem dX8_restore_45 : decode cX8_restore 45 = .ok (.if_icmp .ge 21, 3) := by decide +kernel
theorem dX8_restore_48 : decode cX8_restore 48 = .ok (.aload_n 0, 1) := by decide +kernel
theorem dX8_restore_49 : decode cX8_restore 49 = .ok (.getfield 35, 3) := by decide +kernel
theorem dX8_restore_52 : decode cX8_restore 52 = .ok (.iload_n 1, 1) := by decide +kernel
theorem dX8_restore_53 : decode cX8_restore 53 = .ok (.aload_n 0, 1) := by decide +kernel
theorem dX8_restore_54 : decode cX8_restore 54 = .ok (.getfield 39, 3) := by decide +kernel
theorem dX8_restore_57 : decode cX8_restore 57 = .ok (.iload_n 1, 1) := by decide +kernel
theorem dX8_restore_58 : decode cX8_restore 58 = .ok (.laload, 1) := by decide +kernel
theorem dX8_restore_59 : decode cX8_restore 59 = .ok (.lastore, 1) := by decide +kernel
theorem dX8_restore_60 : decode cX8_restore 60 = .ok (.iinc 1 1, 3) := by decide +kernel
theorem dX8_restore_63 : decode cX8_restore 63 = .ok (.goto (-21), 3) := by decide +kernel
theorem dX8_restore_66 : decode cX8_restore 66 = .ok (.aload_n 0, 1) := by decide +kernel
theorem dX8_restore_67 : decode cX8_restore 67 = .ok (.iconst 0, 1) := by decide +kernel
theorem dX8_restore_68 : decode cX8_restore 68 = .ok (.putfield 155, 3) := by decide +kernel
theorem dX8_restore_71 : decode cX8_restore 71 = .ok (.aload_n 0, 1) := by decide +kernel
theorem dX8_restore_72 : decode cX8_restore 72 = .ok (.getfield 20, 3) := by decide +kernel
theorem dX8_restore_75 : decode cX8_restore 75 = .ok (.iconst 0, 1) := by decide +kernel
theorem dX8_restore_76 : decode cX8_restore 76 = .ok (.iaload, 1) := by decide +kernel
theorem dX8_restore_77 : decode cX8_restore 77 = .ok (.ireturn, 1) := by decide +kernel
theorem dX8_of_0 : decode cX8_of 0 = .ok (.aload_n 0, 1) := by decide +kernel
theorem dX8_of_1 : decode cX8_of 1 = .ok (.getfield 20, 3) := by decide +kernel
theorem dX8_of_4 : decode cX8_of 4 = .ok (.bipush 11, 2) := by decide +kernel
theorem dX8_of_6 : decode cX8_of 6 = .ok (.iconst 4, 1) := by decide +kernel
theorem dX8_of_7 : decode cX8_of 7 = .ok (.iload_n 1, 1) := by decide +kernel
theorem dX8_of_8 : decode cX8_of 8 = .ok (.imul, 1) := by decide +kernel
theorem dX8_of_9 : decode cX8_of 9 = .ok (.iadd, 1) := by decide +kernel
theorem dX8_of_10 : decode cX8_of 10 = .ok (.iload_n 2, 1) := by decide +kernel
theorem dX8_of_11 : decode cX8_of 11 = .ok (.iadd, 1) := by decide +kernel
theorem dX8_of_12 : decode cX8_of 12 = .ok (.iaload, 1) := by decide +kernel
theorem dX8_of_13 : decode cX8_of 13 = .ok (.ireturn, 1) := by decide +kernel
theorem dX8_lays_0 : decode cX8_lays 0 = .ok (.aload_n 0, 1) := by decide +kernel
theorem dX8_lays_1 : decode cX8_lays 1 = .ok (.getfield 20, 3) := by decide +kernel
theorem dX8_lays_4 : decode cX8_lays 4 = .ok (.bipush 11, 2) := by decide +kernel
theorem dX8_lays_6 : decode cX8_lays 6 = .ok (.iconst 4, 1) := by decide +kernel
theorem dX8_lays_7 : decode cX8_lays 7 = .ok (.iload_n 1, 1) := by decide +kernel
theorem dX8_lays_8 : decode cX8_lays 8 = .ok (.imul, 1) := by decide +kernel
theorem dX8_lays_9 : decode cX8_lays 9 = .ok (.iadd, 1) := by decide +kernel
theorem dX8_lays_10 : decode cX8_lays 10 = .ok (.iload_n 2, 1) := by decide +kernel
theorem dX8_lays_11 : decode cX8_lays 11 = .ok (.iadd, 1) := by decide +kernel
theorem dX8_lays_12 : decode cX8_lays 12 = .ok (.iload_n 3, 1) := by decide +kernel
theorem dX8_lays_13 : decode cX8_lays 13 = .ok (.iastore, 1) := by decide +kernel
theorem dX8_lays_14 : decode cX8_lays 14 = .ok (.return_, 1) := by decide +kernel
theorem dX8_letterAt_0 : decode cX8_letterAt 0 = .ok (.aload_n 0, 1) := by decide +kernel
theorem dX8_letterAt_1 : decode cX8_letterAt 1 = .ok (.getfield 20, 3) := by decide +kernel
theorem dX8_letterAt_4 : decode cX8_letterAt 4 = .ok (.bipush 51, 2) := by decide +kernel
theorem dX8_letterAt_6 : decode cX8_letterAt 6 = .ok (.bipush 30, 2) := by decide +kernel
theorem dX8_letterAt_8 : decode cX8_letterAt 8 = .ok (.iload_n 1, 1) := by decide +kernel
theorem dX8_letterAt_9 : decode cX8_letterAt 9 = .ok (.imul, 1) := by decide +kernel
theorem dX8_letterAt_10 : decode cX8_letterAt 10 = .ok (.iadd, 1) := by decide +kernel
theorem dX8_letterAt_11 : decode cX8_letterAt 11 = .ok (.iload_n 2, 1) := by decide +kernel
theorem dX8_letterAt_12 : decode cX8_letterAt 12 = .ok (.iadd, 1) := by decide +kernel
theorem dX8_letterAt_13 : decode cX8_letterAt 13 = .ok (.iaload, 1) := by decide +kernel
theorem dX8_letterAt_14 : decode cX8_letterAt 14 = .ok (.ireturn, 1) := by decide +kernel
theorem dX8_isRow_0 : decode cX8_isRow 0 = .ok (.iload_n 1, 1) := by decide +kernel
theorem dX8_isRow_1 : decode cX8_isRow 1 = .ok (.i2l, 1) := by decide +kernel
theorem dX8_isRow_2 : decode cX8_isRow 2 = .ok (.lconst 0, 1) := by decide +kernel
theorem dX8_isRow_3 : decode cX8_isRow 3 = .ok (.aload_n 0, 1) := by decide +kernel
theorem dX8_isRow_4 : decode cX8_isRow 4 = .ok (.getfield 20, 3) := by decide +kernel
theorem dX8_isRow_7 : decode cX8_isRow 7 = .ok (.iconst 0, 1) := by decide +kernel
theorem dX8_isRow_8 : decode cX8_isRow 8 = .ok (.iaload, 1) := by decide +kernel
theorem dX8_isRow_9 : decode cX8_isRow 9 = .ok (.iconst 1, 1) := by decide +kernel
theorem dX8_isRow_10 : decode cX8_isRow 10 = .ok (.isub, 1) := by decide +kernel
theorem dX8_isRow_11 : decode cX8_isRow 11 = .ok (.i2l, 1) := by decide +kernel
theorem dX8_isRow_12 : decode cX8_isRow 12 = .ok (.invokestatic 99, 3) := by decide +kernel
theorem dX8_isRow_15 : decode cX8_isRow 15 = .ok (.ireturn, 1) := by decide +kernel
theorem dX8_words_0 : decode cX8_words 0 = .ok (.iconst 1, 1) := by decide +kernel
theorem dX8_words_1 : decode cX8_words 1 = .ok (.istore_n 1, 1) := by decide +kernel
theorem dX8_words_2 : decode cX8_words 2 = .ok (.iconst 0, 1) := by decide +kernel
theorem dX8_words_3 : decode cX8_words 3 = .ok (.istore_n 2, 1) := by decide +kernel
theorem dX8_words_4 : decode cX8_words 4 = .ok (.iload_n 2, 1) := by decide +kernel
theorem dX8_words_5 : decode cX8_words 5 = .ok (.aload_n 0, 1) := by decide +kernel
theorem dX8_words_6 : decode cX8_words 6 = .ok (.getfield 20, 3) := by decide +kernel
theorem dX8_words_9 : decode cX8_words 9 = .ok (.iconst 2, 1) := by decide +kernel
theorem dX8_words_10 : decode cX8_words 10 = .ok (.iaload, 1) := by decide +kernel
theorem dX8_words_11 : decode cX8_words 11 = .ok (.if_icmp .ge 18, 3) := by decide +kernel
theorem dX8_words_14 : decode cX8_words 14 = .ok (.iload_n 1, 1) := by decide +kernel
theorem dX8_words_15 : decode cX8_words 15 = .ok (.aload_n 0, 1) := by decide +kernel
theorem dX8_words_16 : decode cX8_words 16 = .ok (.getfield 20, 3) := by decide +kernel
theorem dX8_words_19 : decode cX8_words 19 = .ok (.iconst 1, 1) := by decide +kernel
theorem dX8_words_20 : decode cX8_words 20 = .ok (.iaload, 1) := by decide +kernel
theorem dX8_words_21 : decode cX8_words 21 = .ok (.imul, 1) := by decide +kernel
theorem dX8_words_22 : decode cX8_words 22 = .ok (.istore_n 1, 1) := by decide +kernel
theorem dX8_words_23 : decode cX8_words 23 = .ok (.iinc 2 1, 3) := by decide +kernel
theorem dX8_words_26 : decode cX8_words 26 = .ok (.goto (-22), 3) := by decide +kernel
theorem dX8_words_29 : decode cX8_words 29 = .ok (.iload_n 1, 1) := by decide +kernel
theorem dX8_words_30 : decode cX8_words 30 = .ok (.ireturn, 1) := by decide +kernel
theorem dX8_isOne_0 : decode cX8_isOne 0 = .ok (.iload_n 1, 1) := by decide +kernel
theorem dX8_isOne_1 : decode cX8_isOne 1 = .ok (.i2l, 1) := by decide +kernel
theorem dX8_isOne_2 : decode cX8_isOne 2 = .ok (.lconst 0, 1) := by decide +kernel
theorem dX8_isOne_3 : decode cX8_isOne 3 = .ok (.aload_n 0, 1) := by decide +kernel
theorem dX8_isOne_4 : decode cX8_isOne 4 = .ok (.invokevirtual 162, 3) := by decide +kernel
theorem dX8_isOne_7 : decode cX8_isOne 7 = .ok (.iconst 1, 1) := by decide +kernel
theorem dX8_isOne_8 : decode cX8_isOne 8 = .ok (.isub, 1) := by decide +kernel
theorem dX8_isOne_9 : decode cX8_isOne 9 = .ok (.i2l, 1) := by decide +kernel
theorem dX8_isOne_10 : decode cX8_isOne 10 = .ok (.invokestatic 99, 3) := by decide +kernel
theorem dX8_isOne_13 : decode cX8_isOne 13 = .ok (.ireturn, 1) := by decide +kernel
theorem dX8_isOut_0 : decode cX8_isOut 0 = .ok (.aload_n 0, 1) := by decide +kernel
theorem dX8_isOut_1 : decode cX8_isOut 1 = .ok (.iload_n 1, 1) := by decide +kernel
theorem dX8_isOut_2 : decode cX8_isOut 2 = .ok (.iconst 2, 1) := by decide +kernel
theorem dX8_isOut_3 : decode cX8_isOut 3 = .ok (.invokevirtual 166, 3) := by decide +kernel
theorem dX8_isOut_6 : decode cX8_isOut 6 = .ok (.iconst 1, 1) := by decide +kernel
theorem dX8_isOut_7 : decode cX8_isOut 7 = .ok (.if_icmp .ne 7, 3) := by decide +kernel
theorem dX8_isOut_10 : decode cX8_isOut 10 = .ok (.iconst 1, 1) := by decide +kernel
theorem dX8_isOut_11 : decode cX8_isOut 11 = .ok (.goto 4, 3) := by decide +kernel
theorem dX8_isOut_14 : decode cX8_isOut 14 = .ok (.iconst 0, 1) := by decide +kernel
theorem dX8_isOut_15 : decode cX8_isOut 15 = .ok (.ireturn, 1) := by decide +kernel
theorem dX8_named_0 : decode cX8_named 0 = .ok (.iconst (-1), 1) := by decide +kernel
theorem dX8_named_1 : decode cX8_named 1 = .ok (.istore_n 1, 1) := by decide +kernel
theorem dX8_named_2 : decode cX8_named 2 = .ok (.iconst 0, 1) := by decide +kernel
theorem dX8_named_3 : decode cX8_named 3 = .ok (.istore_n 2, 1) := by decide +kernel
theorem dX8_named_4 : decode cX8_named 4 = .ok (.iload_n 2, 1) := by decide +kernel
theorem dX8_named_5 : decode cX8_named 5 = .ok (.aload_n 0, 1) := by decide +kernel
theorem dX8_named_6 : decode cX8_named 6 = .ok (.getfield 20, 3) := by decide +kernel
theorem dX8_named_9 : decode cX8_named 9 = .ok (.iconst 0, 1) := by decide +kernel
theorem dX8_named_10 : decode cX8_named 10 = .ok (.iaload, 1) := by decide +kernel
theorem dX8_named_11 : decode cX8_named 11 = .ok (.if_icmp .ge 29, 3) := by decide +kernel
theorem dX8_named_14 : decode cX8_named 14 = .ok (.aload_n 0, 1) := by decide +kernel
theorem dX8_named_15 : decode cX8_named 15 = .ok (.getfield 35, 3) := by decide +kernel
theorem dX8_named_18 : decode cX8_named 18 = .ok (.iload_n 2, 1) := by decide +kernel
theorem dX8_named_19 : decode cX8_named 19 = .ok (.laload, 1) := by decide +kernel
theorem dX8_named_20 : decode cX8_named 20 = .ok (.aload_n 0, 1) := by decide +kernel
theorem dX8_named_21 : decode cX8_named 21 = .ok (.getfield 116, 3) := by decide +kernel
theorem dX8_named_24 : decode cX8_named 24 = .ok (.lcmp, 1) := by decide +kernel
theorem dX8_named_25 : decode cX8_named 25 = .ok (.ifCond .ne 7, 3) := by decide +kernel
theorem dX8_named_28 : decode cX8_named 28 = .ok (.iload_n 2, 1) := by decide +kernel
theorem dX8_named_29 : decode cX8_named 29 = .ok (.goto 4, 3) := by decide +kernel
theorem dX8_named_32 : decode cX8_named 32 = .ok (.iload_n 1, 1) := by decide +kernel
theorem dX8_named_33 : decode cX8_named 33 = .ok (.istore_n 1, 1) := by decide +kernel
theorem dX8_named_34 : decode cX8_named 34 = .ok (.iinc 2 1, 3) := by decide +kernel
theorem dX8_named_37 : decode cX8_named 37 = .ok (.goto (-33), 3) := by decide +kernel
theorem dX8_named_40 : decode cX8_named 40 = .ok (.iload_n 1, 1) := by decide +kernel
theorem dX8_named_41 : decode cX8_named 41 = .ok (.ireturn, 1) := by decide +kernel
theorem dX8_toldRow_0 : decode cX8_toldRow 0 = .ok (.aload_n 0, 1) := by decide +kernel
theorem dX8_toldRow_1 : decode cX8_toldRow 1 = .ok (.invokevirtual 170, 3) := by decide +kernel
theorem dX8_toldRow_4 : decode cX8_toldRow 4 = .ok (.aload_n 0, 1) := by decide +kernel
theorem dX8_toldRow_5 : decode cX8_toldRow 5 = .ok (.invokevirtual 173, 3) := by decide +kernel
theorem dX8_toldRow_8 : decode cX8_toldRow 8 = .ok (.istore_n 1, 1) := by decide +kernel
theorem dX8_toldRow_9 : decode cX8_toldRow 9 = .ok (.aload_n 0, 1) := by decide +kernel
theorem dX8_toldRow_10 : decode cX8_toldRow 10 = .ok (.invokevirtual 139, 3) := by decide +kernel
theorem dX8_toldRow_13 : decode cX8_toldRow 13 = .ok (.ifCond .eq 13, 3) := by decide +kernel
theorem dX8_toldRow_16 : decode cX8_toldRow 16 = .ok (.iload_n 1, 1) := by decide +kernel
theorem dX8_toldRow_17 : decode cX8_toldRow 17 = .ok (.iconst (-1), 1) := by decide +kernel
theorem dX8_toldRow_18 : decode cX8_toldRow 18 = .ok (.if_icmp .ne 8, 3) := by decide +kernel
theorem dX8_toldRow_21 : decode cX8_toldRow 21 = .ok (.aload_n 0, 1) := by decide +kernel
theorem dX8_toldRow_22 : decode cX8_toldRow 22 = .ok (.iconst 3, 1) := by decide +kernel
theorem dX8_toldRow_23 : decode cX8_toldRow 23 = .ok (.invokevirtual 146, 3) := by decide +kernel
theorem dX8_toldRow_26 : decode cX8_toldRow 26 = .ok (.aload_n 0, 1) := by decide +kernel
theorem dX8_toldRow_27 : decode cX8_toldRow 27 = .ok (.invokevirtual 139, 3) := by decide +kernel
theorem dX8_toldRow_30 : decode cX8_toldRow 30 = .ok (.ifCond .eq 7, 3) := by decide +kernel
theorem dX8_toldRow_33 : decode cX8_toldRow 33 = .ok (.aload_n 0, 1) := by decide +kernel
theorem dX8_toldRow_34 : decode cX8_toldRow 34 = .ok (.invokevirtual 149, 3) := by decide +kernel
theorem dX8_toldRow_37 : decode cX8_toldRow 37 = .ok (.iload_n 1, 1) := by decide +kernel
theorem dX8_toldRow_38 : decode cX8_toldRow 38 = .ok (.ireturn, 1) := by decide +kernel
theorem dX8_hasLetters_0 : decode cX8_hasLetters 0 = .ok (.iconst 1, 1) := by decide +kernel
theorem dX8_hasLetters_1 : decode cX8_hasLetters 1 = .ok (.istore_n 1, 1) := by decide +kernel
theorem dX8_hasLetters_2 : decode cX8_hasLetters 2 = .ok (.iconst 0, 1) := by decide +kernel
theorem dX8_hasLetters_3 : decode cX8_hasLetters 3 = .ok (.istore_n 2, 1) := by decide +kernel
theorem dX8_hasLetters_4 : decode cX8_hasLetters 4 = .ok (.iload_n 2, 1) := by decide +kernel
theorem dX8_hasLetters_5 : decode cX8_hasLetters 5 = .ok (.aload_n 0, 1) := by decide +kernel
theorem dX8_hasLetters_6 : decode cX8_hasLetters 6 = .ok (.getfield 123, 3) := by decide +kernel
theorem dX8_hasLetters_9 : decode cX8_hasLetters 9 = .ok (.if_icmp .ge 42, 3) := by decide +kernel
theorem dX8_hasLetters_12 : decode cX8_hasLetters 12 = .ok (.iload_n 1, 1) := by decide +kernel
theorem dX8_hasLetters_13 : decode cX8_hasLetters 13 = .ok (.ifCond .eq 30, 3) := by decide +kernel
theorem dX8_hasLetters_16 : decode cX8_hasLetters 16 = .ok (.aload_n 0, 1) := by decide +kernel
theorem dX8_hasLetters_17 : decode cX8_hasLetters 17 = .ok (.getfield 7, 3) := by decide +kernel
theorem dX8_hasLetters_20 : decode cX8_hasLetters 20 = .ok (.aload_n 0, 1) := by decide +kernel
theorem dX8_hasLetters_21 : decode cX8_hasLetters 21 = .ok (.getfield 113, 3) := by decide +kernel
theorem dX8_hasLetters_24 : decode cX8_hasLetters 24 = .ok (.iload_n 2, 1) := by decide +kernel
theorem dX8_hasLetters_25 : decode cX8_hasLetters 25 = .ok (.iadd, 1) := by decide +kernel
theorem dX8_hasLetters_26 : decode cX8_hasLetters 26 = .ok (.iaload, 1) := by decide +kernel
theorem dX8_hasLetters_27 : decode cX8_hasLetters 27 = .ok (.bipush 97, 2) := by decide +kernel
theorem dX8_hasLetters_29 : decode cX8_hasLetters 29 = .ok (.isub, 1) := by decide +kernel
theorem dX8_hasLetters_30 : decode cX8_hasLetters 30 = .ok (.aload_n 0, 1) := by decide +kernel
theorem dX8_hasLetters_31 : decode cX8_hasLetters 31 = .ok (.getfield 20, 3) := by decide +kernel
theorem dX8_hasLetters_34 : decode cX8_hasLetters 34 = .ok (.iconst 1, 1) := by decide +kernel
theorem dX8_hasLetters_35 : decode cX8_hasLetters 35 = .ok (.iaload, 1) := by decide +kernel
theorem dX8_hasLetters_36 : decode cX8_hasLetters 36 = .ok (.if_icmp .ge 7, 3) := by decide +kernel
theorem dX8_hasLetters_39 : decode cX8_hasLetters 39 = .ok (.iconst 1, 1) := by decide +kernel
theorem dX8_hasLetters_40 : decode cX8_hasLetters 40 = .ok (.goto 4, 3) := by decide +kernel
theorem dX8_hasLetters_43 : decode cX8_hasLetters 43 = .ok (.iconst 0, 1) := by decide +kernel
theorem dX8_hasLetters_44 : decode cX8_hasLetters 44 = .ok (.istore_n 1, 1) := by decide +kernel
theorem dX8_hasLetters_45 : decode cX8_hasLetters 45 = .ok (.iinc 2 1, 3) := by decide +kernel
theorem dX8_hasLetters_48 : decode cX8_hasLetters 48 = .ok (.goto (-44), 3) := by decide +kernel
theorem dX8_hasLetters_51 : decode cX8_hasLetters 51 = .ok (.iload_n 1, 1) := by decide +kernel
theorem dX8_hasLetters_52 : decode cX8_hasLetters 52 = .ok (.ireturn, 1) := by decide +kernel
theorem dX8_readsRow_0 : decode cX8_readsRow 0 = .ok (.aload_n 0, 1) := by decide +kernel
theorem dX8_readsRow_1 : decode cX8_readsRow 1 = .ok (.getfield 20, 3) := by decide +kernel
theorem dX8_readsRow_4 : decode cX8_readsRow 4 = .ok (.iconst 0, 1) := by decide +kernel
theorem dX8_readsRow_5 : decode cX8_readsRow 5 = .ok (.iaload, 1) := by decide +kernel
theorem dX8_readsRow_6 : decode cX8_readsRow 6 = .ok (.istore_n 1, 1) := by decide +kernel
theorem dX8_readsRow_7 : decode cX8_readsRow 7 = .ok (.iload_n 1, 1) := by decide +kernel
theorem dX8_readsRow_8 : decode cX8_readsRow 8 = .ok (.bipush 10, 2) := by decide +kernel
theorem dX8_readsRow_10 : decode cX8_readsRow 10 = .ok (.if_icmp .ne 9, 3) := by decide +kernel
theorem dX8_readsRow_13 : decode cX8_readsRow 13 = .ok (.aload_n 0, 1) := by decide +kernel
theorem dX8_readsRow_14 : decode cX8_readsRow 14 = .ok (.bipush 6, 2) := by decide +kernel
theorem dX8_readsRow_16 : decode cX8_readsRow 16 = .ok (.invokevirtual 146, 3) := by decide +kernel
theorem dX8_readsRow_19 : decode cX8_readsRow 19 = .ok (.aload_n 0, 1) := by decide +kernel
theorem dX8_readsRow_20 : decode cX8_readsRow 20 = .ok (.invokevirtual 139, 3) := by decide +kernel
theorem dX8_readsRow_23 : decode cX8_readsRow 23 = .ok (.ifCond .eq 7, 3) := by decide +kernel
theorem dX8_readsRow_26 : decode cX8_readsRow 26 = .ok (.aload_n 0, 1) := by decide +kernel
theorem dX8_readsRow_27 : decode cX8_readsRow 27 = .ok (.invokevirtual 149, 3) := by decide +kernel
theorem dX8_readsRow_30 : decode cX8_readsRow 30 = .ok (.aload_n 0, 1) := by decide +kernel
theorem dX8_readsRow_31 : decode cX8_readsRow 31 = .ok (.invokevirtual 170, 3) := by decide +kernel
theorem dX8_readsRow_34 : decode cX8_readsRow 34 = .ok (.aload_n 0, 1) := by decide +kernel
theorem dX8_readsRow_35 : decode cX8_readsRow 35 = .ok (.invokevirtual 139, 3) := by decide +kernel
theorem dX8_readsRow_38 : decode cX8_readsRow 38 = .ok (.ifCond .eq 16, 3) := by decide +kernel
theorem dX8_readsRow_41 : decode cX8_readsRow 41 = .ok (.aload_n 0, 1) := by decide +kernel
theorem dX8_readsRow_42 : decode cX8_readsRow 42 = .ok (.invokevirtual 173, 3) := by decide +kernel
theorem dX8_readsRow_45 : decode cX8_readsRow 45 = .ok (.iconst (-1), 1) := by decide +kernel
theorem dX8_readsRow_46 : decode cX8_readsRow 46 = .ok (.if_icmp .eq 8, 3) := by decide +kernel
theorem dX8_readsRow_49 : decode cX8_readsRow 49 = .ok (.aload_n 0, 1) := by decide +kernel
theorem dX8_readsRow_50 : decode cX8_readsRow 50 = .ok (.iconst 3, 1) := by decide +kernel
theorem dX8_readsRow_51 : decode cX8_readsRow 51 = .ok (.invokevirtual 146, 3) := by decide +kernel
theorem dX8_readsRow_54 : decode cX8_readsRow 54 = .ok (.aload_n 0, 1) := by decide +kernel
theorem dX8_readsRow_55 : decode cX8_readsRow 55 = .ok (.invokevirtual 139, 3) := by decide +kernel
theorem dX8_readsRow_58 : decode cX8_readsRow 58 = .ok (.ifCond .eq 13, 3) := by decide +kernel
theorem dX8_readsRow_61 : decode cX8_readsRow 61 = .ok (.aload_n 0, 1) := by decide +kernel
theorem dX8_readsRow_62 : decode cX8_readsRow 62 = .ok (.getfield 35, 3) := by decide +kernel
theorem dX8_readsRow_65 : decode cX8_readsRow 65 = .ok (.iload_n 1, 1) := by decide +kernel
theorem dX8_readsRow_66 : decode cX8_readsRow 66 = .ok (.aload_n 0, 1) := by decide +kernel
theorem dX8_readsRow_67 : decode cX8_readsRow 67 = .ok (.getfield 116, 3) := by decide +kernel
theorem dX8_readsRow_70 : decode cX8_readsRow 70 = .ok (.lastore, 1) := by decide +kernel
theorem dX8_readsRow_71 : decode cX8_readsRow 71 = .ok (.aload_n 0, 1) := by decide +kernel
theorem dX8_readsRow_72 : decode cX8_readsRow 72 = .ok (.invokevirtual 139, 3) := by decide +kernel
theorem dX8_readsRow_75 : decode cX8_readsRow 75 = .ok (.ifCond .eq 7, 3) := by decide +kernel
theorem dX8_readsRow_78 : decode cX8_readsRow 78 = .ok (.aload_n 0, 1) := by decide +kernel
theorem dX8_readsRow_79 : decode cX8_readsRow 79 = .ok (.invokevirtual 149, 3) := by decide +kernel
theorem dX8_readsRow_82 : decode cX8_readsRow 82 = .ok (.aload_n 0, 1) := by decide +kernel
theorem dX8_readsRow_83 : decode cX8_readsRow 83 = .ok (.invokevirtual 139, 3) := by decide +kernel
theorem dX8_readsRow_86 : decode cX8_readsRow 86 = .ok (.ifCond .eq 16, 3) := by decide +kernel
theorem dX8_readsRow_89 : decode cX8_readsRow 89 = .ok (.aload_n 0, 1) := by decide +kernel
theorem dX8_readsRow_90 : decode cX8_readsRow 90 = .ok (.getfield 126, 3) := by decide +kernel
theorem dX8_readsRow_93 : decode cX8_readsRow 93 = .ok (.iconst 1, 1) := by decide +kernel
theorem dX8_readsRow_94 : decode cX8_readsRow 94 = .ok (.if_icmp .eq 8, 3) := by decide +kernel
theorem dX8_readsRow_97 : decode cX8_readsRow 97 = .ok (.aload_n 0, 1) := by decide +kernel
theorem dX8_readsRow_98 : decode cX8_readsRow 98 = .ok (.iconst 1, 1) := by decide +kernel
theorem dX8_readsRow_99 : decode cX8_readsRow 99 = .ok (.invokevirtual 146, 3) := by decide +kernel
theorem dX8_readsRow_102 : decode cX8_readsRow 102 = .ok (.aload_n 0, 1) := by decide +kernel
theorem dX8_readsRow_103 : decode cX8_readsRow 103 = .ok (.invokevirtual 139, 3) := by decide +kernel
theorem dX8_readsRow_106 : decode cX8_readsRow 106 = .ok (.ifCond .eq 16, 3) := by decide +kernel
theorem dX8_readsRow_109 : decode cX8_readsRow 109 = .ok (.aload_n 0, 1) := by decide +kernel
theorem dX8_readsRow_110 : decode cX8_readsRow 110 = .ok (.getfield 123, 3) := by decide +kernel
theorem dX8_readsRow_113 : decode cX8_readsRow 113 = .ok (.iconst 2, 1) := by decide +kernel
theorem dX8_readsRow_114 : decode cX8_readsRow 114 = .ok (.if_icmp .ge 8, 3) := by decide +kernel
theorem dX8_readsRow_117 : decode cX8_readsRow 117 = .ok (.aload_n 0, 1) := by decide +kernel
theorem dX8_readsRow_118 : decode cX8_readsRow 118 = .ok (.iconst 2, 1) := by decide +kernel
theorem dX8_readsRow_119 : decode cX8_readsRow 119 = .ok (.invokevirtual 146, 3) := by decide +kernel
theorem dX8_readsRow_122 : decode cX8_readsRow 122 = .ok (.aload_n 0, 1) := by decide +kernel
theorem dX8_readsRow_123 : decode cX8_readsRow 123 = .ok (.invokevirtual 139, 3) := by decide +kernel
theorem dX8_readsRow_126 : decode cX8_readsRow 126 = .ok (.ifCond .eq 15, 3) := by decide +kernel
theorem dX8_readsRow_129 : decode cX8_readsRow 129 = .ok (.aload_n 0, 1) := by decide +kernel
theorem dX8_readsRow_130 : decode cX8_readsRow 130 = .ok (.invokevirtual 176, 3) := by decide +kernel
theorem dX8_readsRow_133 : decode cX8_readsRow 133 = .ok (.ifCond .ne 8, 3) := by decide +kernel
theorem dX8_readsRow_136 : decode cX8_readsRow 136 = .ok (.aload_n 0, 1) := by decide +kernel
theorem dX8_readsRow_137 : decode cX8_readsRow 137 = .ok (.iconst 3, 1) := by decide +kernel
theorem dX8_readsRow_138 : decode cX8_readsRow 138 = .ok (.invokevirtual 146, 3) := by decide +kernel
theorem dX8_readsRow_141 : decode cX8_readsRow 141 = .ok (.aload_n 0, 1) := by decide +kernel
theorem dX8_readsRow_142 : decode cX8_readsRow 142 = .ok (.invokevirtual 139, 3) := by decide +kernel
theorem dX8_readsRow_145 : decode cX8_readsRow 145 = .ok (.ifCond .ne 4, 3) := by decide +kernel
theorem dX8_readsRow_148 : decode cX8_readsRow 148 = .ok (.return_, 1) := by decide +kernel
theorem dX8_readsRow_149 : decode cX8_readsRow 149 = .ok (.aload_n 0, 1) := by decide +kernel
theorem dX8_readsRow_150 : decode cX8_readsRow 150 = .ok (.iload_n 1, 1) := by decide +kernel
theorem dX8_readsRow_151 : decode cX8_readsRow 151 = .ok (.iconst 0, 1) := by decide +kernel
theorem dX8_readsRow_152 : decode cX8_readsRow 152 = .ok (.aload_n 0, 1) := by decide +kernel
theorem dX8_readsRow_153 : decode cX8_readsRow 153 = .ok (.getfield 123, 3) := by decide +kernel
theorem dX8_readsRow_156 : decode cX8_readsRow 156 = .ok (.invokevirtual 179, 3) := by decide +kernel
theorem dX8_readsRow_159 : decode cX8_readsRow 159 = .ok (.aload_n 0, 1) := by decide +kernel
theorem dX8_readsRow_160 : decode cX8_readsRow 160 = .ok (.iload_n 1, 1) := by decide +kernel
theorem dX8_readsRow_161 : decode cX8_readsRow 161 = .ok (.iconst 1, 1) := by decide +kernel
theorem dX8_readsRow_162 : decode cX8_readsRow 162 = .ok (.iconst (-1), 1) := by decide +kernel
theorem dX8_readsRow_163 : decode cX8_readsRow 163 = .ok (.invokevirtual 179, 3) := by decide +kernel
theorem dX8_readsRow_166 : decode cX8_readsRow 166 = .ok (.iconst 0, 1) := by decide +kernel
theorem dX8_readsRow_167 : decode cX8_readsRow 167 = .ok (.istore_n 2, 1) := by decide +kernel
theorem dX8_readsRow_168 : decode cX8_readsRow 168 = .ok (.iload_n 2, 1) := by decide +kernel
theorem dX8_readsRow_169 : decode cX8_readsRow 169 = .ok (.aload_n 0, 1) := by decide +kernel
theorem dX8_readsRow_170 : decode cX8_readsRow 170 = .ok (.getfield 123, 3) := by decide +kernel
theorem dX8_readsRow_173 : decode cX8_readsRow 173 = .ok (.if_icmp .ge 37, 3) := by decide +kernel
theorem dX8_readsRow_176 : decode cX8_readsRow 176 = .ok (.aload_n 0, 1) := by decide +kernel
theorem dX8_readsRow_177 : decode cX8_readsRow 177 = .ok (.getfield 20, 3) := by decide +kernel
theorem dX8_readsRow_180 : decode cX8_readsRow 180 = .ok (.bipush 51, 2) := by decide +kernel
theorem dX8_readsRow_182 : decode cX8_readsRow 182 = .ok (.bipush 30, 2) := by decide +kernel
theorem dX8_readsRow_184 : decode cX8_readsRow 184 = .ok (.iload_n 1, 1) := by decide +kernel
theorem dX8_readsRow_185 : decode cX8_readsRow 185 = .ok (.imul, 1) := by decide +kernel
theorem dX8_readsRow_186 : decode cX8_readsRow 186 = .ok (.iadd, 1) := by decide +kernel
theorem dX8_readsRow_187 : decode cX8_readsRow 187 = .ok (.iload_n 2, 1) := by decide +kernel
theorem dX8_readsRow_188 : decode cX8_readsRow 188 = .ok (.iadd, 1) := by decide +kernel
theorem dX8_readsRow_189 : decode cX8_readsRow 189 = .ok (.aload_n 0, 1) := by decide +kernel
theorem dX8_readsRow_190 : decode cX8_readsRow 190 = .ok (.getfield 7, 3) := by decide +kernel
theorem dX8_readsRow_193 : decode cX8_readsRow 193 = .ok (.aload_n 0, 1) := by decide +kernel
theorem dX8_readsRow_194 : decode cX8_readsRow 194 = .ok (.getfield 113, 3) := by decide +kernel
theorem dX8_readsRow_197 : decode cX8_readsRow 197 = .ok (.iload_n 2, 1) := by decide +kernel
theorem dX8_readsRow_198 : decode cX8_readsRow 198 = .ok (.iadd, 1) := by decide +kernel
theorem dX8_readsRow_199 : decode cX8_readsRow 199 = .ok (.iaload, 1) := by decide +kernel
theorem dX8_readsRow_200 : decode cX8_readsRow 200 = .ok (.bipush 97, 2) := by decide +kernel
theorem dX8_readsRow_202 : decode cX8_readsRow 202 = .ok (.isub, 1) := by decide +kernel
theorem dX8_readsRow_203 : decode cX8_readsRow 203 = .ok (.iastore, 1) := by decide +kernel
theorem dX8_readsRow_204 : decode cX8_readsRow 204 = .ok (.iinc 2 1, 3) := by decide +kernel
theorem dX8_readsRow_207 : decode cX8_readsRow 207 = .ok (.goto (-39), 3) := by decide +kernel
theorem dX8_readsRow_210 : decode cX8_readsRow 210 = .ok (.aload_n 0, 1) := by decide +kernel
theorem dX8_readsRow_211 : decode cX8_readsRow 211 = .ok (.getfield 20, 3) := by decide +kernel
theorem dX8_readsRow_214 : decode cX8_readsRow 214 = .ok (.iconst 0, 1) := by decide +kernel
theorem dX8_readsRow_215 : decode cX8_readsRow 215 = .ok (.dup2, 1) := by decide +kernel
theorem dX8_readsRow_216 : decode cX8_readsRow 216 = .ok (.iaload, 1) := by decide +kernel
theorem dX8_readsRow_217 : decode cX8_readsRow 217 = .ok (.iconst 1, 1) := by decide +kernel
theorem dX8_readsRow_218 : decode cX8_readsRow 218 = .ok (.iadd, 1) := by decide +kernel
theorem dX8_readsRow_219 : decode cX8_readsRow 219 = .ok (.iastore, 1) := by decide +kernel
theorem dX8_readsRow_220 : decode cX8_readsRow 220 = .ok (.aload_n 0, 1) := by decide +kernel
theorem dX8_readsRow_221 : decode cX8_readsRow 221 = .ok (.invokevirtual 149, 3) := by decide +kernel
theorem dX8_readsRow_224 : decode cX8_readsRow 224 = .ok (.return_, 1) := by decide +kernel
theorem dX8_readsOnce_0 : decode cX8_readsOnce 0 = .ok (.aload_n 0, 1) := by decide +kernel
theorem dX8_readsOnce_1 : decode cX8_readsOnce 1 = .ok (.getfield 183, 3) := by decide +kernel
theorem dX8_readsOnce_4 : decode cX8_readsOnce 4 = .ok (.iload_n 1, 1) := by decide +kernel
theorem dX8_readsOnce_5 : decode cX8_readsOnce 5 = .ok (.invokestatic 186, 3) := by decide +kernel
theorem dX8_readsOnce_8 : decode cX8_readsOnce 8 = .ok (.ifCond .ne 17, 3) := by decide +kernel
theorem dX8_readsOnce_11 : decode cX8_readsOnce 11 = .ok (.iload_n 1, 1) := by decide +kernel
theorem dX8_readsOnce_12 : decode cX8_readsOnce 12 = .ok (.iconst 1, 1) := by decide +kernel
theorem dX8_readsOnce_13 : decode cX8_readsOnce 13 = .ok (.if_icmp .ne 17, 3) := by decide +kernel
theorem dX8_readsOnce_16 : decode cX8_readsOnce 16 = .ok (.aload_n 0, 1) := by decide +kernel
theorem dX8_readsOnce_17 : decode cX8_readsOnce 17 = .ok (.getfield 20, 3) := by decide +kernel
theorem dX8_readsOnce_20 : decode cX8_readsOnce 20 = .ok (.iconst 0, 1) := by decide +kernel
theorem dX8_readsOnce_21 : decode cX8_readsOnce 21 = .ok (.iaload, 1) := by decide +kernel
theorem dX8_readsOnce_22 : decode cX8_readsOnce 22 = .ok (.ifCond .le 8, 3) := by decide +kernel
theorem dX8_readsOnce_25 : decode cX8_readsOnce 25 = .ok (.aload_n 0, 1) := by decide +kernel
theorem dX8_readsOnce_26 : decode cX8_readsOnce 26 = .ok (.iconst 4, 1) := by decide +kernel
theorem dX8_readsOnce_27 : decode cX8_readsOnce 27 = .ok (.invokevirtual 146, 3) := by decide +kernel
theorem dX8_readsOnce_30 : decode cX8_readsOnce 30 = .ok (.aload_n 0, 1) := by decide +kernel
theorem dX8_readsOnce_31 : decode cX8_readsOnce 31 = .ok (.dup, 1) := by decide +kernel
theorem dX8_readsOnce_32 : decode cX8_readsOnce 32 = .ok (.getfield 183, 3) := by decide +kernel
theorem dX8_readsOnce_35 : decode cX8_readsOnce 35 = .ok (.iconst 1, 1) := by decide +kernel
theorem dX8_readsOnce_36 : decode cX8_readsOnce 36 = .ok (.iload_n 1, 1) := by decide +kernel
theorem dX8_readsOnce_37 : decode cX8_readsOnce 37 = .ok (.ishl, 1) := by decide +kernel
theorem dX8_readsOnce_38 : decode cX8_readsOnce 38 = .ok (.ior, 1) := by decide +kernel
theorem dX8_readsOnce_39 : decode cX8_readsOnce 39 = .ok (.putfield 183, 3) := by decide +kernel
theorem dX8_readsOnce_42 : decode cX8_readsOnce 42 = .ok (.aload_n 0, 1) := by decide +kernel
theorem dX8_readsOnce_43 : decode cX8_readsOnce 43 = .ok (.invokevirtual 139, 3) := by decide +kernel
theorem dX8_readsOnce_46 : decode cX8_readsOnce 46 = .ok (.ifCond .eq 7, 3) := by decide +kernel
theorem dX8_readsOnce_49 : decode cX8_readsOnce 49 = .ok (.aload_n 0, 1) := by decide +kernel
theorem dX8_readsOnce_50 : decode cX8_readsOnce 50 = .ok (.invokevirtual 149, 3) := by decide +kernel
theorem dX8_readsOnce_53 : decode cX8_readsOnce 53 = .ok (.aload_n 0, 1) := by decide +kernel
theorem dX8_readsOnce_54 : decode cX8_readsOnce 54 = .ok (.iload_n 2, 1) := by decide +kernel
theorem dX8_readsOnce_55 : decode cX8_readsOnce 55 = .ok (.iload_n 3, 1) := by decide +kernel
theorem dX8_readsOnce_56 : decode cX8_readsOnce 56 = .ok (.invokevirtual 190, 3) := by decide +kernel
theorem dX8_readsOnce_59 : decode cX8_readsOnce 59 = .ok (.istore 4, 2) := by decide +kernel
theorem dX8_readsOnce_61 : decode cX8_readsOnce 61 = .ok (.aload_n 0, 1) := by decide +kernel
theorem dX8_readsOnce_62 : decode cX8_readsOnce 62 = .ok (.invokevirtual 139, 3) := by decide +kernel
theorem dX8_readsOnce_65 : decode cX8_readsOnce 65 = .ok (.ifCond .eq 11, 3) := by decide +kernel
theorem dX8_readsOnce_68 : decode cX8_readsOnce 68 = .ok (.aload_n 0, 1) := by decide +kernel
theorem dX8_readsOnce_69 : decode cX8_readsOnce 69 = .ok (.getfield 20, 3) := by decide +kernel
theorem dX8_readsOnce_72 : decode cX8_readsOnce 72 = .ok (.iload_n 1, 1) := by decide +kernel
theorem dX8_readsOnce_73 : decode cX8_readsOnce 73 = .ok (.iload 4, 2) := by decide +kernel
theorem dX8_readsOnce_75 : decode cX8_readsOnce 75 = .ok (.iastore, 1) := by decide +kernel
theorem dX8_readsOnce_76 : decode cX8_readsOnce 76 = .ok (.return_, 1) := by decide +kernel
theorem dX8_statement_0 : decode cX8_statement 0 = .ok (.aload_n 0, 1) := by decide +kernel
theorem dX8_statement_1 : decode cX8_statement 1 = .ok (.ldc2_w 193, 3) := by decide +kernel
theorem dX8_statement_4 : decode cX8_statement 4 = .ok (.invokevirtual 195, 3) := by decide +kernel
theorem dX8_statement_7 : decode cX8_statement 7 = .ok (.ifCond .eq 13, 3) := by decide +kernel
theorem dX8_statement_10 : decode cX8_statement 10 = .ok (.aload_n 0, 1) := by decide +kernel
theorem dX8_statement_11 : decode cX8_statement 11 = .ok (.iconst 1, 1) := by decide +kernel
theorem dX8_statement_12 : decode cX8_statement 12 = .ok (.iconst 2, 1) := by decide +kernel
theorem dX8_statement_13 : decode cX8_statement 13 = .ok (.iconst 4, 1) := by decide +kernel
theorem dX8_statement_14 : decode cX8_statement 14 = .ok (.invokevirtual 199, 3) := by decide +kernel
theorem dX8_statement_17 : decode cX8_statement 17 = .ok (.goto 66, 3) := by decide +kernel
theorem dX8_statement_20 : decode cX8_statement 20 = .ok (.aload_n 0, 1) := by decide +kernel
theorem dX8_statement_21 : decode cX8_statement 21 = .ok (.ldc2_w 202, 3) := by decide +kernel
theorem dX8_statement_24 : decode cX8_statement 24 = .ok (.invokevirtual 195, 3) := by decide +kernel
theorem dX8_statement_27 : decode cX8_statement 27 = .ok (.ifCond .eq 14, 3) := by decide +kernel
theorem dX8_statement_30 : decode cX8_statement 30 = .ok (.aload_n 0, 1) := by decide +kernel
theorem dX8_statement_31 : decode cX8_statement 31 = .ok (.iconst 2, 1) := by decide +kernel
theorem dX8_statement_32 : decode cX8_statement 32 = .ok (.iconst 2, 1) := by decide +kernel
theorem dX8_statement_33 : decode cX8_statement 33 = .ok (.bipush 6, 2) := by decide +kernel
theorem dX8_statement_35 : decode cX8_statement 35 = .ok (.invokevirtual 199, 3) := by decide +kernel
theorem dX8_statement_38 : decode cX8_statement 38 = .ok (.goto 45, 3) := by decide +kernel
theorem dX8_statement_41 : decode cX8_statement 41 = .ok (.aload_n 0, 1) := by decide +kernel
theorem dX8_statement_42 : decode cX8_statement 42 = .ok (.ldc2_w 204, 3) := by decide +kernel
theorem dX8_statement_45 : decode cX8_statement 45 = .ok (.invokevirtual 195, 3) := by decide +kernel
theorem dX8_statement_48 : decode cX8_statement 48 = .ok (.ifCond .eq 13, 3) := by decide +kernel
theorem dX8_statement_51 : decode cX8_statement 51 = .ok (.aload_n 0, 1) := by decide +kernel
theorem dX8_statement_52 : decode cX8_statement 52 = .ok (.iconst 3, 1) := by decide +kernel
theorem dX8_statement_53 : decode cX8_statement 53 = .ok (.iconst 0, 1) := by decide +kernel
theorem dX8_statement_54 : decode cX8_statement 54 = .ok (.iconst 3, 1) := by decide +kernel
theorem dX8_statement_55 : decode cX8_statement 55 = .ok (.invokevirtual 199, 3) := by decide +kernel
theorem dX8_statement_58 : decode cX8_statement 58 = .ok (.goto 25, 3) := by decide +kernel
theorem dX8_statement_61 : decode cX8_statement 61 = .ok (.aload_n 0, 1) := by decide +kernel
theorem dX8_statement_62 : decode cX8_statement 62 = .ok (.ldc2_w 206, 3) := by decide +kernel
theorem dX8_statement_65 : decode cX8_statement 65 = .ok (.invokevirtual 195, 3) := by decide +kernel
theorem dX8_statement_68 : decode cX8_statement 68 = .ok (.ifCond .eq 10, 3) := by decide +kernel
theorem dX8_statement_71 : decode cX8_statement 71 = .ok (.aload_n 0, 1) := by decide +kernel
theorem dX8_statement_72 : decode cX8_statement 72 = .ok (.invokevirtual 208, 3) := by decide +kernel
theorem dX8_statement_75 : decode cX8_statement 75 = .ok (.goto 8, 3) := by decide +kernel
theorem dX8_statement_78 : decode cX8_statement 78 = .ok (.aload_n 0, 1) := by decide +kernel
theorem dX8_statement_79 : decode cX8_statement 79 = .ok (.iconst 1, 1) := by decide +kernel
theorem dX8_statement_80 : decode cX8_statement 80 = .ok (.invokevirtual 146, 3) := by decide +kernel
theorem dX8_statement_83 : decode cX8_statement 83 = .ok (.aload_n 0, 1) := by decide +kernel
theorem dX8_statement_84 : decode cX8_statement 84 = .ok (.bipush 59, 2) := by decide +kernel
theorem dX8_statement_86 : decode cX8_statement 86 = .ok (.invokevirtual 211, 3) := by decide +kernel
theorem dX8_statement_89 : decode cX8_statement 89 = .ok (.return_, 1) := by decide +kernel
theorem dX8_readText_0 : decode cX8_readText 0 = .ok (.aload_n 0, 1) := by decide +kernel
theorem dX8_readText_1 : decode cX8_readText 1 = .ok (.invokevirtual 214, 3) := by decide +kernel
theorem dX8_readText_4 : decode cX8_readText 4 = .ok (.aload_n 0, 1) := by decide +kernel
theorem dX8_readText_5 : decode cX8_readText 5 = .ok (.invokevirtual 217, 3) := by decide +kernel
theorem dX8_readText_8 : decode cX8_readText 8 = .ok (.iconst 0, 1) := by decide +kernel
theorem dX8_readText_9 : decode cX8_readText 9 = .ok (.istore_n 1, 1) := by decide +kernel
theorem dX8_readText_10 : decode cX8_readText 10 = .ok (.iload_n 1, 1) := by decide +kernel
theorem dX8_readText_11 : decode cX8_readText 11 = .ok (.bipush 10, 2) := by decide +kernel
theorem dX8_readText_13 : decode cX8_readText 13 = .ok (.if_icmp .ge 21, 3) := by decide +kernel
theorem dX8_readText_16 : decode cX8_readText 16 = .ok (.aload_n 0, 1) := by decide +kernel
theorem dX8_readText_17 : decode cX8_readText 17 = .ok (.getfield 42, 3) := by decide +kernel
theorem dX8_readText_20 : decode cX8_readText 20 = .ok (.iload_n 1, 1) := by decide +kernel
theorem dX8_readText_21 : decode cX8_readText 21 = .ok (.aload_n 0, 1) := by decide +kernel
theorem dX8_readText_22 : decode cX8_readText 22 = .ok (.getfield 35, 3) := by decide +kernel
theorem dX8_readText_25 : decode cX8_readText 25 = .ok (.iload_n 1, 1) := by decide +kernel
theorem dX8_readText_26 : decode cX8_readText 26 = .ok (.laload, 1) := by decide +kernel
theorem dX8_readText_27 : decode cX8_readText 27 = .ok (.lastore, 1) := by decide +kernel
theorem dX8_readText_28 : decode cX8_readText 28 = .ok (.iinc 1 1, 3) := by decide +kernel
theorem dX8_readText_31 : decode cX8_readText 31 = .ok (.goto (-21), 3) := by decide +kernel
theorem dX8_readText_34 : decode cX8_readText 34 = .ok (.aload_n 0, 1) := by decide +kernel
theorem dX8_readText_35 : decode cX8_readText 35 = .ok (.invokevirtual 78, 3) := by decide +kernel
theorem dX8_readText_38 : decode cX8_readText 38 = .ok (.aload_n 0, 1) := by decide +kernel
theorem dX8_readText_39 : decode cX8_readText 39 = .ok (.iconst 0, 1) := by decide +kernel
theorem dX8_readText_40 : decode cX8_readText 40 = .ok (.putfield 183, 3) := by decide +kernel
theorem dX8_readText_43 : decode cX8_readText 43 = .ok (.aload_n 0, 1) := by decide +kernel
theorem dX8_readText_44 : decode cX8_readText 44 = .ok (.invokevirtual 139, 3) := by decide +kernel
theorem dX8_readText_47 : decode cX8_readText 47 = .ok (.ifCond .eq 17, 3) := by decide +kernel
theorem dX8_readText_50 : decode cX8_readText 50 = .ok (.aload_n 0, 1) := by decide +kernel
theorem dX8_readText_51 : decode cX8_readText 51 = .ok (.getfield 126, 3) := by decide +kernel
theorem dX8_readText_54 : decode cX8_readText 54 = .ok (.ifCond .eq 10, 3) := by decide +kernel
theorem dX8_readText_57 : decode cX8_readText 57 = .ok (.aload_n 0, 1) := by decide +kernel
theorem dX8_readText_58 : decode cX8_readText 58 = .ok (.invokevirtual 220, 3) := by decide +kernel
theorem dX8_readText_61 : decode cX8_readText 61 = .ok (.goto (-18), 3) := by decide +kernel
theorem dX8_readText_64 : decode cX8_readText 64 = .ok (.aload_n 0, 1) := by decide +kernel
theorem dX8_readText_65 : decode cX8_readText 65 = .ok (.invokevirtual 223, 3) := by decide +kernel
theorem dX8_readText_68 : decode cX8_readText 68 = .ok (.ifCond .ne 58, 3) := by decide +kernel
theorem dX8_readText_71 : decode cX8_readText 71 = .ok (.iconst 0, 1) := by decide +kernel
theorem dX8_readText_72 : decode cX8_readText 72 = .ok (.istore_n 1, 1) := by decide +kernel
theorem dX8_readText_73 : decode cX8_readText 73 = .ok (.iload_n 1, 1) := by decide +kernel
theorem dX8_readText_74 : decode cX8_readText 74 = .ok (.sipush 351, 3) := by decide +kernel
theorem dX8_readText_77 : decode cX8_readText 77 = .ok (.if_icmp .ge 21, 3) := by decide +kernel
theorem dX8_readText_80 : decode cX8_readText 80 = .ok (.aload_n 0, 1) := by decide +kernel
theorem dX8_readText_81 : decode cX8_readText 81 = .ok (.getfield 20, 3) := by decide +kernel
theorem dX8_readText_84 : decode cX8_readText 84 = .ok (.iload_n 1, 1) := by decide +kernel
theorem dX8_readText_85 : decode cX8_readText 85 = .ok (.aload_n 0, 1) := by decide +kernel
theorem dX8_readText_86 : decode cX8_readText 86 = .ok (.getfield 29, 3) := by decide +kernel
theorem dX8_readText_89 : decode cX8_readText 89 = .ok (.iload_n 1, 1) := by decide +kernel
theorem dX8_readText_90 : decode cX8_readText 90 = .ok (.iaload, 1) := by decide +kernel
theorem dX8_readText_91 : decode cX8_readText 91 = .ok (.iastore, 1) := by decide +kernel
theorem dX8_readText_92 : decode cX8_readText 92 = .ok (.iinc 1 1, 3) := by decide +kernel
theorem dX8_readText_95 : decode cX8_readText 95 = .ok (.goto (-22), 3) := by decide +kernel
theorem dX8_readText_98 : decode cX8_readText 98 = .ok (.iconst 0, 1) := by decide +kernel
theorem dX8_readText_99 : decode cX8_readText 99 = .ok (.istore_n 1, 1) := by decide +kernel
theorem dX8_readText_100 : decode cX8_readText 100 = .ok (.iload_n 1, 1) := by decide +kernel
theorem dX8_readText_101 : decode cX8_readText 101 = .ok (.bipush 10, 2) := by decide +kernel
theorem dX8_readText_103 : decode cX8_readText 103 = .ok (.if_icmp .ge 21, 3) := by decide +kernel
theorem dX8_readText_106 : decode cX8_readText 106 = .ok (.aload_n 0, 1) := by decide +kernel
theorem dX8_readText_107 : decode cX8_readText 107 = .ok (.getfield 35, 3) := by decide +kernel
theorem dX8_readText_110 : decode cX8_readText 110 = .ok (.iload_n 1, 1) := by decide +kernel
theorem dX8_readText_111 : decode cX8_readText 111 = .ok (.aload_n 0, 1) := by decide +kernel
theorem dX8_readText_112 : decode cX8_readText 112 = .ok (.getfield 42, 3) := by decide +kernel
theorem dX8_readText_115 : decode cX8_readText 115 = .ok (.iload_n 1, 1) := by decide +kernel
theorem dX8_readText_116 : decode cX8_readText 116 = .ok (.laload, 1) := by decide +kernel
theorem dX8_readText_117 : decode cX8_readText 117 = .ok (.lastore, 1) := by decide +kernel
theorem dX8_readText_118 : decode cX8_readText 118 = .ok (.iinc 1 1, 3) := by decide +kernel
theorem dX8_readText_121 : decode cX8_readText 121 = .ok (.goto (-21), 3) := by decide +kernel
theorem dX8_readText_124 : decode cX8_readText 124 = .ok (.iconst 0, 1) := by decide +kernel
theorem dX8_readText_125 : decode cX8_readText 125 = .ok (.ireturn, 1) := by decide +kernel
theorem dX8_readText_126 : decode cX8_readText 126 = .ok (.aload_n 0, 1) := by decide +kernel
theorem dX8_readText_127 : decode cX8_readText 127 = .ok (.iconst 0, 1) := by decide +kernel
theorem dX8_readText_128 : decode cX8_readText 128 = .ok (.putfield 155, 3) := by decide +kernel
theorem dX8_readText_131 : decode cX8_readText 131 = .ok (.aload_n 0, 1) := by decide +kernel
theorem dX8_readText_132 : decode cX8_readText 132 = .ok (.getfield 20, 3) := by decide +kernel
theorem dX8_readText_135 : decode cX8_readText 135 = .ok (.iconst 0, 1) := by decide +kernel
theorem dX8_readText_136 : decode cX8_readText 136 = .ok (.iaload, 1) := by decide +kernel
theorem dX8_readText_137 : decode cX8_readText 137 = .ok (.ireturn, 1) := by decide +kernel
theorem dX8_isPlace_0 : decode cX8_isPlace 0 = .ok (.aload_n 0, 1) := by decide +kernel
theorem dX8_isPlace_1 : decode cX8_isPlace 1 = .ok (.iload_n 1, 1) := by decide +kernel
theorem dX8_isPlace_2 : decode cX8_isPlace 2 = .ok (.invokevirtual 226, 3) := by decide +kernel
theorem dX8_isPlace_5 : decode cX8_isPlace 5 = .ok (.ifCond .ne 26, 3) := by decide +kernel
theorem dX8_isPlace_8 : decode cX8_isPlace 8 = .ok (.iload_n 2, 1) := by decide +kernel
theorem dX8_isPlace_9 : decode cX8_isPlace 9 = .ok (.i2l, 1) := by decide +kernel
theorem dX8_isPlace_10 : decode cX8_isPlace 10 = .ok (.lconst 0, 1) := by decide +kernel
theorem dX8_isPlace_11 : decode cX8_isPlace 11 = .ok (.aload_n 0, 1) := by decide +kernel
theorem dX8_isPlace_12 : decode cX8_isPlace 12 = .ok (.iload_n 1, 1) := by decide +kernel
theorem dX8_isPlace_13 : decode cX8_isPlace 13 = .ok (.iconst 0, 1) := by decide +kernel
theorem dX8_isPlace_14 : decode cX8_isPlace 14 = .ok (.invokevirtual 166, 3) := by decide +kernel
theorem dX8_isPlace_17 : decode cX8_isPlace 17 = .ok (.aload_n 0, 1) := by decide +kernel
theorem dX8_isPlace_18 : decode cX8_isPlace 18 = .ok (.getfield 20, 3) := by decide +kernel
theorem dX8_isPlace_21 : decode cX8_isPlace 21 = .ok (.iconst 2, 1) := by decide +kernel
theorem dX8_isPlace_22 : decode cX8_isPlace 22 = .ok (.iaload, 1) := by decide +kernel
theorem dX8_isPlace_23 : decode cX8_isPlace 23 = .ok (.isub, 1) := by decide +kernel
theorem dX8_isPlace_24 : decode cX8_isPlace 24 = .ok (.i2l, 1) := by decide +kernel
theorem dX8_isPlace_25 : decode cX8_isPlace 25 = .ok (.invokestatic 99, 3) := by decide +kernel
theorem dX8_isPlace_28 : decode cX8_isPlace 28 = .ok (.ifCond .ne 5, 3) := by decide +kernel
theorem dX8_isPlace_31 : decode cX8_isPlace 31 = .ok (.iconst 0, 1) := by decide +kernel
theorem dX8_isPlace_32 : decode cX8_isPlace 32 = .ok (.ireturn, 1) := by decide +kernel
theorem dX8_isPlace_33 : decode cX8_isPlace 33 = .ok (.iconst 1, 1) := by decide +kernel
theorem dX8_isPlace_34 : decode cX8_isPlace 34 = .ok (.istore_n 3, 1) := by decide +kernel
theorem dX8_isPlace_35 : decode cX8_isPlace 35 = .ok (.iconst 0, 1) := by decide +kernel
theorem dX8_isPlace_36 : decode cX8_isPlace 36 = .ok (.istore 4, 2) := by decide +kernel
theorem dX8_isPlace_38 : decode cX8_isPlace 38 = .ok (.iload 4, 2) := by decide +kernel
theorem dX8_isPlace_40 : decode cX8_isPlace 40 = .ok (.aload_n 0, 1) := by decide +kernel
theorem dX8_isPlace_41 : decode cX8_isPlace 41 = .ok (.getfield 20, 3) := by decide +kernel
theorem dX8_isPlace_44 : decode cX8_isPlace 44 = .ok (.iconst 2, 1) := by decide +kernel
theorem dX8_isPlace_45 : decode cX8_isPlace 45 = .ok (.iaload, 1) := by decide +kernel
theorem dX8_isPlace_46 : decode cX8_isPlace 46 = .ok (.if_icmp .ge 35, 3) := by decide +kernel
theorem dX8_isPlace_49 : decode cX8_isPlace 49 = .ok (.iload_n 3, 1) := by decide +kernel
theorem dX8_isPlace_50 : decode cX8_isPlace 50 = .ok (.ifCond .eq 23, 3) := by decide +kernel
theorem dX8_isPlace_53 : decode cX8_isPlace 53 = .ok (.aload_n 0, 1) := by decide +kernel
theorem dX8_isPlace_54 : decode cX8_isPlace 54 = .ok (.iload_n 1, 1) := by decide +kernel
theorem dX8_isPlace_55 : decode cX8_isPlace 55 = .ok (.iconst 3, 1) := by decide +kernel
theorem dX8_isPlace_56 : decode cX8_isPlace 56 = .ok (.invokevirtual 166, 3) := by decide +kernel
theorem dX8_isPlace_59 : decode cX8_isPlace 59 = .ok (.iload_n 2, 1) := by decide +kernel
theorem dX8_isPlace_60 : decode cX8_isPlace 60 = .ok (.iload 4, 2) := by decide +kernel
theorem dX8_isPlace_62 : decode cX8_isPlace 62 = .ok (.iadd, 1) := by decide +kernel
theorem dX8_isPlace_63 : decode cX8_isPlace 63 = .ok (.invokestatic 186, 3) := by decide +kernel
theorem dX8_isPlace_66 : decode cX8_isPlace 66 = .ok (.ifCond .ne 7, 3) := by decide +kernel
theorem dX8_isPlace_69 : decode cX8_isPlace 69 = .ok (.iconst 1, 1) := by decide +kernel
theorem dX8_isPlace_70 : decode cX8_isPlace 70 = .ok (.goto 4, 3) := by decide +kernel
theorem dX8_isPlace_73 : decode cX8_isPlace 73 = .ok (.iconst 0, 1) := by decide +kernel
theorem dX8_isPlace_74 : decode cX8_isPlace 74 = .ok (.istore_n 3, 1) := by decide +kernel
theorem dX8_isPlace_75 : decode cX8_isPlace 75 = .ok (.iinc 4 1, 3) := by decide +kernel
theorem dX8_isPlace_78 : decode cX8_isPlace 78 = .ok (.goto (-40), 3) := by decide +kernel
theorem dX8_isPlace_81 : decode cX8_isPlace 81 = .ok (.iload_n 3, 1) := by decide +kernel
theorem dX8_isPlace_82 : decode cX8_isPlace 82 = .ok (.ireturn, 1) := by decide +kernel
theorem dX8_placesOf_0 : decode cX8_placesOf 0 = .ok (.iconst 0, 1) := by decide +kernel
theorem dX8_placesOf_1 : decode cX8_placesOf 1 = .ok (.istore_n 2, 1) := by decide +kernel
theorem dX8_placesOf_2 : decode cX8_placesOf 2 = .ok (.iconst 0, 1) := by decide +kernel
theorem dX8_placesOf_3 : decode cX8_placesOf 3 = .ok (.istore_n 3, 1) := by decide +kernel
theorem dX8_placesOf_4 : decode cX8_placesOf 4 = .ok (.iload_n 3, 1) := by decide +kernel
theorem dX8_placesOf_5 : decode cX8_placesOf 5 = .ok (.aload_n 0, 1) := by decide +kernel
theorem dX8_placesOf_6 : decode cX8_placesOf 6 = .ok (.iload_n 1, 1) := by decide +kernel
theorem dX8_placesOf_7 : decode cX8_placesOf 7 = .ok (.iconst 0, 1) := by decide +kernel
theorem dX8_placesOf_8 : decode cX8_placesOf 8 = .ok (.invokevirtual 166, 3) := by decide +kernel
theorem dX8_placesOf_11 : decode cX8_placesOf 11 = .ok (.if_icmp .ge 21, 3) := by decide +kernel
theorem dX8_placesOf_14 : decode cX8_placesOf 14 = .ok (.iload_n 2, 1) := by decide +kernel
theorem dX8_placesOf_15 : decode cX8_placesOf 15 = .ok (.aload_n 0, 1) := by decide +kernel
theorem dX8_placesOf_16 : decode cX8_placesOf 16 = .ok (.iload_n 1, 1) := by decide +kernel
theorem dX8_placesOf_17 : decode cX8_placesOf 17 = .ok (.iload_n 3, 1) := by decide +kernel
theorem dX8_placesOf_18 : decode cX8_placesOf 18 = .ok (.invokevirtual 229, 3) := by decide +kernel
theorem dX8_placesOf_21 : decode cX8_placesOf 21 = .ok (.invokestatic 84, 3) := by decide +kernel
theorem dX8_placesOf_24 : decode cX8_placesOf 24 = .ok (.iadd, 1) := by decide +kernel
theorem dX8_placesOf_25 : decode cX8_placesOf 25 = .ok (.istore_n 2, 1) := by decide +kernel
theorem dX8_placesOf_26 : decode cX8_placesOf 26 = .ok (.iinc 3 1, 3) := by decide +kernel
theorem dX8_placesOf_29 : decode cX8_placesOf 29 = .ok (.goto (-25), 3) := by decide +kernel
theorem dX8_placesOf_32 : decode cX8_placesOf 32 = .ok (.iload_n 2, 1) := by decide +kernel
theorem dX8_placesOf_33 : decode cX8_placesOf 33 = .ok (.ireturn, 1) := by decide +kernel
theorem dX8_wordThere_0 : decode cX8_wordThere 0 = .ok (.iconst 0, 1) := by decide +kernel
theorem dX8_wordThere_1 : decode cX8_wordThere 1 = .ok (.istore_n 3, 1) := by decide +kernel
theorem dX8_wordThere_2 : decode cX8_wordThere 2 = .ok (.iconst 0, 1) := by decide +kernel
theorem dX8_wordThere_3 : decode cX8_wordThere 3 = .ok (.istore 4, 2) := by decide +kernel
theorem dX8_wordThere_5 : decode cX8_wordThere 5 = .ok (.iload 4, 2) := by decide +kernel
theorem dX8_wordThere_7 : decode cX8_wordThere 7 = .ok (.aload_n 0, 1) := by decide +kernel
theorem dX8_wordThere_8 : decode cX8_wordThere 8 = .ok (.getfield 20, 3) := by decide +kernel
theorem dX8_wordThere_11 : decode cX8_wordThere 11 = .ok (.iconst 2, 1) := by decide +kernel
theorem dX8_wordThere_12 : decode cX8_wordThere 12 = .ok (.iaload, 1) := by decide +kernel
theorem dX8_wordThere_13 : decode cX8_wordThere 13 = .ok (.if_icmp .ge 28, 3) := by decide +kernel
theorem dX8_wordThere_16 : decode cX8_wordThere 16 = .ok (.aload_n 0, 1) := by decide +kernel
theorem dX8_wordThere_17 : decode cX8_wordThere 17 = .ok (.getfield 20, 3) := by decide +kernel
theorem dX8_wordThere_20 : decode cX8_wordThere 20 = .ok (.iconst 1, 1) := by decide +kernel
theorem dX8_wordThere_21 : decode cX8_wordThere 21 = .ok (.iaload, 1) := by decide +kernel
theorem dX8_wordThere_22 : decode cX8_wordThere 22 = .ok (.iload_n 3, 1) := by decide +kernel
theorem dX8_wordThere_23 : decode cX8_wordThere 23 = .ok (.imul, 1) := by decide +kernel
theorem dX8_wordThere_24 : decode cX8_wordThere 24 = .ok (.aload_n 0, 1) := by decide +kernel
theorem dX8_wordThere_25 : decode cX8_wordThere 25 = .ok (.iload_n 1, 1) := by decide +kernel
theorem dX8_wordThere_26 : decode cX8_wordThere 26 = .ok (.iload_n 2, 1) := by decide +kernel
theorem dX8_wordThere_27 : decode cX8_wordThere 27 = .ok (.iload 4, 2) := by decide +kernel
theorem dX8_wordThere_29 : decode cX8_wordThere 29 = .ok (.iadd, 1) := by decide +kernel
theorem dX8_wordThere_30 : decode cX8_wordThere 30 = .ok (.invokevirtual 232, 3) := by decide +kernel
theorem dX8_wordThere_33 : decode cX8_wordThere 33 = .ok (.iadd, 1) := by decide +kernel
theorem dX8_wordThere_34 : decode cX8_wordThere 34 = .ok (.istore_n 3, 1) := by decide +kernel
theorem dX8_wordThere_35 : decode cX8_wordThere 35 = .ok (.iinc 4 1, 3) := by decide +kernel
theorem dX8_wordThere_38 : decode cX8_wordThere 38 = .ok (.goto (-33), 3) := by decide +kernel
theorem dX8_wordThere_41 : decode cX8_wordThere 41 = .ok (.iload_n 3, 1) := by decide +kernel
theorem dX8_wordThere_42 : decode cX8_wordThere 42 = .ok (.ireturn, 1) := by decide +kernel
theorem dX8_spells_0 : decode cX8_spells 0 = .ok (.iload_n 1, 1) := by decide +kernel
theorem dX8_spells_1 : decode cX8_spells 1 = .ok (.istore_n 2, 1) := by decide +kernel
theorem dX8_spells_2 : decode cX8_spells 2 = .ok (.aload_n 0, 1) := by decide +kernel
theorem dX8_spells_3 : decode cX8_spells 3 = .ok (.getfield 20, 3) := by decide +kernel
theorem dX8_spells_6 : decode cX8_spells 6 = .ok (.iconst 2, 1) := by decide +kernel
theorem dX8_spells_7 : decode cX8_spells 7 = .ok (.iaload, 1) := by decide +kernel
theorem dX8_spells_8 : decode cX8_spells 8 = .ok (.iconst 1, 1) := by decide +kernel
theorem dX8_spells_9 : decode cX8_spells 9 = .ok (.isub, 1) := by decide +kernel
theorem dX8_spells_10 : decode cX8_spells 10 = .ok (.istore_n 3, 1) := by decide +kernel
theorem dX8_spells_11 : decode cX8_spells 11 = .ok (.iload_n 3, 1) := by decide +kernel
theorem dX8_spells_12 : decode cX8_spells 12 = .ok (.ifCond .lt 32, 3) := by decide +kernel
theorem dX8_spells_15 : decode cX8_spells 15 = .ok (.aload_n 0, 1) := by decide +kernel
theorem dX8_spells_16 : decode cX8_spells 16 = .ok (.getfield 45, 3) := by decide +kernel
theorem dX8_spells_19 : decode cX8_spells 19 = .ok (.iload_n 3, 1) := by decide +kernel
theorem dX8_spells_20 : decode cX8_spells 20 = .ok (.iload_n 2, 1) := by decide +kernel
theorem dX8_spells_21 : decode cX8_spells 21 = .ok (.aload_n 0, 1) := by decide +kernel
theorem dX8_spells_22 : decode cX8_spells 22 = .ok (.getfield 20, 3) := by decide +kernel
theorem dX8_spells_25 : decode cX8_spells 25 = .ok (.iconst 1, 1) := by decide +kernel
theorem dX8_spells_26 : decode cX8_spells 26 = .ok (.iaload, 1) := by decide +kernel
theorem dX8_spells_27 : decode cX8_spells 27 = .ok (.irem, 1) := by decide +kernel
theorem dX8_spells_28 : decode cX8_spells 28 = .ok (.iastore, 1) := by decide +kernel
theorem dX8_spells_29 : decode cX8_spells 29 = .ok (.iload_n 2, 1) := by decide +kernel
theorem dX8_spells_30 : decode cX8_spells 30 = .ok (.aload_n 0, 1) := by decide +kernel
theorem dX8_spells_31 : decode cX8_spells 31 = .ok (.getfield 20, 3) := by decide +kernel
theorem dX8_spells_34 : decode cX8_spells 34 = .ok (.iconst 1, 1) := by decide +kernel
theorem dX8_spells_35 : decode cX8_spells 35 = .ok (.iaload, 1) := by decide +kernel
theorem dX8_spells_36 : decode cX8_spells 36 = .ok (.idiv, 1) := by decide +kernel
theorem dX8_spells_37 : decode cX8_spells 37 = .ok (.istore_n 2, 1) := by decide +kernel
theorem dX8_spells_38 : decode cX8_spells 38 = .ok (.iinc 3 (-1), 3) := by decide +kernel
theorem dX8_spells_41 : decode cX8_spells 41 = .ok (.goto (-30), 3) := by decide +kernel
theorem dX8_spells_44 : decode cX8_spells 44 = .ok (.return_, 1) := by decide +kernel
theorem dX8_differsAt_0 : decode cX8_differsAt 0 = .ok (.iconst 0, 1) := by decide +kernel
theorem dX8_differsAt_1 : decode cX8_differsAt 1 = .ok (.istore 4, 2) := by decide +kernel
theorem dX8_differsAt_3 : decode cX8_differsAt 3 = .ok (.iconst 0, 1) := by decide +kernel
theorem dX8_differsAt_4 : decode cX8_differsAt 4 = .ok (.istore 5, 2) := by decide +kernel
theorem dX8_differsAt_6 : decode cX8_differsAt 6 = .ok (.iload 5, 2) := by decide +kernel
theorem dX8_differsAt_8 : decode cX8_differsAt 8 = .ok (.iload_n 3, 1) := by decide +kernel
theorem dX8_differsAt_9 : decode cX8_differsAt 9 = .ok (.if_icmp .ge 41, 3) := by decide +kernel
theorem dX8_differsAt_12 : decode cX8_differsAt 12 = .ok (.iload 4, 2) := by decide +kernel
theorem dX8_differsAt_14 : decode cX8_differsAt 14 = .ok (.aload_n 0, 1) := by decide +kernel
theorem dX8_differsAt_15 : decode cX8_differsAt 15 = .ok (.getfield 45, 3) := by decide +kernel
theorem dX8_differsAt_18 : decode cX8_differsAt 18 = .ok (.iload 5, 2) := by decide +kernel
theorem dX8_differsAt_20 : decode cX8_differsAt 20 = .ok (.iaload, 1) := by decide +kernel
theorem dX8_differsAt_21 : decode cX8_differsAt 21 = .ok (.aload_n 0, 1) := by decide +kernel
theorem dX8_differsAt_22 : decode cX8_differsAt 22 = .ok (.iload_n 1, 1) := by decide +kernel
theorem dX8_differsAt_23 : decode cX8_differsAt 23 = .ok (.iload_n 2, 1) := by decide +kernel
theorem dX8_differsAt_24 : decode cX8_differsAt 24 = .ok (.iload 5, 2) := by decide +kernel
theorem dX8_differsAt_26 : decode cX8_differsAt 26 = .ok (.iadd, 1) := by decide +kernel
theorem dX8_differsAt_27 : decode cX8_differsAt 27 = .ok (.invokevirtual 232, 3) := by decide +kernel
theorem dX8_differsAt_30 : decode cX8_differsAt 30 = .ok (.if_icmp .eq 7, 3) := by decide +kernel
theorem dX8_differsAt_33 : decode cX8_differsAt 33 = .ok (.iconst 1, 1) := by decide +kernel
theorem dX8_differsAt_34 : decode cX8_differsAt 34 = .ok (.goto 4, 3) := by decide +kernel
theorem dX8_differsAt_37 : decode cX8_differsAt 37 = .ok (.iconst 0, 1) := by decide +kernel
theorem dX8_differsAt_38 : decode cX8_differsAt 38 = .ok (.invokestatic 84, 3) := by decide +kernel
theorem dX8_differsAt_41 : decode cX8_differsAt 41 = .ok (.iadd, 1) := by decide +kernel
theorem dX8_differsAt_42 : decode cX8_differsAt 42 = .ok (.istore 4, 2) := by decide +kernel
theorem dX8_differsAt_44 : decode cX8_differsAt 44 = .ok (.iinc 5 1, 3) := by decide +kernel
theorem dX8_differsAt_47 : decode cX8_differsAt 47 = .ok (.goto (-41), 3) := by decide +kernel
theorem dX8_differsAt_50 : decode cX8_differsAt 50 = .ok (.iload 4, 2) := by decide +kernel
theorem dX8_differsAt_52 : decode cX8_differsAt 52 = .ok (.ireturn, 1) := by decide +kernel
theorem dX8_least_0 : decode cX8_least 0 = .ok (.iload_n 2, 1) := by decide +kernel
theorem dX8_least_1 : decode cX8_least 1 = .ok (.istore_n 3, 1) := by decide +kernel
theorem dX8_least_2 : decode cX8_least 2 = .ok (.iconst 0, 1) := by decide +kernel
theorem dX8_least_3 : decode cX8_least 3 = .ok (.istore 4, 2) := by decide +kernel
theorem dX8_least_5 : decode cX8_least 5 = .ok (.iload 4, 2) := by decide +kernel
theorem dX8_least_7 : decode cX8_least 7 = .ok (.aload_n 0, 1) := by decide +kernel
theorem dX8_least_8 : decode cX8_least 8 = .ok (.iload_n 1, 1) := by decide +kernel
theorem dX8_least_9 : decode cX8_least 9 = .ok (.iconst 0, 1) := by decide +kernel
theorem dX8_least_10 : decode cX8_least 10 = .ok (.invokevirtual 166, 3) := by decide +kernel
theorem dX8_least_13 : decode cX8_least 13 = .ok (.if_icmp .ge 45, 3) := by decide +kernel
theorem dX8_least_16 : decode cX8_least 16 = .ok (.aload_n 0, 1) := by decide +kernel
theorem dX8_least_17 : decode cX8_least 17 = .ok (.iload_n 1, 1) := by decide +kernel
theorem dX8_least_18 : decode cX8_least 18 = .ok (.iload 4, 2) := by decide +kernel
theorem dX8_least_20 : decode cX8_least 20 = .ok (.invokevirtual 229, 3) := by decide +kernel
theorem dX8_least_23 : decode cX8_least 23 = .ok (.ifCond .ne 6, 3) := by decide +kernel
theorem dX8_least_26 : decode cX8_least 26 = .ok (.goto 26, 3) := by decide +kernel
theorem dX8_least_29 : decode cX8_least 29 = .ok (.aload_n 0, 1) := by decide +kernel
theorem dX8_least_30 : decode cX8_least 30 = .ok (.iload_n 1, 1) := by decide +kernel
theorem dX8_least_31 : decode cX8_least 31 = .ok (.iload 4, 2) := by decide +kernel
theorem dX8_least_33 : decode cX8_least 33 = .ok (.iload_n 2, 1) := by decide +kernel
theorem dX8_least_34 : decode cX8_least 34 = .ok (.invokevirtual 235, 3) := by decide +kernel
theorem dX8_least_37 : decode cX8_least 37 = .ok (.istore 5, 2) := by decide +kernel
theorem dX8_least_39 : decode cX8_least 39 = .ok (.iload 5, 2) := by decide +kernel
theorem dX8_least_41 : decode cX8_least 41 = .ok (.iload_n 3, 1) := by decide +kernel
theorem dX8_least_42 : decode cX8_least 42 = .ok (.if_icmp .ge 8, 3) := by decide +kernel
theorem dX8_least_45 : decode cX8_least 45 = .ok (.iload 5, 2) := by decide +kernel
theorem dX8_least_47 : decode cX8_least 47 = .ok (.goto 4, 3) := by decide +kernel
theorem dX8_least_50 : decode cX8_least 50 = .ok (.iload_n 3, 1) := by decide +kernel
theorem dX8_least_51 : decode cX8_least 51 = .ok (.istore_n 3, 1) := by decide +kernel
theorem dX8_least_52 : decode cX8_least 52 = .ok (.iinc 4 1, 3) := by decide +kernel
theorem dX8_least_55 : decode cX8_least 55 = .ok (.goto (-50), 3) := by decide +kernel
theorem dX8_least_58 : decode cX8_least 58 = .ok (.iload_n 3, 1) := by decide +kernel
theorem dX8_least_59 : decode cX8_least 59 = .ok (.ireturn, 1) := by decide +kernel
theorem dX8_bounds_0 : decode cX8_bounds 0 = .ok (.iconst 0, 1) := by decide +kernel
theorem dX8_bounds_1 : decode cX8_bounds 1 = .ok (.istore_n 2, 1) := by decide +kernel
theorem dX8_bounds_2 : decode cX8_bounds 2 = .ok (.iconst 0, 1) := by decide +kernel
theorem dX8_bounds_3 : decode cX8_bounds 3 = .ok (.istore_n 3, 1) := by decide +kernel
theorem dX8_bounds_4 : decode cX8_bounds 4 = .ok (.iload_n 3, 1) := by decide +kernel
theorem dX8_bounds_5 : decode cX8_bounds 5 = .ok (.aload_n 0, 1) := by decide +kernel
theorem dX8_bounds_6 : decode cX8_bounds 6 = .ok (.getfield 20, 3) := by decide +kernel
theorem dX8_bounds_9 : decode cX8_bounds 9 = .ok (.iconst 0, 1) := by decide +kernel
theorem dX8_bounds_10 : decode cX8_bounds 10 = .ok (.iaload, 1) := by decide +kernel
theorem dX8_bounds_11 : decode cX8_bounds 11 = .ok (.if_icmp .ge 30, 3) := by decide +kernel
theorem dX8_bounds_14 : decode cX8_bounds 14 = .ok (.iload_n 2, 1) := by decide +kernel
theorem dX8_bounds_15 : decode cX8_bounds 15 = .ok (.aload_n 0, 1) := by decide +kernel
theorem dX8_bounds_16 : decode cX8_bounds 16 = .ok (.iload_n 3, 1) := by decide +kernel
theorem dX8_bounds_17 : decode cX8_bounds 17 = .ok (.invokevirtual 226, 3) := by decide +kernel
theorem dX8_bounds_20 : decode cX8_bounds 20 = .ok (.ifCond .eq 7, 3) := by decide +kernel
theorem dX8_bounds_23 : decode cX8_bounds 23 = .ok (.iconst 0, 1) := by decide +kernel
theorem dX8_bounds_24 : decode cX8_bounds 24 = .ok (.goto 9, 3) := by decide +kernel
theorem dX8_bounds_27 : decode cX8_bounds 27 = .ok (.aload_n 0, 1) := by decide +kernel
theorem dX8_bounds_28 : decode cX8_bounds 28 = .ok (.iload_n 3, 1) := by decide +kernel
theorem dX8_bounds_29 : decode cX8_bounds 29 = .ok (.iload_n 1, 1) := by decide +kernel
theorem dX8_bounds_30 : decode cX8_bounds 30 = .ok (.invokevirtual 239, 3) := by decide +kernel
theorem dX8_bounds_33 : decode cX8_bounds 33 = .ok (.iadd, 1) := by decide +kernel
theorem dX8_bounds_34 : decode cX8_bounds 34 = .ok (.istore_n 2, 1) := by decide +kernel
theorem dX8_bounds_35 : decode cX8_bounds 35 = .ok (.iinc 3 1, 3) := by decide +kernel
theorem dX8_bounds_38 : decode cX8_bounds 38 = .ok (.goto (-34), 3) := by decide +kernel
theorem dX8_bounds_41 : decode cX8_bounds 41 = .ok (.iload_n 2, 1) := by decide +kernel
theorem dX8_bounds_42 : decode cX8_bounds 42 = .ok (.ireturn, 1) := by decide +kernel
theorem dX8_scoreOf_0 : decode cX8_scoreOf 0 = .ok (.aload_n 0, 1) := by decide +kernel
theorem dX8_scoreOf_1 : decode cX8_scoreOf 1 = .ok (.iload_n 1, 1) := by decide +kernel
theorem dX8_scoreOf_2 : decode cX8_scoreOf 2 = .ok (.invokevirtual 242, 3) := by decide +kernel
theorem dX8_scoreOf_5 : decode cX8_scoreOf 5 = .ok (.aload_n 0, 1) := by decide +kernel
theorem dX8_scoreOf_6 : decode cX8_scoreOf 6 = .ok (.aload_n 0, 1) := by decide +kernel
theorem dX8_scoreOf_7 : decode cX8_scoreOf 7 = .ok (.getfield 20, 3) := by decide +kernel
theorem dX8_scoreOf_10 : decode cX8_scoreOf 10 = .ok (.iconst 2, 1) := by decide +kernel
theorem dX8_scoreOf_11 : decode cX8_scoreOf 11 = .ok (.iaload, 1) := by decide +kernel
theorem dX8_scoreOf_12 : decode cX8_scoreOf 12 = .ok (.invokevirtual 245, 3) := by decide +kernel
theorem dX8_scoreOf_15 : decode cX8_scoreOf 15 = .ok (.ireturn, 1) := by decide +kernel
theorem dX8_setting_0 : decode cX8_setting 0 = .ok (.aload_n 0, 1) := by decide +kernel
theorem dX8_setting_1 : decode cX8_setting 1 = .ok (.iload_n 1, 1) := by decide +kernel
theorem dX8_setting_2 : decode cX8_setting 2 = .ok (.i2l, 1) := by decide +kernel
theorem dX8_setting_3 : decode cX8_setting 3 = .ok (.lconst 0, 1) := by decide +kernel
theorem dX8_setting_4 : decode cX8_setting 4 = .ok (.ldc2_w 248, 3) := by decide +kernel
theorem dX8_setting_7 : decode cX8_setting 7 = .ok (.invokestatic 99, 3) := by decide +kernel
theorem dX8_setting_10 : decode cX8_setting 10 = .ok (.invokevirtual 91, 3) := by decide +kernel
theorem dX8_setting_13 : decode cX8_setting 13 = .ok (.ifCond .ne 5, 3) := by decide +kernel
theorem dX8_setting_16 : decode cX8_setting 16 = .ok (.iconst 0, 1) := by decide +kernel
theorem dX8_setting_17 : decode cX8_setting 17 = .ok (.ireturn, 1) := by decide +kernel
theorem dX8_setting_18 : decode cX8_setting 18 = .ok (.iconst 0, 1) := by decide +kernel
theorem dX8_setting_19 : decode cX8_setting 19 = .ok (.istore_n 2, 1) := by decide +kernel
theorem dX8_setting_20 : decode cX8_setting 20 = .ok (.iconst 0, 1) := by decide +kernel
theorem dX8_setting_21 : decode cX8_setting 21 = .ok (.istore_n 3, 1) := by decide +kernel
theorem dX8_setting_22 : decode cX8_setting 22 = .ok (.iconst 0, 1) := by decide +kernel
theorem dX8_setting_23 : decode cX8_setting 23 = .ok (.istore 4, 2) := by decide +kernel
theorem dX8_setting_25 : decode cX8_setting 25 = .ok (.iconst 0, 1) := by decide +kernel
theorem dX8_setting_26 : decode cX8_setting 26 = .ok (.istore 5, 2) := by decide +kernel
theorem dX8_setting_28 : decode cX8_setting 28 = .ok (.iconst 0, 1) := by decide +kernel
theorem dX8_setting_29 : decode cX8_setting 29 = .ok (.istore 6, 2) := by decide +kernel
theorem dX8_setting_31 : decode cX8_setting 31 = .ok (.iload 6, 2) := by decide +kernel
theorem dX8_setting_33 : decode cX8_setting 33 = .ok (.aload_n 0, 1) := by decide +kernel
theorem dX8_setting_34 : decode cX8_setting 34 = .ok (.getfield 20, 3) := by decide +kernel
theorem dX8_setting_37 : decode cX8_setting 37 = .ok (.iconst 0, 1) := by decide +kernel
theorem dX8_setting_38 : decode cX8_setting 38 = .ok (.iaload, 1) := by decide +kernel
theorem dX8_setting_39 : decode cX8_setting 39 = .ok (.if_icmp .ge 67, 3) := by decide +kernel
theorem dX8_setting_42 : decode cX8_setting 42 = .ok (.iload_n 2, 1) := by decide +kernel
theorem dX8_setting_43 : decode cX8_setting 43 = .ok (.aload_n 0, 1) := by decide +kernel
theorem dX8_setting_44 : decode cX8_setting 44 = .ok (.iload 6, 2) := by decide +kernel
theorem dX8_setting_46 : decode cX8_setting 46 = .ok (.invokevirtual 250, 3) := by decide +kernel
theorem dX8_setting_49 : decode cX8_setting 49 = .ok (.iadd, 1) := by decide +kernel
theorem dX8_setting_50 : decode cX8_setting 50 = .ok (.istore_n 2, 1) := by decide +kernel
theorem dX8_setting_51 : decode cX8_setting 51 = .ok (.iload_n 3, 1) := by decide +kernel
theorem dX8_setting_52 : decode cX8_setting 52 = .ok (.aload_n 0, 1) := by decide +kernel
theorem dX8_setting_53 : decode cX8_setting 53 = .ok (.iload 6, 2) := by decide +kernel
theorem dX8_setting_55 : decode cX8_setting 55 = .ok (.iconst 2, 1) := by decide +kernel
theorem dX8_setting_56 : decode cX8_setting 56 = .ok (.invokevirtual 166, 3) := by decide +kernel
theorem dX8_setting_59 : decode cX8_setting 59 = .ok (.iadd, 1) := by decide +kernel
theorem dX8_setting_60 : decode cX8_setting 60 = .ok (.istore_n 3, 1) := by decide +kernel
theorem dX8_setting_61 : decode cX8_setting 61 = .ok (.iload 4, 2) := by decide +kernel
theorem dX8_setting_63 : decode cX8_setting 63 = .ok (.aload_n 0, 1) := by decide +kernel
theorem dX8_setting_64 : decode cX8_setting 64 = .ok (.iload 6, 2) := by decide +kernel
theorem dX8_setting_66 : decode cX8_setting 66 = .ok (.iconst 3, 1) := by decide +kernel
theorem dX8_setting_67 : decode cX8_setting 67 = .ok (.invokevirtual 166, 3) := by decide +kernel
theorem dX8_setting_70 : decode cX8_setting 70 = .ok (.invokestatic 253, 3) := by decide +kernel
theorem dX8_setting_73 : decode cX8_setting 73 = .ok (.iadd, 1) := by decide +kernel
theorem dX8_setting_74 : decode cX8_setting 74 = .ok (.istore 4, 2) := by decide +kernel
theorem dX8_setting_76 : decode cX8_setting 76 = .ok (.iload 5, 2) := by decide +kernel
theorem dX8_setting_78 : decode cX8_setting 78 = .ok (.aload_n 0, 1) := by decide +kernel
theorem dX8_setting_79 : decode cX8_setting 79 = .ok (.iload 6, 2) := by decide +kernel
theorem dX8_setting_81 : decode cX8_setting 81 = .ok (.iconst 1, 1) := by decide +kernel
theorem dX8_setting_82 : decode cX8_setting 82 = .ok (.invokevirtual 166, 3) := by decide +kernel
theorem dX8_setting_85 : decode cX8_setting 85 = .ok (.iconst (-1), 1) := by decide +kernel
theorem dX8_setting_86 : decode cX8_setting 86 = .ok (.if_icmp .eq 7, 3) := by decide +kernel
theorem dX8_setting_89 : decode cX8_setting 89 = .ok (.iconst 1, 1) := by decide +kernel
theorem dX8_setting_90 : decode cX8_setting 90 = .ok (.goto 4, 3) := by decide +kernel
theorem dX8_setting_93 : decode cX8_setting 93 = .ok (.iconst 0, 1) := by decide +kernel
theorem dX8_setting_94 : decode cX8_setting 94 = .ok (.invokestatic 84, 3) := by decide +kernel
theorem dX8_setting_97 : decode cX8_setting 97 = .ok (.iadd, 1) := by decide +kernel
theorem dX8_setting_98 : decode cX8_setting 98 = .ok (.istore 5, 2) := by decide +kernel
theorem dX8_setting_100 : decode cX8_setting 100 = .ok (.iinc 6 1, 3) := by decide +kernel
theorem dX8_setting_103 : decode cX8_setting 103 = .ok (.goto (-72), 3) := by decide +kernel
theorem dX8_setting_106 : decode cX8_setting 106 = .ok (.iload_n 1, 1) := by decide +kernel
theorem dX8_setting_107 : decode cX8_setting 107 = .ok (.tableswitch 59 4 9 #[37, 42, 44, 46, 49, 56], 37) := by decide +kernel
theorem dX8_setting_144 : decode cX8_setting 144 = .ok (.aload_n 0, 1) := by decide +kernel
theorem dX8_setting_145 : decode cX8_setting 145 = .ok (.invokevirtual 162, 3) := by decide +kernel
theorem dX8_setting_148 : decode cX8_setting 148 = .ok (.ireturn, 1) := by decide +kernel
theorem dX8_setting_149 : decode cX8_setting 149 = .ok (.iload_n 2, 1) := by decide +kernel
theorem dX8_setting_150 : decode cX8_setting 150 = .ok (.ireturn, 1) := by decide +kernel
theorem dX8_setting_151 : decode cX8_setting 151 = .ok (.iload_n 3, 1) := by decide +kernel
theorem dX8_setting_152 : decode cX8_setting 152 = .ok (.ireturn, 1) := by decide +kernel
theorem dX8_setting_153 : decode cX8_setting 153 = .ok (.iload 4, 2) := by decide +kernel
theorem dX8_setting_155 : decode cX8_setting 155 = .ok (.ireturn, 1) := by decide +kernel
theorem dX8_setting_156 : decode cX8_setting 156 = .ok (.aload_n 0, 1) := by decide +kernel
theorem dX8_setting_157 : decode cX8_setting 157 = .ok (.getfield 20, 3) := by decide +kernel
theorem dX8_setting_160 : decode cX8_setting 160 = .ok (.iconst 4, 1) := by decide +kernel
theorem dX8_setting_161 : decode cX8_setting 161 = .ok (.iaload, 1) := by decide +kernel
theorem dX8_setting_162 : decode cX8_setting 162 = .ok (.ireturn, 1) := by decide +kernel
theorem dX8_setting_163 : decode cX8_setting 163 = .ok (.iload 5, 2) := by decide +kernel
theorem dX8_setting_165 : decode cX8_setting 165 = .ok (.ireturn, 1) := by decide +kernel
theorem dX8_setting_166 : decode cX8_setting 166 = .ok (.aload_n 0, 1) := by decide +kernel
theorem dX8_setting_167 : decode cX8_setting 167 = .ok (.getfield 20, 3) := by decide +kernel
theorem dX8_setting_170 : decode cX8_setting 170 = .ok (.iload_n 1, 1) := by decide +kernel
theorem dX8_setting_171 : decode cX8_setting 171 = .ok (.iaload, 1) := by decide +kernel
theorem dX8_setting_172 : decode cX8_setting 172 = .ok (.ireturn, 1) := by decide +kernel
theorem dX8_ones_0 : decode cX8_ones 0 = .ok (.iconst 0, 1) := by decide +kernel
theorem dX8_ones_1 : decode cX8_ones 1 = .ok (.istore_n 1, 1) := by decide +kernel
theorem dX8_ones_2 : decode cX8_ones 2 = .ok (.iconst 0, 1) := by decide +kernel
theorem dX8_ones_3 : decode cX8_ones 3 = .ok (.istore_n 2, 1) := by decide +kernel
theorem dX8_ones_4 : decode cX8_ones 4 = .ok (.iload_n 2, 1) := by decide +kernel
theorem dX8_ones_5 : decode cX8_ones 5 = .ok (.bipush 30, 2) := by decide +kernel
theorem dX8_ones_7 : decode cX8_ones 7 = .ok (.if_icmp .ge 17, 3) := by decide +kernel
theorem dX8_ones_10 : decode cX8_ones 10 = .ok (.iload_n 1, 1) := by decide +kernel
theorem dX8_ones_11 : decode cX8_ones 11 = .ok (.iload_n 0, 1) := by decide +kernel
theorem dX8_ones_12 : decode cX8_ones 12 = .ok (.iload_n 2, 1) := by decide +kernel
theorem dX8_ones_13 : decode cX8_ones 13 = .ok (.ishr, 1) := by decide +kernel
theorem dX8_ones_14 : decode cX8_ones 14 = .ok (.iconst 1, 1) := by decide +kernel
theorem dX8_ones_15 : decode cX8_ones 15 = .ok (.iand, 1) := by decide +kernel
theorem dX8_ones_16 : decode cX8_ones 16 = .ok (.iadd, 1) := by decide +kernel
theorem dX8_ones_17 : decode cX8_ones 17 = .ok (.istore_n 1, 1) := by decide +kernel
theorem dX8_ones_18 : decode cX8_ones 18 = .ok (.iinc 2 1, 3) := by decide +kernel
theorem dX8_ones_21 : decode cX8_ones 21 = .ok (.goto (-17), 3) := by decide +kernel
theorem dX8_ones_24 : decode cX8_ones 24 = .ok (.iload_n 1, 1) := by decide +kernel
theorem dX8_ones_25 : decode cX8_ones 25 = .ok (.ireturn, 1) := by decide +kernel
theorem dX8_row_0 : decode cX8_row 0 = .ok (.aload_n 0, 1) := by decide +kernel
theorem dX8_row_1 : decode cX8_row 1 = .ok (.aload_n 0, 1) := by decide +kernel
theorem dX8_row_2 : decode cX8_row 2 = .ok (.iload_n 1, 1) := by decide +kernel
theorem dX8_row_3 : decode cX8_row 3 = .ok (.invokevirtual 256, 3) := by decide +kernel
theorem dX8_row_6 : decode cX8_row 6 = .ok (.iload_n 2, 1) := by decide +kernel
theorem dX8_row_7 : decode cX8_row 7 = .ok (.i2l, 1) := by decide +kernel
theorem dX8_row_8 : decode cX8_row 8 = .ok (.lconst 0, 1) := by decide +kernel
theorem dX8_row_9 : decode cX8_row 9 = .ok (.ldc2_w 259, 3) := by decide +kernel
theorem dX8_row_12 : decode cX8_row 12 = .ok (.invokestatic 99, 3) := by decide +kernel
theorem dX8_row_15 : decode cX8_row 15 = .ok (.invokevirtual 261, 3) := by decide +kernel
theorem dX8_row_18 : decode cX8_row 18 = .ok (.ifCond .ne 5, 3) := by decide +kernel
theorem dX8_row_21 : decode cX8_row 21 = .ok (.iconst 0, 1) := by decide +kernel
theorem dX8_row_22 : decode cX8_row 22 = .ok (.ireturn, 1) := by decide +kernel
theorem dX8_row_23 : decode cX8_row 23 = .ok (.iload_n 2, 1) := by decide +kernel
theorem dX8_row_24 : decode cX8_row 24 = .ok (.tableswitch 59 0 3 #[32, 39, 45, 52], 32) := by decide +kernel
theorem dX8_row_56 : decode cX8_row 56 = .ok (.aload_n 0, 1) := by decide +kernel
theorem dX8_row_57 : decode cX8_row 57 = .ok (.iload_n 1, 1) := by decide +kernel
theorem dX8_row_58 : decode cX8_row 58 = .ok (.iconst 0, 1) := by decide +kernel
theorem dX8_row_59 : decode cX8_row 59 = .ok (.invokevirtual 166, 3) := by decide +kernel
theorem dX8_row_62 : decode cX8_row 62 = .ok (.ireturn, 1) := by decide +kernel
theorem dX8_row_63 : decode cX8_row 63 = .ok (.aload_n 0, 1) := by decide +kernel
theorem dX8_row_64 : decode cX8_row 64 = .ok (.iload_n 1, 1) := by decide +kernel
theorem dX8_row_65 : decode cX8_row 65 = .ok (.invokevirtual 250, 3) := by decide +kernel
theorem dX8_row_68 : decode cX8_row 68 = .ok (.ireturn, 1) := by decide +kernel
theorem dX8_row_69 : decode cX8_row 69 = .ok (.aload_n 0, 1) := by decide +kernel
theorem dX8_row_70 : decode cX8_row 70 = .ok (.iload_n 1, 1) := by decide +kernel
theorem dX8_row_71 : decode cX8_row 71 = .ok (.iconst 1, 1) := by decide +kernel
theorem dX8_row_72 : decode cX8_row 72 = .ok (.invokevirtual 166, 3) := by decide +kernel
theorem dX8_row_75 : decode cX8_row 75 = .ok (.ireturn, 1) := by decide +kernel
theorem dX8_row_76 : decode cX8_row 76 = .ok (.aload_n 0, 1) := by decide +kernel
theorem dX8_row_77 : decode cX8_row 77 = .ok (.iload_n 1, 1) := by decide +kernel
theorem dX8_row_78 : decode cX8_row 78 = .ok (.iconst 2, 1) := by decide +kernel
theorem dX8_row_79 : decode cX8_row 79 = .ok (.invokevirtual 166, 3) := by decide +kernel
theorem dX8_row_82 : decode cX8_row 82 = .ok (.ireturn, 1) := by decide +kernel
theorem dX8_row_83 : decode cX8_row 83 = .ok (.aload_n 0, 1) := by decide +kernel
theorem dX8_row_84 : decode cX8_row 84 = .ok (.iload_n 1, 1) := by decide +kernel
theorem dX8_row_85 : decode cX8_row 85 = .ok (.iconst 3, 1) := by decide +kernel
theorem dX8_row_86 : decode cX8_row 86 = .ok (.invokevirtual 166, 3) := by decide +kernel
theorem dX8_row_89 : decode cX8_row 89 = .ok (.ireturn, 1) := by decide +kernel
theorem dX8_letter_0 : decode cX8_letter 0 = .ok (.aload_n 0, 1) := by decide +kernel
theorem dX8_letter_1 : decode cX8_letter 1 = .ok (.aload_n 0, 1) := by decide +kernel
theorem dX8_letter_2 : decode cX8_letter 2 = .ok (.iload_n 1, 1) := by decide +kernel
theorem dX8_letter_3 : decode cX8_letter 3 = .ok (.invokevirtual 256, 3) := by decide +kernel
theorem dX8_letter_6 : decode cX8_letter 6 = .ok (.ifCond .eq 25, 3) := by decide +kernel
theorem dX8_letter_9 : decode cX8_letter 9 = .ok (.iload_n 2, 1) := by decide +kernel
theorem dX8_letter_10 : decode cX8_letter 10 = .ok (.i2l, 1) := by decide +kernel
theorem dX8_letter_11 : decode cX8_letter 11 = .ok (.lconst 0, 1) := by decide +kernel
theorem dX8_letter_12 : decode cX8_letter 12 = .ok (.aload_n 0, 1) := by decide +kernel
theorem dX8_letter_13 : decode cX8_letter 13 = .ok (.iload_n 1, 1) := by decide +kernel
theorem dX8_letter_14 : decode cX8_letter 14 = .ok (.iconst 0, 1) := by decide +kernel
theorem dX8_letter_15 : decode cX8_letter 15 = .ok (.invokevirtual 166, 3) := by decide +kernel
theorem dX8_letter_18 : decode cX8_letter 18 = .ok (.iconst 1, 1) := by decide +kernel
theorem dX8_letter_19 : decode cX8_letter 19 = .ok (.isub, 1) := by decide +kernel
theorem dX8_letter_20 : decode cX8_letter 20 = .ok (.i2l, 1) := by decide +kernel
theorem dX8_letter_21 : decode cX8_letter 21 = .ok (.invokestatic 99, 3) := by decide +kernel
theorem dX8_letter_24 : decode cX8_letter 24 = .ok (.ifCond .eq 7, 3) := by decide +kernel
theorem dX8_letter_27 : decode cX8_letter 27 = .ok (.iconst 1, 1) := by decide +kernel
theorem dX8_letter_28 : decode cX8_letter 28 = .ok (.goto 4, 3) := by decide +kernel
theorem dX8_letter_31 : decode cX8_letter 31 = .ok (.iconst 0, 1) := by decide +kernel
theorem dX8_letter_32 : decode cX8_letter 32 = .ok (.invokevirtual 91, 3) := by decide +kernel
theorem dX8_letter_35 : decode cX8_letter 35 = .ok (.ifCond .eq 12, 3) := by decide +kernel
theorem dX8_letter_38 : decode cX8_letter 38 = .ok (.aload_n 0, 1) := by decide +kernel
theorem dX8_letter_39 : decode cX8_letter 39 = .ok (.iload_n 1, 1) := by decide +kernel
theorem dX8_letter_40 : decode cX8_letter 40 = .ok (.iload_n 2, 1) := by decide +kernel
theorem dX8_letter_41 : decode cX8_letter 41 = .ok (.invokevirtual 232, 3) := by decide +kernel
theorem dX8_letter_44 : decode cX8_letter 44 = .ok (.goto 4, 3) := by decide +kernel
theorem dX8_letter_47 : decode cX8_letter 47 = .ok (.iconst 0, 1) := by decide +kernel
theorem dX8_letter_48 : decode cX8_letter 48 = .ok (.ireturn, 1) := by decide +kernel
theorem dX8_wordAt_0 : decode cX8_wordAt 0 = .ok (.aload_n 0, 1) := by decide +kernel
theorem dX8_wordAt_1 : decode cX8_wordAt 1 = .ok (.aload_n 0, 1) := by decide +kernel
theorem dX8_wordAt_2 : decode cX8_wordAt 2 = .ok (.iload_n 1, 1) := by decide +kernel
theorem dX8_wordAt_3 : decode cX8_wordAt 3 = .ok (.invokevirtual 256, 3) := by decide +kernel
theorem dX8_wordAt_6 : decode cX8_wordAt 6 = .ok (.invokevirtual 91, 3) := by decide +kernel
theorem dX8_wordAt_9 : decode cX8_wordAt 9 = .ok (.ifCond .ne 5, 3) := by decide +kernel
theorem dX8_wordAt_12 : decode cX8_wordAt 12 = .ok (.iconst 0, 1) := by decide +kernel
theorem dX8_wordAt_13 : decode cX8_wordAt 13 = .ok (.ireturn, 1) := by decide +kernel
theorem dX8_wordAt_14 : decode cX8_wordAt 14 = .ok (.aload_n 0, 1) := by decide +kernel
theorem dX8_wordAt_15 : decode cX8_wordAt 15 = .ok (.iload_n 1, 1) := by decide +kernel
theorem dX8_wordAt_16 : decode cX8_wordAt 16 = .ok (.iload_n 2, 1) := by decide +kernel
theorem dX8_wordAt_17 : decode cX8_wordAt 17 = .ok (.invokevirtual 229, 3) := by decide +kernel
theorem dX8_wordAt_20 : decode cX8_wordAt 20 = .ok (.ifCond .eq 12, 3) := by decide +kernel
theorem dX8_wordAt_23 : decode cX8_wordAt 23 = .ok (.aload_n 0, 1) := by decide +kernel
theorem dX8_wordAt_24 : decode cX8_wordAt 24 = .ok (.iload_n 1, 1) := by decide +kernel
theorem dX8_wordAt_25 : decode cX8_wordAt 25 = .ok (.iload_n 2, 1) := by decide +kernel
theorem dX8_wordAt_26 : decode cX8_wordAt 26 = .ok (.invokevirtual 265, 3) := by decide +kernel
theorem dX8_wordAt_29 : decode cX8_wordAt 29 = .ok (.goto 4, 3) := by decide +kernel
theorem dX8_wordAt_32 : decode cX8_wordAt 32 = .ok (.iconst (-1), 1) := by decide +kernel
theorem dX8_wordAt_33 : decode cX8_wordAt 33 = .ok (.ireturn, 1) := by decide +kernel
theorem dX8_differ_0 : decode cX8_differ 0 = .ok (.aload_n 0, 1) := by decide +kernel
theorem dX8_differ_1 : decode cX8_differ 1 = .ok (.aload_n 0, 1) := by decide +kernel
theorem dX8_differ_2 : decode cX8_differ 2 = .ok (.iload_n 1, 1) := by decide +kernel
theorem dX8_differ_3 : decode cX8_differ 3 = .ok (.invokevirtual 268, 3) := by decide +kernel
theorem dX8_differ_6 : decode cX8_differ 6 = .ok (.ifCond .eq 15, 3) := by decide +kernel
theorem dX8_differ_9 : decode cX8_differ 9 = .ok (.aload_n 0, 1) := by decide +kernel
theorem dX8_differ_10 : decode cX8_differ 10 = .ok (.iload_n 2, 1) := by decide +kernel
theorem dX8_differ_11 : decode cX8_differ 11 = .ok (.invokevirtual 268, 3) := by decide +kernel
theorem dX8_differ_14 : decode cX8_differ 14 = .ok (.ifCond .eq 7, 3) := by decide +kernel
theorem dX8_differ_17 : decode cX8_differ 17 = .ok (.iconst 1, 1) := by decide +kernel
theorem dX8_differ_18 : decode cX8_differ 18 = .ok (.goto 4, 3) := by decide +kernel
theorem dX8_differ_21 : decode cX8_differ 21 = .ok (.iconst 0, 1) := by decide +kernel
theorem dX8_differ_22 : decode cX8_differ 22 = .ok (.invokevirtual 91, 3) := by decide +kernel
theorem dX8_differ_25 : decode cX8_differ 25 = .ok (.ifCond .ne 5, 3) := by decide +kernel
theorem dX8_differ_28 : decode cX8_differ 28 = .ok (.iconst 0, 1) := by decide +kernel
theorem dX8_differ_29 : decode cX8_differ 29 = .ok (.ireturn, 1) := by decide +kernel
theorem dX8_differ_30 : decode cX8_differ 30 = .ok (.aload_n 0, 1) := by decide +kernel
theorem dX8_differ_31 : decode cX8_differ 31 = .ok (.iload_n 2, 1) := by decide +kernel
theorem dX8_differ_32 : decode cX8_differ 32 = .ok (.invokevirtual 242, 3) := by decide +kernel
theorem dX8_differ_35 : decode cX8_differ 35 = .ok (.iconst 0, 1) := by decide +kernel
theorem dX8_differ_36 : decode cX8_differ 36 = .ok (.istore_n 3, 1) := by decide +kernel
theorem dX8_differ_37 : decode cX8_differ 37 = .ok (.iload_n 3, 1) := by decide +kernel
theorem dX8_differ_38 : decode cX8_differ 38 = .ok (.bipush 6, 2) := by decide +kernel
theorem dX8_differ_40 : decode cX8_differ 40 = .ok (.if_icmp .ge 21, 3) := by decide +kernel
theorem dX8_differ_43 : decode cX8_differ 43 = .ok (.aload_n 0, 1) := by decide +kernel
theorem dX8_differ_44 : decode cX8_differ 44 = .ok (.getfield 48, 3) := by decide +kernel
theorem dX8_differ_47 : decode cX8_differ 47 = .ok (.iload_n 3, 1) := by decide +kernel
theorem dX8_differ_48 : decode cX8_differ 48 = .ok (.aload_n 0, 1) := by decide +kernel
theorem dX8_differ_49 : decode cX8_differ 49 = .ok (.getfield 45, 3) := by decide +kernel
theorem dX8_differ_52 : decode cX8_differ 52 = .ok (.iload_n 3, 1) := by decide +kernel
theorem dX8_differ_53 : decode cX8_differ 53 = .ok (.iaload, 1) := by decide +kernel
theorem dX8_differ_54 : decode cX8_differ 54 = .ok (.iastore, 1) := by decide +kernel
theorem dX8_differ_55 : decode cX8_differ 55 = .ok (.iinc 3 1, 3) := by decide +kernel
theorem dX8_differ_58 : decode cX8_differ 58 = .ok (.goto (-21), 3) := by decide +kernel
theorem dX8_differ_61 : decode cX8_differ 61 = .ok (.aload_n 0, 1) := by decide +kernel
theorem dX8_differ_62 : decode cX8_differ 62 = .ok (.iload_n 1, 1) := by decide +kernel
theorem dX8_differ_63 : decode cX8_differ 63 = .ok (.invokevirtual 242, 3) := by decide +kernel
theorem dX8_differ_66 : decode cX8_differ 66 = .ok (.iconst 0, 1) := by decide +kernel
theorem dX8_differ_67 : decode cX8_differ 67 = .ok (.istore_n 3, 1) := by decide +kernel
theorem dX8_differ_68 : decode cX8_differ 68 = .ok (.iconst 0, 1) := by decide +kernel
theorem dX8_differ_69 : decode cX8_differ 69 = .ok (.istore 4, 2) := by decide +kernel
theorem dX8_differ_71 : decode cX8_differ 71 = .ok (.iload 4, 2) := by decide +kernel
theorem dX8_differ_73 : decode cX8_differ 73 = .ok (.aload_n 0, 1) := by decide +kernel
theorem dX8_differ_74 : decode cX8_differ 74 = .ok (.getfield 20, 3) := by decide +kernel
theorem dX8_differ_77 : decode cX8_differ 77 = .ok (.iconst 2, 1) := by decide +kernel
theorem dX8_differ_78 : decode cX8_differ 78 = .ok (.iaload, 1) := by decide +kernel
theorem dX8_differ_79 : decode cX8_differ 79 = .ok (.if_icmp .ge 37, 3) := by decide +kernel
theorem dX8_differ_82 : decode cX8_differ 82 = .ok (.iload_n 3, 1) := by decide +kernel
theorem dX8_differ_83 : decode cX8_differ 83 = .ok (.aload_n 0, 1) := by decide +kernel
theorem dX8_differ_84 : decode cX8_differ 84 = .ok (.getfield 45, 3) := by decide +kernel
theorem dX8_differ_87 : decode cX8_differ 87 = .ok (.iload 4, 2) := by decide +kernel
theorem dX8_differ_89 : decode cX8_differ 89 = .ok (.iaload, 1) := by decide +kernel
theorem dX8_differ_90 : decode cX8_differ 90 = .ok (.aload_n 0, 1) := by decide +kernel
theorem dX8_differ_91 : decode cX8_differ 91 = .ok (.getfield 48, 3) := by decide +kernel
theorem dX8_differ_94 : decode cX8_differ 94 = .ok (.iload 4, 2) := by decide +kernel
theorem dX8_differ_96 : decode cX8_differ 96 = .ok (.iaload, 1) := by decide +kernel
theorem dX8_differ_97 : decode cX8_differ 97 = .ok (.if_icmp .eq 7, 3) := by decide +kernel
theorem dX8_differ_100 : decode cX8_differ 100 = .ok (.iconst 1, 1) := by decide +kernel
theorem dX8_differ_101 : decode cX8_differ 101 = .ok (.goto 4, 3) := by decide +kernel
theorem dX8_differ_104 : decode cX8_differ 104 = .ok (.iconst 0, 1) := by decide +kernel
theorem dX8_differ_105 : decode cX8_differ 105 = .ok (.invokestatic 84, 3) := by decide +kernel
theorem dX8_differ_108 : decode cX8_differ 108 = .ok (.iadd, 1) := by decide +kernel
theorem dX8_differ_109 : decode cX8_differ 109 = .ok (.istore_n 3, 1) := by decide +kernel
theorem dX8_differ_110 : decode cX8_differ 110 = .ok (.iinc 4 1, 3) := by decide +kernel
theorem dX8_differ_113 : decode cX8_differ 113 = .ok (.goto (-42), 3) := by decide +kernel
theorem dX8_differ_116 : decode cX8_differ 116 = .ok (.iload_n 3, 1) := by decide +kernel
theorem dX8_differ_117 : decode cX8_differ 117 = .ok (.ireturn, 1) := by decide +kernel
theorem dX8_distance_0 : decode cX8_distance 0 = .ok (.aload_n 0, 1) := by decide +kernel
theorem dX8_distance_1 : decode cX8_distance 1 = .ok (.aload_n 0, 1) := by decide +kernel
theorem dX8_distance_2 : decode cX8_distance 2 = .ok (.iload_n 1, 1) := by decide +kernel
theorem dX8_distance_3 : decode cX8_distance 3 = .ok (.invokevirtual 256, 3) := by decide +kernel
theorem dX8_distance_6 : decode cX8_distance 6 = .ok (.ifCond .eq 15, 3) := by decide +kernel
theorem dX8_distance_9 : decode cX8_distance 9 = .ok (.aload_n 0, 1) := by decide +kernel
theorem dX8_distance_10 : decode cX8_distance 10 = .ok (.iload_n 2, 1) := by decide +kernel
theorem dX8_distance_11 : decode cX8_distance 11 = .ok (.invokevirtual 268, 3) := by decide +kernel
theorem dX8_distance_14 : decode cX8_distance 14 = .ok (.ifCond .eq 7, 3) := by decide +kernel
theorem dX8_distance_17 : decode cX8_distance 17 = .ok (.iconst 1, 1) := by decide +kernel
theorem dX8_distance_18 : decode cX8_distance 18 = .ok (.goto 4, 3) := by decide +kernel
theorem dX8_distance_21 : decode cX8_distance 21 = .ok (.iconst 0, 1) := by decide +kernel
theorem dX8_distance_22 : decode cX8_distance 22 = .ok (.invokevirtual 91, 3) := by decide +kernel
theorem dX8_distance_25 : decode cX8_distance 25 = .ok (.ifCond .ne 5, 3) := by decide +kernel
theorem dX8_distance_28 : decode cX8_distance 28 = .ok (.iconst 0, 1) := by decide +kernel
theorem dX8_distance_29 : decode cX8_distance 29 = .ok (.ireturn, 1) := by decide +kernel
theorem dX8_distance_30 : decode cX8_distance 30 = .ok (.aload_n 0, 1) := by decide +kernel
theorem dX8_distance_31 : decode cX8_distance 31 = .ok (.iload_n 2, 1) := by decide +kernel
theorem dX8_distance_32 : decode cX8_distance 32 = .ok (.invokevirtual 242, 3) := by decide +kernel
theorem dX8_distance_35 : decode cX8_distance 35 = .ok (.aload_n 0, 1) := by decide +kernel
theorem dX8_distance_36 : decode cX8_distance 36 = .ok (.iload_n 1, 1) := by decide +kernel
theorem dX8_distance_37 : decode cX8_distance 37 = .ok (.invokevirtual 226, 3) := by decide +kernel
theorem dX8_distance_40 : decode cX8_distance 40 = .ok (.ifCond .eq 7, 3) := by decide +kernel
theorem dX8_distance_43 : decode cX8_distance 43 = .ok (.iconst (-1), 1) := by decide +kernel
theorem dX8_distance_44 : decode cX8_distance 44 = .ok (.goto 14, 3) := by decide +kernel
theorem dX8_distance_47 : decode cX8_distance 47 = .ok (.aload_n 0, 1) := by decide +kernel
theorem dX8_distance_48 : decode cX8_distance 48 = .ok (.iload_n 1, 1) := by decide +kernel
theorem dX8_distance_49 : decode cX8_distance 49 = .ok (.aload_n 0, 1) := by decide +kernel
theorem dX8_distance_50 : decode cX8_distance 50 = .ok (.getfield 20, 3) := by decide +kernel
theorem dX8_distance_53 : decode cX8_distance 53 = .ok (.iconst 2, 1) := by decide +kernel
theorem dX8_distance_54 : decode cX8_distance 54 = .ok (.iaload, 1) := by decide +kernel
theorem dX8_distance_55 : decode cX8_distance 55 = .ok (.invokevirtual 239, 3) := by decide +kernel
theorem dX8_distance_58 : decode cX8_distance 58 = .ok (.ireturn, 1) := by decide +kernel
theorem dX8_score_0 : decode cX8_score 0 = .ok (.aload_n 0, 1) := by decide +kernel
theorem dX8_score_1 : decode cX8_score 1 = .ok (.aload_n 0, 1) := by decide +kernel
theorem dX8_score_2 : decode cX8_score 2 = .ok (.iload_n 1, 1) := by decide +kernel
theorem dX8_score_3 : decode cX8_score 3 = .ok (.invokevirtual 268, 3) := by decide +kernel
theorem dX8_score_6 : decode cX8_score 6 = .ok (.invokevirtual 91, 3) := by decide +kernel
theorem dX8_score_9 : decode cX8_score 9 = .ok (.ifCond .eq 11, 3) := by decide +kernel
theorem dX8_score_12 : decode cX8_score 12 = .ok (.aload_n 0, 1) := by decide +kernel
theorem dX8_score_13 : decode cX8_score 13 = .ok (.iload_n 1, 1) := by decide +kernel
theorem dX8_score_14 : decode cX8_score 14 = .ok (.invokevirtual 271, 3) := by decide +kernel
theorem dX8_score_17 : decode cX8_score 17 = .ok (.goto 4, 3) := by decide +kernel
theorem dX8_score_20 : decode cX8_score 20 = .ok (.iconst 0, 1) := by decide +kernel
theorem dX8_score_21 : decode cX8_score 21 = .ok (.ireturn, 1) := by decide +kernel
theorem dX8_haves_0 : decode cX8_haves 0 = .ok (.iconst 0, 1) := by decide +kernel
theorem dX8_haves_1 : decode cX8_haves 1 = .ok (.istore_n 1, 1) := by decide +kernel
theorem dX8_haves_2 : decode cX8_haves 2 = .ok (.iconst 0, 1) := by decide +kernel
theorem dX8_haves_3 : decode cX8_haves 3 = .ok (.istore_n 2, 1) := by decide +kernel
theorem dX8_haves_4 : decode cX8_haves 4 = .ok (.iload_n 2, 1) := by decide +kernel
theorem dX8_haves_5 : decode cX8_haves 5 = .ok (.aload_n 0, 1) := by decide +kernel
theorem dX8_haves_6 : decode cX8_haves 6 = .ok (.getfield 20, 3) := by decide +kernel
theorem dX8_haves_9 : decode cX8_haves 9 = .ok (.iconst 0, 1) := by decide +kernel
theorem dX8_haves_10 : decode cX8_haves 10 = .ok (.iaload, 1) := by decide +kernel
theorem dX8_haves_11 : decode cX8_haves 11 = .ok (.if_icmp .ge 50, 3) := by decide +kernel
theorem dX8_haves_14 : decode cX8_haves 14 = .ok (.iload_n 1, 1) := by decide +kernel
theorem dX8_haves_15 : decode cX8_haves 15 = .ok (.aload_n 0, 1) := by decide +kernel
theorem dX8_haves_16 : decode cX8_haves 16 = .ok (.iload_n 2, 1) := by decide +kernel
theorem dX8_haves_17 : decode cX8_haves 17 = .ok (.invokevirtual 226, 3) := by decide +kernel
theorem dX8_haves_20 : decode cX8_haves 20 = .ok (.ifCond .ne 27, 3) := by decide +kernel
theorem dX8_haves_23 : decode cX8_haves 23 = .ok (.aload_n 0, 1) := by decide +kernel
theorem dX8_haves_24 : decode cX8_haves 24 = .ok (.iload_n 2, 1) := by decide +kernel
theorem dX8_haves_25 : decode cX8_haves 25 = .ok (.aload_n 0, 1) := by decide +kernel
theorem dX8_haves_26 : decode cX8_haves 26 = .ok (.getfield 20, 3) := by decide +kernel
theorem dX8_haves_29 : decode cX8_haves 29 = .ok (.iconst 2, 1) := by decide +kernel
theorem dX8_haves_30 : decode cX8_haves 30 = .ok (.iaload, 1) := by decide +kernel
theorem dX8_haves_31 : decode cX8_haves 31 = .ok (.invokevirtual 239, 3) := by decide +kernel
theorem dX8_haves_34 : decode cX8_haves 34 = .ok (.aload_n 0, 1) := by decide +kernel
theorem dX8_haves_35 : decode cX8_haves 35 = .ok (.getfield 20, 3) := by decide +kernel
theorem dX8_haves_38 : decode cX8_haves 38 = .ok (.iconst 3, 1) := by decide +kernel
theorem dX8_haves_39 : decode cX8_haves 39 = .ok (.iaload, 1) := by decide +kernel
theorem dX8_haves_40 : decode cX8_haves 40 = .ok (.if_icmp .gt 7, 3) := by decide +kernel
theorem dX8_haves_43 : decode cX8_haves 43 = .ok (.iconst 1, 1) := by decide +kernel
theorem dX8_haves_44 : decode cX8_haves 44 = .ok (.goto 4, 3) := by decide +kernel
theorem dX8_haves_47 : decode cX8_haves 47 = .ok (.iconst 0, 1) := by decide +kernel
theorem dX8_haves_48 : decode cX8_haves 48 = .ok (.invokestatic 84, 3) := by decide +kernel
theorem dX8_haves_51 : decode cX8_haves 51 = .ok (.iload_n 2, 1) := by decide +kernel
theorem dX8_haves_52 : decode cX8_haves 52 = .ok (.ishl, 1) := by decide +kernel
theorem dX8_haves_53 : decode cX8_haves 53 = .ok (.ior, 1) := by decide +kernel
theorem dX8_haves_54 : decode cX8_haves 54 = .ok (.istore_n 1, 1) := by decide +kernel
theorem dX8_haves_55 : decode cX8_haves 55 = .ok (.iinc 2 1, 3) := by decide +kernel
theorem dX8_haves_58 : decode cX8_haves 58 = .ok (.goto (-54), 3) := by decide +kernel
theorem dX8_haves_61 : decode cX8_haves 61 = .ok (.iload_n 1, 1) := by decide +kernel
theorem dX8_haves_62 : decode cX8_haves 62 = .ok (.ireturn, 1) := by decide +kernel
theorem dX8_having_0 : decode cX8_having 0 = .ok (.aload_n 0, 1) := by decide +kernel
theorem dX8_having_1 : decode cX8_having 1 = .ok (.aload_n 0, 1) := by decide +kernel
theorem dX8_having_2 : decode cX8_having 2 = .ok (.iload_n 1, 1) := by decide +kernel
theorem dX8_having_3 : decode cX8_having 3 = .ok (.invokevirtual 268, 3) := by decide +kernel
theorem dX8_having_6 : decode cX8_having 6 = .ok (.invokevirtual 91, 3) := by decide +kernel
theorem dX8_having_9 : decode cX8_having 9 = .ok (.ifCond .ne 5, 3) := by decide +kernel
theorem dX8_having_12 : decode cX8_having 12 = .ok (.iconst 0, 1) := by decide +kernel
theorem dX8_having_13 : decode cX8_having 13 = .ok (.ireturn, 1) := by decide +kernel
theorem dX8_having_14 : decode cX8_having 14 = .ok (.aload_n 0, 1) := by decide +kernel
theorem dX8_having_15 : decode cX8_having 15 = .ok (.iload_n 1, 1) := by decide +kernel
theorem dX8_having_16 : decode cX8_having 16 = .ok (.invokevirtual 242, 3) := by decide +kernel
theorem dX8_having_19 : decode cX8_having 19 = .ok (.aload_n 0, 1) := by decide +kernel
theorem dX8_having_20 : decode cX8_having 20 = .ok (.invokevirtual 274, 3) := by decide +kernel
theorem dX8_having_23 : decode cX8_having 23 = .ok (.ireturn, 1) := by decide +kernel
theorem dX8_nearest_0 : decode cX8_nearest 0 = .ok (.iconst (-1), 1) := by decide +kernel
theorem dX8_nearest_1 : decode cX8_nearest 1 = .ok (.istore_n 2, 1) := by decide +kernel
theorem dX8_nearest_2 : decode cX8_nearest 2 = .ok (.iconst 0, 1) := by decide +kernel
theorem dX8_nearest_3 : decode cX8_nearest 3 = .ok (.istore_n 3, 1) := by decide +kernel
theorem dX8_nearest_4 : decode cX8_nearest 4 = .ok (.iconst 0, 1) := by decide +kernel
theorem dX8_nearest_5 : decode cX8_nearest 5 = .ok (.istore 4, 2) := by decide +kernel
theorem dX8_nearest_7 : decode cX8_nearest 7 = .ok (.iload 4, 2) := by decide +kernel
theorem dX8_nearest_9 : decode cX8_nearest 9 = .ok (.aload_n 0, 1) := by decide +kernel
theorem dX8_nearest_10 : decode cX8_nearest 10 = .ok (.iload_n 1, 1) := by decide +kernel
theorem dX8_nearest_11 : decode cX8_nearest 11 = .ok (.iconst 0, 1) := by decide +kernel
theorem dX8_nearest_12 : decode cX8_nearest 12 = .ok (.invokevirtual 166, 3) := by decide +kernel
theorem dX8_nearest_15 : decode cX8_nearest 15 = .ok (.if_icmp .ge 57, 3) := by decide +kernel
theorem dX8_nearest_18 : decode cX8_nearest 18 = .ok (.aload_n 0, 1) := by decide +kernel
theorem dX8_nearest_19 : decode cX8_nearest 19 = .ok (.iload_n 1, 1) := by decide +kernel
theorem dX8_nearest_20 : decode cX8_nearest 20 = .ok (.iload 4, 2) := by decide +kernel
theorem dX8_nearest_22 : decode cX8_nearest 22 = .ok (.invokevirtual 229, 3) := by decide +kernel
theorem dX8_nearest_25 : decode cX8_nearest 25 = .ok (.ifCond .ne 6, 3) := by decide +kernel
theorem dX8_nearest_28 : decode cX8_nearest 28 = .ok (.goto 38, 3) := by decide +kernel
theorem dX8_nearest_31 : decode cX8_nearest 31 = .ok (.aload_n 0, 1) := by decide +kernel
theorem dX8_nearest_32 : decode cX8_nearest 32 = .ok (.iload_n 1, 1) := by decide +kernel
theorem dX8_nearest_33 : decode cX8_nearest 33 = .ok (.iload 4, 2) := by decide +kernel
theorem dX8_nearest_35 : decode cX8_nearest 35 = .ok (.aload_n 0, 1) := by decide +kernel
theorem dX8_nearest_36 : decode cX8_nearest 36 = .ok (.getfield 20, 3) := by decide +kernel
theorem dX8_nearest_39 : decode cX8_nearest 39 = .ok (.iconst 2, 1) := by decide +kernel
theorem dX8_nearest_40 : decode cX8_nearest 40 = .ok (.iaload, 1) := by decide +kernel
theorem dX8_nearest_41 : decode cX8_nearest 41 = .ok (.invokevirtual 235, 3) := by decide +kernel
theorem dX8_nearest_44 : decode cX8_nearest 44 = .ok (.istore 5, 2) := by decide +kernel
theorem dX8_nearest_46 : decode cX8_nearest 46 = .ok (.iload_n 2, 1) := by decide +kernel
theorem dX8_nearest_47 : decode cX8_nearest 47 = .ok (.iconst (-1), 1) := by decide +kernel
theorem dX8_nearest_48 : decode cX8_nearest 48 = .ok (.if_icmp .eq 12, 3) := by decide +kernel
theorem dX8_nearest_51 : decode cX8_nearest 51 = .ok (.iload 5, 2) := by decide +kernel
theorem dX8_nearest_53 : decode cX8_nearest 53 = .ok (.iload_n 3, 1) := by decide +kernel
theorem dX8_nearest_54 : decode cX8_nearest 54 = .ok (.if_icmp .lt 6, 3) := by decide +kernel
theorem dX8_nearest_57 : decode cX8_nearest 57 = .ok (.goto 9, 3) := by decide +kernel
theorem dX8_nearest_60 : decode cX8_nearest 60 = .ok (.iload 4, 2) := by decide +kernel
theorem dX8_nearest_62 : decode cX8_nearest 62 = .ok (.istore_n 2, 1) := by decide +kernel
theorem dX8_nearest_63 : decode cX8_nearest 63 = .ok (.iload 5, 2) := by decide +kernel
theorem dX8_nearest_65 : decode cX8_nearest 65 = .ok (.istore_n 3, 1) := by decide +kernel
theorem dX8_nearest_66 : decode cX8_nearest 66 = .ok (.iinc 4 1, 3) := by decide +kernel
theorem dX8_nearest_69 : decode cX8_nearest 69 = .ok (.goto (-62), 3) := by decide +kernel
theorem dX8_nearest_72 : decode cX8_nearest 72 = .ok (.iload_n 2, 1) := by decide +kernel
theorem dX8_nearest_73 : decode cX8_nearest 73 = .ok (.ireturn, 1) := by decide +kernel
theorem dX8_closest_0 : decode cX8_closest 0 = .ok (.aload_n 0, 1) := by decide +kernel
theorem dX8_closest_1 : decode cX8_closest 1 = .ok (.aload_n 0, 1) := by decide +kernel
theorem dX8_closest_2 : decode cX8_closest 2 = .ok (.iload_n 1, 1) := by decide +kernel
theorem dX8_closest_3 : decode cX8_closest 3 = .ok (.invokevirtual 256, 3) := by decide +kernel
theorem dX8_closest_6 : decode cX8_closest 6 = .ok (.ifCond .eq 15, 3) := by decide +kernel
theorem dX8_closest_9 : decode cX8_closest 9 = .ok (.aload_n 0, 1) := by decide +kernel
theorem dX8_closest_10 : decode cX8_closest 10 = .ok (.iload_n 2, 1) := by decide +kernel
theorem dX8_closest_11 : decode cX8_closest 11 = .ok (.invokevirtual 268, 3) := by decide +kernel
theorem dX8_closest_14 : decode cX8_closest 14 = .ok (.ifCond .eq 7, 3) := by decide +kernel
theorem dX8_closest_17 : decode cX8_closest 17 = .ok (.iconst 1, 1) := by decide +kernel
theorem dX8_closest_18 : decode cX8_closest 18 = .ok (.goto 4, 3) := by decide +kernel
theorem dX8_closest_21 : decode cX8_closest 21 = .ok (.iconst 0, 1) := by decide +kernel
theorem dX8_closest_22 : decode cX8_closest 22 = .ok (.invokevirtual 91, 3) := by decide +kernel
theorem dX8_closest_25 : decode cX8_closest 25 = .ok (.ifCond .ne 5, 3) := by decide +kernel
theorem dX8_closest_28 : decode cX8_closest 28 = .ok (.iconst 0, 1) := by decide +kernel
theorem dX8_closest_29 : decode cX8_closest 29 = .ok (.ireturn, 1) := by decide +kernel
theorem dX8_closest_30 : decode cX8_closest 30 = .ok (.aload_n 0, 1) := by decide +kernel
theorem dX8_closest_31 : decode cX8_closest 31 = .ok (.iload_n 2, 1) := by decide +kernel
theorem dX8_closest_32 : decode cX8_closest 32 = .ok (.invokevirtual 242, 3) := by decide +kernel
theorem dX8_closest_35 : decode cX8_closest 35 = .ok (.aload_n 0, 1) := by decide +kernel
theorem dX8_closest_36 : decode cX8_closest 36 = .ok (.iload_n 1, 1) := by decide +kernel
theorem dX8_closest_37 : decode cX8_closest 37 = .ok (.invokevirtual 277, 3) := by decide +kernel
theorem dX8_closest_40 : decode cX8_closest 40 = .ok (.ireturn, 1) := by decide +kernel
theorem dX8_spread_0 : decode cX8_spread 0 = .ok (.aload_n 0, 1) := by decide +kernel
theorem dX8_spread_1 : decode cX8_spread 1 = .ok (.aload_n 0, 1) := by decide +kernel
theorem dX8_spread_2 : decode cX8_spread 2 = .ok (.iload_n 1, 1) := by decide +kernel
theorem dX8_spread_3 : decode cX8_spread 3 = .ok (.invokevirtual 268, 3) := by decide +kernel
theorem dX8_spread_6 : decode cX8_spread 6 = .ok (.invokevirtual 91, 3) := by decide +kernel
theorem dX8_spread_9 : decode cX8_spread 9 = .ok (.ifCond .ne 5, 3) := by decide +kernel
theorem dX8_spread_12 : decode cX8_spread 12 = .ok (.iconst 0, 1) := by decide +kernel
theorem dX8_spread_13 : decode cX8_spread 13 = .ok (.ireturn, 1) := by decide +kernel
theorem dX8_spread_14 : decode cX8_spread 14 = .ok (.aload_n 0, 1) := by decide +kernel
theorem dX8_spread_15 : decode cX8_spread 15 = .ok (.iload_n 1, 1) := by decide +kernel
theorem dX8_spread_16 : decode cX8_spread 16 = .ok (.invokevirtual 242, 3) := by decide +kernel
theorem dX8_spread_19 : decode cX8_spread 19 = .ok (.iconst (-1), 1) := by decide +kernel
theorem dX8_spread_20 : decode cX8_spread 20 = .ok (.istore_n 2, 1) := by decide +kernel
theorem dX8_spread_21 : decode cX8_spread 21 = .ok (.iconst 0, 1) := by decide +kernel
theorem dX8_spread_22 : decode cX8_spread 22 = .ok (.istore_n 3, 1) := by decide +kernel
theorem dX8_spread_23 : decode cX8_spread 23 = .ok (.iload_n 3, 1) := by decide +kernel
theorem dX8_spread_24 : decode cX8_spread 24 = .ok (.aload_n 0, 1) := by decide +kernel
theorem dX8_spread_25 : decode cX8_spread 25 = .ok (.getfield 20, 3) := by decide +kernel
theorem dX8_spread_28 : decode cX8_spread 28 = .ok (.iconst 0, 1) := by decide +kernel
theorem dX8_spread_29 : decode cX8_spread 29 = .ok (.iaload, 1) := by decide +kernel
theorem dX8_spread_30 : decode cX8_spread 30 = .ok (.if_icmp .ge 46, 3) := by decide +kernel
theorem dX8_spread_33 : decode cX8_spread 33 = .ok (.aload_n 0, 1) := by decide +kernel
theorem dX8_spread_34 : decode cX8_spread 34 = .ok (.iload_n 3, 1) := by decide +kernel
theorem dX8_spread_35 : decode cX8_spread 35 = .ok (.invokevirtual 226, 3) := by decide +kernel
theorem dX8_spread_38 : decode cX8_spread 38 = .ok (.ifCond .eq 6, 3) := by decide +kernel
theorem dX8_spread_41 : decode cX8_spread 41 = .ok (.goto 29, 3) := by decide +kernel
theorem dX8_spread_44 : decode cX8_spread 44 = .ok (.aload_n 0, 1) := by decide +kernel
theorem dX8_spread_45 : decode cX8_spread 45 = .ok (.iload_n 3, 1) := by decide +kernel
theorem dX8_spread_46 : decode cX8_spread 46 = .ok (.aload_n 0, 1) := by decide +kernel
theorem dX8_spread_47 : decode cX8_spread 47 = .ok (.getfield 20, 3) := by decide +kernel
theorem dX8_spread_50 : decode cX8_spread 50 = .ok (.iconst 2, 1) := by decide +kernel
theorem dX8_spread_51 : decode cX8_spread 51 = .ok (.iaload, 1) := by decide +kernel
theorem dX8_spread_52 : decode cX8_spread 52 = .ok (.invokevirtual 239, 3) := by decide +kernel
theorem dX8_spread_55 : decode cX8_spread 55 = .ok (.istore 4, 2) := by decide +kernel
theorem dX8_spread_57 : decode cX8_spread 57 = .ok (.iload 4, 2) := by decide +kernel
theorem dX8_spread_59 : decode cX8_spread 59 = .ok (.iload_n 2, 1) := by decide +kernel
theorem dX8_spread_60 : decode cX8_spread 60 = .ok (.if_icmp .le 8, 3) := by decide +kernel
theorem dX8_spread_63 : decode cX8_spread 63 = .ok (.iload 4, 2) := by decide +kernel
theorem dX8_spread_65 : decode cX8_spread 65 = .ok (.goto 4, 3) := by decide +kernel
theorem dX8_spread_68 : decode cX8_spread 68 = .ok (.iload_n 2, 1) := by decide +kernel
theorem dX8_spread_69 : decode cX8_spread 69 = .ok (.istore_n 2, 1) := by decide +kernel
theorem dX8_spread_70 : decode cX8_spread 70 = .ok (.iinc 3 1, 3) := by decide +kernel
theorem dX8_spread_73 : decode cX8_spread 73 = .ok (.goto (-50), 3) := by decide +kernel
theorem dX8_spread_76 : decode cX8_spread 76 = .ok (.iload_n 2, 1) := by decide +kernel
theorem dX8_spread_77 : decode cX8_spread 77 = .ok (.ireturn, 1) := by decide +kernel
theorem dX8_isAt_0 : decode cX8_isAt 0 = .ok (.iconst 0, 1) := by decide +kernel
theorem dX8_isAt_1 : decode cX8_isAt 1 = .ok (.istore_n 3, 1) := by decide +kernel
theorem dX8_isAt_2 : decode cX8_isAt 2 = .ok (.iconst 0, 1) := by decide +kernel
theorem dX8_isAt_3 : decode cX8_isAt 3 = .ok (.istore 4, 2) := by decide +kernel
theorem dX8_isAt_5 : decode cX8_isAt 5 = .ok (.iload 4, 2) := by decide +kernel
theorem dX8_isAt_7 : decode cX8_isAt 7 = .ok (.aload_n 0, 1) := by decide +kernel
theorem dX8_isAt_8 : decode cX8_isAt 8 = .ok (.iload_n 1, 1) := by decide +kernel
theorem dX8_isAt_9 : decode cX8_isAt 9 = .ok (.iconst 0, 1) := by decide +kernel
theorem dX8_isAt_10 : decode cX8_isAt 10 = .ok (.invokevirtual 166, 3) := by decide +kernel
theorem dX8_isAt_13 : decode cX8_isAt 13 = .ok (.if_icmp .ge 40, 3) := by decide +kernel
theorem dX8_isAt_16 : decode cX8_isAt 16 = .ok (.iload_n 3, 1) := by decide +kernel
theorem dX8_isAt_17 : decode cX8_isAt 17 = .ok (.ifCond .ne 24, 3) := by decide +kernel
theorem dX8_isAt_20 : decode cX8_isAt 20 = .ok (.aload_n 0, 1) := by decide +kernel
theorem dX8_isAt_21 : decode cX8_isAt 21 = .ok (.iload_n 1, 1) := by decide +kernel
theorem dX8_isAt_22 : decode cX8_isAt 22 = .ok (.iload 4, 2) := by decide +kernel
theorem dX8_isAt_24 : decode cX8_isAt 24 = .ok (.invokevirtual 229, 3) := by decide +kernel
theorem dX8_isAt_27 : decode cX8_isAt 27 = .ok (.ifCond .eq 18, 3) := by decide +kernel
theorem dX8_isAt_30 : decode cX8_isAt 30 = .ok (.aload_n 0, 1) := by decide +kernel
theorem dX8_isAt_31 : decode cX8_isAt 31 = .ok (.iload_n 1, 1) := by decide +kernel
theorem dX8_isAt_32 : decode cX8_isAt 32 = .ok (.iload 4, 2) := by decide +kernel
theorem dX8_isAt_34 : decode cX8_isAt 34 = .ok (.invokevirtual 265, 3) := by decide +kernel
theorem dX8_isAt_37 : decode cX8_isAt 37 = .ok (.iload_n 2, 1) := by decide +kernel
theorem dX8_isAt_38 : decode cX8_isAt 38 = .ok (.if_icmp .ne 7, 3) := by decide +kernel
theorem dX8_isAt_41 : decode cX8_isAt 41 = .ok (.iconst 1, 1) := by decide +kernel
theorem dX8_isAt_42 : decode cX8_isAt 42 = .ok (.goto 4, 3) := by decide +kernel
theorem dX8_isAt_45 : decode cX8_isAt 45 = .ok (.iconst 0, 1) := by decide +kernel
theorem dX8_isAt_46 : decode cX8_isAt 46 = .ok (.istore_n 3, 1) := by decide +kernel
theorem dX8_isAt_47 : decode cX8_isAt 47 = .ok (.iinc 4 1, 3) := by decide +kernel
theorem dX8_isAt_50 : decode cX8_isAt 50 = .ok (.goto (-45), 3) := by decide +kernel
theorem dX8_isAt_53 : decode cX8_isAt 53 = .ok (.iload_n 3, 1) := by decide +kernel
theorem dX8_isAt_54 : decode cX8_isAt 54 = .ok (.ireturn, 1) := by decide +kernel
theorem dX8_sharedAbove_0 : decode cX8_sharedAbove 0 = .ok (.iconst (-1), 1) := by decide +kernel
theorem dX8_sharedAbove_1 : decode cX8_sharedAbove 1 = .ok (.istore 4, 2) := by decide +kernel
theorem dX8_sharedAbove_3 : decode cX8_sharedAbove 3 = .ok (.iconst 0, 1) := by decide +kernel
theorem dX8_sharedAbove_4 : decode cX8_sharedAbove 4 = .ok (.istore 5, 2) := by decide +kernel
theorem dX8_sharedAbove_6 : decode cX8_sharedAbove 6 = .ok (.iload 5, 2) := by decide +kernel
theorem dX8_sharedAbove_8 : decode cX8_sharedAbove 8 = .ok (.aload_n 0, 1) := by decide +kernel
theorem dX8_sharedAbove_9 : decode cX8_sharedAbove 9 = .ok (.iload_n 1, 1) := by decide +kernel
theorem dX8_sharedAbove_10 : decode cX8_sharedAbove 10 = .ok (.iconst 0, 1) := by decide +kernel
theorem dX8_sharedAbove_11 : decode cX8_sharedAbove 11 = .ok (.invokevirtual 166, 3) := by decide +kernel
theorem dX8_sharedAbove_14 : decode cX8_sharedAbove 14 = .ok (.if_icmp .ge 64, 3) := by decide +kernel
theorem dX8_sharedAbove_17 : decode cX8_sharedAbove 17 = .ok (.aload_n 0, 1) := by decide +kernel
theorem dX8_sharedAbove_18 : decode cX8_sharedAbove 18 = .ok (.iload_n 1, 1) := by decide +kernel
theorem dX8_sharedAbove_19 : decode cX8_sharedAbove 19 = .ok (.iload 5, 2) := by decide +kernel
theorem dX8_sharedAbove_21 : decode cX8_sharedAbove 21 = .ok (.invokevirtual 229, 3) := by decide +kernel
theorem dX8_sharedAbove_24 : decode cX8_sharedAbove 24 = .ok (.ifCond .ne 6, 3) := by decide +kernel
theorem dX8_sharedAbove_27 : decode cX8_sharedAbove 27 = .ok (.goto 45, 3) := by decide +kernel
theorem dX8_sharedAbove_30 : decode cX8_sharedAbove 30 = .ok (.aload_n 0, 1) := by decide +kernel
theorem dX8_sharedAbove_31 : decode cX8_sharedAbove 31 = .ok (.iload_n 1, 1) := by decide +kernel
theorem dX8_sharedAbove_32 : decode cX8_sharedAbove 32 = .ok (.iload 5, 2) := by decide +kernel
theorem dX8_sharedAbove_34 : decode cX8_sharedAbove 34 = .ok (.invokevirtual 265, 3) := by decide +kernel
theorem dX8_sharedAbove_37 : decode cX8_sharedAbove 37 = .ok (.istore 6, 2) := by decide +kernel
theorem dX8_sharedAbove_39 : decode cX8_sharedAbove 39 = .ok (.iload 6, 2) := by decide +kernel
theorem dX8_sharedAbove_41 : decode cX8_sharedAbove 41 = .ok (.iload_n 3, 1) := by decide +kernel
theorem dX8_sharedAbove_42 : decode cX8_sharedAbove 42 = .ok (.if_icmp .le 30, 3) := by decide +kernel
theorem dX8_sharedAbove_45 : decode cX8_sharedAbove 45 = .ok (.iload 4, 2) := by decide +kernel
theorem dX8_sharedAbove_47 : decode cX8_sharedAbove 47 = .ok (.iconst (-1), 1) := by decide +kernel
theorem dX8_sharedAbove_48 : decode cX8_sharedAbove 48 = .ok (.if_icmp .eq 10, 3) := by decide +kernel
theorem dX8_sharedAbove_51 : decode cX8_sharedAbove 51 = .ok (.iload 6, 2) := by decide +kernel
theorem dX8_sharedAbove_53 : decode cX8_sharedAbove 53 = .ok (.iload 4, 2) := by decide +kernel
theorem dX8_sharedAbove_55 : decode cX8_sharedAbove 55 = .ok (.if_icmp .ge 17, 3) := by decide +kernel
theorem dX8_sharedAbove_58 : decode cX8_sharedAbove 58 = .ok (.aload_n 0, 1) := by decide +kernel
theorem dX8_sharedAbove_59 : decode cX8_sharedAbove 59 = .ok (.iload_n 2, 1) := by decide +kernel
theorem dX8_sharedAbove_60 : decode cX8_sharedAbove 60 = .ok (.iload 6, 2) := by decide +kernel
theorem dX8_sharedAbove_62 : decode cX8_sharedAbove 62 = .ok (.invokevirtual 280, 3) := by decide +kernel
theorem dX8_sharedAbove_65 : decode cX8_sharedAbove 65 = .ok (.ifCond .eq 7, 3) := by decide +kernel
theorem dX8_sharedAbove_68 : decode cX8_sharedAbove 68 = .ok (.iload 6, 2) := by decide +kernel
theorem dX8_sharedAbove_70 : decode cX8_sharedAbove 70 = .ok (.istore 4, 2) := by decide +kernel
theorem dX8_sharedAbove_72 : decode cX8_sharedAbove 72 = .ok (.iinc 5 1, 3) := by decide +kernel
theorem dX8_sharedAbove_75 : decode cX8_sharedAbove 75 = .ok (.goto (-69), 3) := by decide +kernel
theorem dX8_sharedAbove_78 : decode cX8_sharedAbove 78 = .ok (.iload 4, 2) := by decide +kernel
theorem dX8_sharedAbove_80 : decode cX8_sharedAbove 80 = .ok (.ireturn, 1) := by decide +kernel
theorem dX8_shared_0 : decode cX8_shared 0 = .ok (.aload_n 0, 1) := by decide +kernel
theorem dX8_shared_1 : decode cX8_shared 1 = .ok (.aload_n 0, 1) := by decide +kernel
theorem dX8_shared_2 : decode cX8_shared 2 = .ok (.iload_n 1, 1) := by decide +kernel
theorem dX8_shared_3 : decode cX8_shared 3 = .ok (.invokevirtual 256, 3) := by decide +kernel
theorem dX8_shared_6 : decode cX8_shared 6 = .ok (.ifCond .eq 15, 3) := by decide +kernel
theorem dX8_shared_9 : decode cX8_shared 9 = .ok (.aload_n 0, 1) := by decide +kernel
theorem dX8_shared_10 : decode cX8_shared 10 = .ok (.iload_n 2, 1) := by decide +kernel
theorem dX8_shared_11 : decode cX8_shared 11 = .ok (.invokevirtual 256, 3) := by decide +kernel
theorem dX8_shared_14 : decode cX8_shared 14 = .ok (.ifCond .eq 7, 3) := by decide +kernel
theorem dX8_shared_17 : decode cX8_shared 17 = .ok (.iconst 1, 1) := by decide +kernel
theorem dX8_shared_18 : decode cX8_shared 18 = .ok (.goto 4, 3) := by decide +kernel
theorem dX8_shared_21 : decode cX8_shared 21 = .ok (.iconst 0, 1) := by decide +kernel
theorem dX8_shared_22 : decode cX8_shared 22 = .ok (.invokevirtual 91, 3) := by decide +kernel
theorem dX8_shared_25 : decode cX8_shared 25 = .ok (.ifCond .ne 5, 3) := by decide +kernel
theorem dX8_shared_28 : decode cX8_shared 28 = .ok (.iconst 0, 1) := by decide +kernel
theorem dX8_shared_29 : decode cX8_shared 29 = .ok (.ireturn, 1) := by decide +kernel
theorem dX8_shared_30 : decode cX8_shared 30 = .ok (.iconst 0, 1) := by decide +kernel
theorem dX8_shared_31 : decode cX8_shared 31 = .ok (.istore_n 3, 1) := by decide +kernel
theorem dX8_shared_32 : decode cX8_shared 32 = .ok (.aload_n 0, 1) := by decide +kernel
theorem dX8_shared_33 : decode cX8_shared 33 = .ok (.iload_n 1, 1) := by decide +kernel
theorem dX8_shared_34 : decode cX8_shared 34 = .ok (.iload_n 2, 1) := by decide +kernel
theorem dX8_shared_35 : decode cX8_shared 35 = .ok (.iconst (-1), 1) := by decide +kernel
theorem dX8_shared_36 : decode cX8_shared 36 = .ok (.invokevirtual 283, 3) := by decide +kernel
theorem dX8_shared_39 : decode cX8_shared 39 = .ok (.istore 4, 2) := by decide +kernel
theorem dX8_shared_41 : decode cX8_shared 41 = .ok (.iload 4, 2) := by decide +kernel
theorem dX8_shared_43 : decode cX8_shared 43 = .ok (.iconst (-1), 1) := by decide +kernel
theorem dX8_shared_44 : decode cX8_shared 44 = .ok (.if_icmp .eq 19, 3) := by decide +kernel
theorem dX8_shared_47 : decode cX8_shared 47 = .ok (.iinc 3 1, 3) := by decide +kernel
theorem dX8_shared_50 : decode cX8_shared 50 = .ok (.aload_n 0, 1) := by decide +kernel
theorem dX8_shared_51 : decode cX8_shared 51 = .ok (.iload_n 1, 1) := by decide +kernel
theorem dX8_shared_52 : decode cX8_shared 52 = .ok (.iload_n 2, 1) := by decide +kernel
theorem dX8_shared_53 : decode cX8_shared 53 = .ok (.iload 4, 2) := by decide +kernel
theorem dX8_shared_55 : decode cX8_shared 55 = .ok (.invokevirtual 283, 3) := by decide +kernel
theorem dX8_shared_58 : decode cX8_shared 58 = .ok (.istore 4, 2) := by decide +kernel
theorem dX8_shared_60 : decode cX8_shared 60 = .ok (.goto (-19), 3) := by decide +kernel
theorem dX8_shared_63 : decode cX8_shared 63 = .ok (.iload_n 3, 1) := by decide +kernel
theorem dX8_shared_64 : decode cX8_shared 64 = .ok (.ireturn, 1) := by decide +kernel
theorem dX8_sharedAt_0 : decode cX8_sharedAt 0 = .ok (.aload_n 0, 1) := by decide +kernel
theorem dX8_sharedAt_1 : decode cX8_sharedAt 1 = .ok (.aload_n 0, 1) := by decide +kernel
theorem dX8_sharedAt_2 : decode cX8_sharedAt 2 = .ok (.iload_n 1, 1) := by decide +kernel
theorem dX8_sharedAt_3 : decode cX8_sharedAt 3 = .ok (.invokevirtual 256, 3) := by decide +kernel
theorem dX8_sharedAt_6 : decode cX8_sharedAt 6 = .ok (.ifCond .eq 15, 3) := by decide +kernel
theorem dX8_sharedAt_9 : decode cX8_sharedAt 9 = .ok (.aload_n 0, 1) := by decide +kernel
theorem dX8_sharedAt_10 : decode cX8_sharedAt 10 = .ok (.iload_n 2, 1) := by decide +kernel
theorem dX8_sharedAt_11 : decode cX8_sharedAt 11 = .ok (.invokevirtual 256, 3) := by decide +kernel
theorem dX8_sharedAt_14 : decode cX8_sharedAt 14 = .ok (.ifCond .eq 7, 3) := by decide +kernel
theorem dX8_sharedAt_17 : decode cX8_sharedAt 17 = .ok (.iconst 1, 1) := by decide +kernel
theorem dX8_sharedAt_18 : decode cX8_sharedAt 18 = .ok (.goto 4, 3) := by decide +kernel
theorem dX8_sharedAt_21 : decode cX8_sharedAt 21 = .ok (.iconst 0, 1) := by decide +kernel
theorem dX8_sharedAt_22 : decode cX8_sharedAt 22 = .ok (.invokevirtual 91, 3) := by decide +kernel
theorem dX8_sharedAt_25 : decode cX8_sharedAt 25 = .ok (.ifCond .ne 5, 3) := by decide +kernel
theorem dX8_sharedAt_28 : decode cX8_sharedAt 28 = .ok (.iconst 0, 1) := by decide +kernel
theorem dX8_sharedAt_29 : decode cX8_sharedAt 29 = .ok (.ireturn, 1) := by decide +kernel
theorem dX8_sharedAt_30 : decode cX8_sharedAt 30 = .ok (.iload_n 3, 1) := by decide +kernel
theorem dX8_sharedAt_31 : decode cX8_sharedAt 31 = .ok (.ifCond .ge 7, 3) := by decide +kernel
theorem dX8_sharedAt_34 : decode cX8_sharedAt 34 = .ok (.iconst (-1), 1) := by decide +kernel
theorem dX8_sharedAt_35 : decode cX8_sharedAt 35 = .ok (.goto 10, 3) := by decide +kernel
theorem dX8_sharedAt_38 : decode cX8_sharedAt 38 = .ok (.aload_n 0, 1) := by decide +kernel
theorem dX8_sharedAt_39 : decode cX8_sharedAt 39 = .ok (.iload_n 1, 1) := by decide +kernel
theorem dX8_sharedAt_40 : decode cX8_sharedAt 40 = .ok (.iload_n 2, 1) := by decide +kernel
theorem dX8_sharedAt_41 : decode cX8_sharedAt 41 = .ok (.iconst (-1), 1) := by decide +kernel
theorem dX8_sharedAt_42 : decode cX8_sharedAt 42 = .ok (.invokevirtual 283, 3) := by decide +kernel
theorem dX8_sharedAt_45 : decode cX8_sharedAt 45 = .ok (.istore 4, 2) := by decide +kernel
theorem dX8_sharedAt_47 : decode cX8_sharedAt 47 = .ok (.iconst 0, 1) := by decide +kernel
theorem dX8_sharedAt_48 : decode cX8_sharedAt 48 = .ok (.istore 5, 2) := by decide +kernel
theorem dX8_sharedAt_50 : decode cX8_sharedAt 50 = .ok (.iload 5, 2) := by decide +kernel
theorem dX8_sharedAt_52 : decode cX8_sharedAt 52 = .ok (.iload_n 3, 1) := by decide +kernel
theorem dX8_sharedAt_53 : decode cX8_sharedAt 53 = .ok (.if_icmp .ge 25, 3) := by decide +kernel
theorem dX8_sharedAt_56 : decode cX8_sharedAt 56 = .ok (.iload 4, 2) := by decide +kernel
theorem dX8_sharedAt_58 : decode cX8_sharedAt 58 = .ok (.iconst (-1), 1) := by decide +kernel
theorem dX8_sharedAt_59 : decode cX8_sharedAt 59 = .ok (.if_icmp .eq 19, 3) := by decide +kernel
theorem dX8_sharedAt_62 : decode cX8_sharedAt 62 = .ok (.aload_n 0, 1) := by decide +kernel
theorem dX8_sharedAt_63 : decode cX8_sharedAt 63 = .ok (.iload_n 1, 1) := by decide +kernel
theorem dX8_sharedAt_64 : decode cX8_sharedAt 64 = .ok (.iload_n 2, 1) := by decide +kernel
theorem dX8_sharedAt_65 : decode cX8_sharedAt 65 = .ok (.iload 4, 2) := by decide +kernel
theorem dX8_sharedAt_67 : decode cX8_sharedAt 67 = .ok (.invokevirtual 283, 3) := by decide +kernel
theorem dX8_sharedAt_70 : decode cX8_sharedAt 70 = .ok (.istore 4, 2) := by decide +kernel
theorem dX8_sharedAt_72 : decode cX8_sharedAt 72 = .ok (.iinc 5 1, 3) := by decide +kernel
theorem dX8_sharedAt_75 : decode cX8_sharedAt 75 = .ok (.goto (-25), 3) := by decide +kernel
theorem dX8_sharedAt_78 : decode cX8_sharedAt 78 = .ok (.iload 4, 2) := by decide +kernel
theorem dX8_sharedAt_80 : decode cX8_sharedAt 80 = .ok (.ireturn, 1) := by decide +kernel
theorem dX8_hitsOf_0 : decode cX8_hitsOf 0 = .ok (.iconst 0, 1) := by decide +kernel
theorem dX8_hitsOf_1 : decode cX8_hitsOf 1 = .ok (.istore_n 2, 1) := by decide +kernel
theorem dX8_hitsOf_2 : decode cX8_hitsOf 2 = .ok (.iconst 0, 1) := by decide +kernel
theorem dX8_hitsOf_3 : decode cX8_hitsOf 3 = .ok (.istore_n 3, 1) := by decide +kernel
theorem dX8_hitsOf_4 : decode cX8_hitsOf 4 = .ok (.iload_n 3, 1) := by decide +kernel
theorem dX8_hitsOf_5 : decode cX8_hitsOf 5 = .ok (.aload_n 0, 1) := by decide +kernel
theorem dX8_hitsOf_6 : decode cX8_hitsOf 6 = .ok (.getfield 20, 3) := by decide +kernel
theorem dX8_hitsOf_9 : decode cX8_hitsOf 9 = .ok (.iconst 0, 1) := by decide +kernel
theorem dX8_hitsOf_10 : decode cX8_hitsOf 10 = .ok (.iaload, 1) := by decide +kernel
theorem dX8_hitsOf_11 : decode cX8_hitsOf 11 = .ok (.if_icmp .ge 98, 3) := by decide +kernel
theorem dX8_hitsOf_14 : decode cX8_hitsOf 14 = .ok (.iconst 0, 1) := by decide +kernel
theorem dX8_hitsOf_15 : decode cX8_hitsOf 15 = .ok (.istore 4, 2) := by decide +kernel
theorem dX8_hitsOf_17 : decode cX8_hitsOf 17 = .ok (.iload 4, 2) := by decide +kernel
theorem dX8_hitsOf_19 : decode cX8_hitsOf 19 = .ok (.aload_n 0, 1) := by decide +kernel
theorem dX8_hitsOf_20 : decode cX8_hitsOf 20 = .ok (.iload_n 3, 1) := by decide +kernel
theorem dX8_hitsOf_21 : decode cX8_hitsOf 21 = .ok (.iconst 0, 1) := by decide +kernel
theorem dX8_hitsOf_22 : decode cX8_hitsOf 22 = .ok (.invokevirtual 166, 3) := by decide +kernel
theorem dX8_hitsOf_25 : decode cX8_hitsOf 25 = .ok (.if_icmp .ge 78, 3) := by decide +kernel
theorem dX8_hitsOf_28 : decode cX8_hitsOf 28 = .ok (.aload_n 0, 1) := by decide +kernel
theorem dX8_hitsOf_29 : decode cX8_hitsOf 29 = .ok (.iload_n 3, 1) := by decide +kernel
theorem dX8_hitsOf_30 : decode cX8_hitsOf 30 = .ok (.iload 4, 2) := by decide +kernel
theorem dX8_hitsOf_32 : decode cX8_hitsOf 32 = .ok (.invokevirtual 229, 3) := by decide +kernel
theorem dX8_hitsOf_35 : decode cX8_hitsOf 35 = .ok (.ifCond .eq 19, 3) := by decide +kernel
theorem dX8_hitsOf_38 : decode cX8_hitsOf 38 = .ok (.aload_n 0, 1) := by decide +kernel
theorem dX8_hitsOf_39 : decode cX8_hitsOf 39 = .ok (.iload_n 3, 1) := by decide +kernel
theorem dX8_hitsOf_40 : decode cX8_hitsOf 40 = .ok (.iload 4, 2) := by decide +kernel
theorem dX8_hitsOf_42 : decode cX8_hitsOf 42 = .ok (.aload_n 0, 1) := by decide +kernel
theorem dX8_hitsOf_43 : decode cX8_hitsOf 43 = .ok (.getfield 20, 3) := by decide +kernel
theorem dX8_hitsOf_46 : decode cX8_hitsOf 46 = .ok (.iconst 2, 1) := by decide +kernel
theorem dX8_hitsOf_47 : decode cX8_hitsOf 47 = .ok (.iaload, 1) := by decide +kernel
theorem dX8_hitsOf_48 : decode cX8_hitsOf 48 = .ok (.invokevirtual 235, 3) := by decide +kernel
theorem dX8_hitsOf_51 : decode cX8_hitsOf 51 = .ok (.goto 5, 3) := by decide +kernel
theorem dX8_hitsOf_54 : decode cX8_hitsOf 54 = .ok (.bipush 30, 2) := by decide +kernel
theorem dX8_hitsOf_56 : decode cX8_hitsOf 56 = .ok (.istore 5, 2) := by decide +kernel
theorem dX8_hitsOf_58 : decode cX8_hitsOf 58 = .ok (.iload 5, 2) := by decide +kernel
theorem dX8_hitsOf_60 : decode cX8_hitsOf 60 = .ok (.aload_n 0, 1) := by decide +kernel
theorem dX8_hitsOf_61 : decode cX8_hitsOf 61 = .ok (.getfield 20, 3) := by decide +kernel
theorem dX8_hitsOf_64 : decode cX8_hitsOf 64 = .ok (.iconst 3, 1) := by decide +kernel
theorem dX8_hitsOf_65 : decode cX8_hitsOf 65 = .ok (.iaload, 1) := by decide +kernel
theorem dX8_hitsOf_66 : decode cX8_hitsOf 66 = .ok (.if_icmp .le 6, 3) := by decide +kernel
theorem dX8_hitsOf_69 : decode cX8_hitsOf 69 = .ok (.goto 28, 3) := by decide +kernel
theorem dX8_hitsOf_72 : decode cX8_hitsOf 72 = .ok (.iload_n 2, 1) := by decide +kernel
theorem dX8_hitsOf_73 : decode cX8_hitsOf 73 = .ok (.iload_n 1, 1) := by decide +kernel
theorem dX8_hitsOf_74 : decode cX8_hitsOf 74 = .ok (.if_icmp .ne 20, 3) := by decide +kernel
theorem dX8_hitsOf_77 : decode cX8_hitsOf 77 = .ok (.aload_n 0, 1) := by decide +kernel
theorem dX8_hitsOf_78 : decode cX8_hitsOf 78 = .ok (.iload_n 3, 1) := by decide +kernel
theorem dX8_hitsOf_79 : decode cX8_hitsOf 79 = .ok (.putfield 286, 3) := by decide +kernel
theorem dX8_hitsOf_82 : decode cX8_hitsOf 82 = .ok (.aload_n 0, 1) := by decide +kernel
theorem dX8_hitsOf_83 : decode cX8_hitsOf 83 = .ok (.iload 4, 2) := by decide +kernel
theorem dX8_hitsOf_85 : decode cX8_hitsOf 85 = .ok (.putfield 289, 3) := by decide +kernel
theorem dX8_hitsOf_88 : decode cX8_hitsOf 88 = .ok (.aload_n 0, 1) := by decide +kernel
theorem dX8_hitsOf_89 : decode cX8_hitsOf 89 = .ok (.iload 5, 2) := by decide +kernel
theorem dX8_hitsOf_91 : decode cX8_hitsOf 91 = .ok (.putfield 292, 3) := by decide +kernel
theorem dX8_hitsOf_94 : decode cX8_hitsOf 94 = .ok (.iinc 2 1, 3) := by decide +kernel
theorem dX8_hitsOf_97 : decode cX8_hitsOf 97 = .ok (.iinc 4 1, 3) := by decide +kernel
theorem dX8_hitsOf_100 : decode cX8_hitsOf 100 = .ok (.goto (-83), 3) := by decide +kernel
theorem dX8_hitsOf_103 : decode cX8_hitsOf 103 = .ok (.iinc 3 1, 3) := by decide +kernel
theorem dX8_hitsOf_106 : decode cX8_hitsOf 106 = .ok (.goto (-102), 3) := by decide +kernel
theorem dX8_hitsOf_109 : decode cX8_hitsOf 109 = .ok (.iload_n 2, 1) := by decide +kernel
theorem dX8_hitsOf_110 : decode cX8_hitsOf 110 = .ok (.ireturn, 1) := by decide +kernel
theorem dX8_hits_0 : decode cX8_hits 0 = .ok (.aload_n 0, 1) := by decide +kernel
theorem dX8_hits_1 : decode cX8_hits 1 = .ok (.aload_n 0, 1) := by decide +kernel
theorem dX8_hits_2 : decode cX8_hits 2 = .ok (.iload_n 1, 1) := by decide +kernel
theorem dX8_hits_3 : decode cX8_hits 3 = .ok (.invokevirtual 268, 3) := by decide +kernel
theorem dX8_hits_6 : decode cX8_hits 6 = .ok (.invokevirtual 91, 3) := by decide +kernel
theorem dX8_hits_9 : decode cX8_hits 9 = .ok (.ifCond .ne 5, 3) := by decide +kernel
theorem dX8_hits_12 : decode cX8_hits 12 = .ok (.iconst 0, 1) := by decide +kernel
theorem dX8_hits_13 : decode cX8_hits 13 = .ok (.ireturn, 1) := by decide +kernel
theorem dX8_hits_14 : decode cX8_hits 14 = .ok (.aload_n 0, 1) := by decide +kernel
theorem dX8_hits_15 : decode cX8_hits 15 = .ok (.iload_n 1, 1) := by decide +kernel
theorem dX8_hits_16 : decode cX8_hits 16 = .ok (.invokevirtual 242, 3) := by decide +kernel
theorem dX8_hits_19 : decode cX8_hits 19 = .ok (.aload_n 0, 1) := by decide +kernel
theorem dX8_hits_20 : decode cX8_hits 20 = .ok (.iconst (-1), 1) := by decide +kernel
theorem dX8_hits_21 : decode cX8_hits 21 = .ok (.invokevirtual 295, 3) := by decide +kernel
theorem dX8_hits_24 : decode cX8_hits 24 = .ok (.ireturn, 1) := by decide +kernel
theorem dX8_hit_0 : decode cX8_hit 0 = .ok (.iconst 0, 1) := by decide +kernel
theorem dX8_hit_1 : decode cX8_hit 1 = .ok (.istore 4, 2) := by decide +kernel
theorem dX8_hit_3 : decode cX8_hit 3 = .ok (.aload_n 0, 1) := by decide +kernel
theorem dX8_hit_4 : decode cX8_hit 4 = .ok (.iload_n 1, 1) := by decide +kernel
theorem dX8_hit_5 : decode cX8_hit 5 = .ok (.invokevirtual 268, 3) := by decide +kernel
theorem dX8_hit_8 : decode cX8_hit 8 = .ok (.ifCond .eq 15, 3) := by decide +kernel
theorem dX8_hit_11 : decode cX8_hit 11 = .ok (.aload_n 0, 1) := by decide +kernel
theorem dX8_hit_12 : decode cX8_hit 12 = .ok (.iload_n 1, 1) := by decide +kernel
theorem dX8_hit_13 : decode cX8_hit 13 = .ok (.invokevirtual 242, 3) := by decide +kernel
theorem dX8_hit_16 : decode cX8_hit 16 = .ok (.aload_n 0, 1) := by decide +kernel
theorem dX8_hit_17 : decode cX8_hit 17 = .ok (.iload_n 2, 1) := by decide +kernel
theorem dX8_hit_18 : decode cX8_hit 18 = .ok (.invokevirtual 295, 3) := by decide +kernel
theorem dX8_hit_21 : decode cX8_hit 21 = .ok (.istore 4, 2) := by decide +kernel
theorem dX8_hit_23 : decode cX8_hit 23 = .ok (.aload_n 0, 1) := by decide +kernel
theorem dX8_hit_24 : decode cX8_hit 24 = .ok (.iload_n 2, 1) := by decide +kernel
theorem dX8_hit_25 : decode cX8_hit 25 = .ok (.i2l, 1) := by decide +kernel
theorem dX8_hit_26 : decode cX8_hit 26 = .ok (.lconst 0, 1) := by decide +kernel
theorem dX8_hit_27 : decode cX8_hit 27 = .ok (.iload 4, 2) := by decide +kernel
theorem dX8_hit_29 : decode cX8_hit 29 = .ok (.iconst 1, 1) := by decide +kernel
theorem dX8_hit_30 : decode cX8_hit 30 = .ok (.isub, 1) := by decide +kernel
theorem dX8_hit_31 : decode cX8_hit 31 = .ok (.i2l, 1) := by decide +kernel
theorem dX8_hit_32 : decode cX8_hit 32 = .ok (.invokestatic 99, 3) := by decide +kernel
theorem dX8_hit_35 : decode cX8_hit 35 = .ok (.iload_n 3, 1) := by decide +kernel
theorem dX8_hit_36 : decode cX8_hit 36 = .ok (.i2l, 1) := by decide +kernel
theorem dX8_hit_37 : decode cX8_hit 37 = .ok (.lconst 0, 1) := by decide +kernel
theorem dX8_hit_38 : decode cX8_hit 38 = .ok (.ldc2_w 298, 3) := by decide +kernel
theorem dX8_hit_41 : decode cX8_hit 41 = .ok (.invokestatic 99, 3) := by decide +kernel
theorem dX8_hit_44 : decode cX8_hit 44 = .ok (.invokevirtual 261, 3) := by decide +kernel
theorem dX8_hit_47 : decode cX8_hit 47 = .ok (.ifCond .ne 5, 3) := by decide +kernel
theorem dX8_hit_50 : decode cX8_hit 50 = .ok (.iconst 0, 1) := by decide +kernel
theorem dX8_hit_51 : decode cX8_hit 51 = .ok (.ireturn, 1) := by decide +kernel
theorem dX8_hit_52 : decode cX8_hit 52 = .ok (.iload_n 3, 1) := by decide +kernel
theorem dX8_hit_53 : decode cX8_hit 53 = .ok (.ifCond .ne 10, 3) := by decide +kernel
theorem dX8_hit_56 : decode cX8_hit 56 = .ok (.aload_n 0, 1) := by decide +kernel
theorem dX8_hit_57 : decode cX8_hit 57 = .ok (.getfield 286, 3) := by decide +kernel
theorem dX8_hit_60 : decode cX8_hit 60 = .ok (.goto 19, 3) := by decide +kernel
theorem dX8_hit_63 : decode cX8_hit 63 = .ok (.iload_n 3, 1) := by decide +kernel
theorem dX8_hit_64 : decode cX8_hit 64 = .ok (.iconst 1, 1) := by decide +kernel
theorem dX8_hit_65 : decode cX8_hit 65 = .ok (.if_icmp .ne 10, 3) := by decide +kernel
theorem dX8_hit_68 : decode cX8_hit 68 = .ok (.aload_n 0, 1) := by decide +kernel
theorem dX8_hit_69 : decode cX8_hit 69 = .ok (.getfield 289, 3) := by decide +kernel
theorem dX8_hit_72 : decode cX8_hit 72 = .ok (.goto 7, 3) := by decide +kernel
theorem dX8_hit_75 : decode cX8_hit 75 = .ok (.aload_n 0, 1) := by decide +kernel
theorem dX8_hit_76 : decode cX8_hit 76 = .ok (.getfield 292, 3) := by decide +kernel
theorem dX8_hit_79 : decode cX8_hit 79 = .ok (.ireturn, 1) := by decide +kernel
theorem dX8_times_0 : decode cX8_times 0 = .ok (.iconst 0, 1) := by decide +kernel
theorem dX8_times_1 : decode cX8_times 1 = .ok (.istore_n 2, 1) := by decide +kernel
theorem dX8_times_2 : decode cX8_times 2 = .ok (.iconst 0, 1) := by decide +kernel
theorem dX8_times_3 : decode cX8_times 3 = .ok (.istore_n 3, 1) := by decide +kernel
theorem dX8_times_4 : decode cX8_times 4 = .ok (.iload_n 3, 1) := by decide +kernel
theorem dX8_times_5 : decode cX8_times 5 = .ok (.aload_n 0, 1) := by decide +kernel
theorem dX8_times_6 : decode cX8_times 6 = .ok (.getfield 20, 3) := by decide +kernel
theorem dX8_times_9 : decode cX8_times 9 = .ok (.iconst 0, 1) := by decide +kernel
theorem dX8_times_10 : decode cX8_times 10 = .ok (.iaload, 1) := by decide +kernel
theorem dX8_times_11 : decode cX8_times 11 = .ok (.if_icmp .ge 61, 3) := by decide +kernel
theorem dX8_times_14 : decode cX8_times 14 = .ok (.iconst 0, 1) := by decide +kernel
theorem dX8_times_15 : decode cX8_times 15 = .ok (.istore 4, 2) := by decide +kernel
theorem dX8_times_17 : decode cX8_times 17 = .ok (.iload 4, 2) := by decide +kernel
theorem dX8_times_19 : decode cX8_times 19 = .ok (.aload_n 0, 1) := by decide +kernel
theorem dX8_times_20 : decode cX8_times 20 = .ok (.iload_n 3, 1) := by decide +kernel
theorem dX8_times_21 : decode cX8_times 21 = .ok (.iconst 0, 1) := by decide +kernel
theorem dX8_times_22 : decode cX8_times 22 = .ok (.invokevirtual 166, 3) := by decide +kernel
theorem dX8_times_25 : decode cX8_times 25 = .ok (.if_icmp .ge 41, 3) := by decide +kernel
theorem dX8_times_28 : decode cX8_times 28 = .ok (.iload_n 2, 1) := by decide +kernel
theorem dX8_times_29 : decode cX8_times 29 = .ok (.aload_n 0, 1) := by decide +kernel
theorem dX8_times_30 : decode cX8_times 30 = .ok (.iload_n 3, 1) := by decide +kernel
theorem dX8_times_31 : decode cX8_times 31 = .ok (.iload 4, 2) := by decide +kernel
theorem dX8_times_33 : decode cX8_times 33 = .ok (.invokevirtual 229, 3) := by decide +kernel
theorem dX8_times_36 : decode cX8_times 36 = .ok (.ifCond .eq 18, 3) := by decide +kernel
theorem dX8_times_39 : decode cX8_times 39 = .ok (.aload_n 0, 1) := by decide +kernel
theorem dX8_times_40 : decode cX8_times 40 = .ok (.iload_n 3, 1) := by decide +kernel
theorem dX8_times_41 : decode cX8_times 41 = .ok (.iload 4, 2) := by decide +kernel
theorem dX8_times_43 : decode cX8_times 43 = .ok (.invokevirtual 265, 3) := by decide +kernel
theorem dX8_times_46 : decode cX8_times 46 = .ok (.iload_n 1, 1) := by decide +kernel
theorem dX8_times_47 : decode cX8_times 47 = .ok (.if_icmp .ne 7, 3) := by decide +kernel
theorem dX8_times_50 : decode cX8_times 50 = .ok (.iconst 1, 1) := by decide +kernel
theorem dX8_times_51 : decode cX8_times 51 = .ok (.goto 4, 3) := by decide +kernel
theorem dX8_times_54 : decode cX8_times 54 = .ok (.iconst 0, 1) := by decide +kernel
theorem dX8_times_55 : decode cX8_times 55 = .ok (.invokestatic 84, 3) := by decide +kernel
theorem dX8_times_58 : decode cX8_times 58 = .ok (.iadd, 1) := by decide +kernel
theorem dX8_times_59 : decode cX8_times 59 = .ok (.istore_n 2, 1) := by decide +kernel
theorem dX8_times_60 : decode cX8_times 60 = .ok (.iinc 4 1, 3) := by decide +kernel
theorem dX8_times_63 : decode cX8_times 63 = .ok (.goto (-46), 3) := by decide +kernel
theorem dX8_times_66 : decode cX8_times 66 = .ok (.iinc 3 1, 3) := by decide +kernel
theorem dX8_times_69 : decode cX8_times 69 = .ok (.goto (-65), 3) := by decide +kernel
theorem dX8_times_72 : decode cX8_times 72 = .ok (.iload_n 2, 1) := by decide +kernel
theorem dX8_times_73 : decode cX8_times 73 = .ok (.ireturn, 1) := by decide +kernel
theorem dX8_laysTimes_0 : decode cX8_laysTimes 0 = .ok (.iconst 0, 1) := by decide +kernel
theorem dX8_laysTimes_1 : decode cX8_laysTimes 1 = .ok (.istore_n 1, 1) := by decide +kernel
theorem dX8_laysTimes_2 : decode cX8_laysTimes 2 = .ok (.iload_n 1, 1) := by decide +kernel
theorem dX8_laysTimes_3 : decode cX8_laysTimes 3 = .ok (.aload_n 0, 1) := by decide +kernel
theorem dX8_laysTimes_4 : decode cX8_laysTimes 4 = .ok (.invokevirtual 162, 3) := by decide +kernel
theorem dX8_laysTimes_7 : decode cX8_laysTimes 7 = .ok (.if_icmp .ge 16, 3) := by decide +kernel
theorem dX8_laysTimes_10 : decode cX8_laysTimes 10 = .ok (.aload_n 0, 1) := by decide +kernel
theorem dX8_laysTimes_11 : decode cX8_laysTimes 11 = .ok (.getfield 51, 3) := by decide +kernel
theorem dX8_laysTimes_14 : decode cX8_laysTimes 14 = .ok (.iload_n 1, 1) := by decide +kernel
theorem dX8_laysTimes_15 : decode cX8_laysTimes 15 = .ok (.iconst 0, 1) := by decide +kernel
theorem dX8_laysTimes_16 : decode cX8_laysTimes 16 = .ok (.iastore, 1) := by decide +kernel
theorem dX8_laysTimes_17 : decode cX8_laysTimes 17 = .ok (.iinc 1 1, 3) := by decide +kernel
theorem dX8_laysTimes_20 : decode cX8_laysTimes 20 = .ok (.goto (-18), 3) := by decide +kernel
theorem dX8_laysTimes_23 : decode cX8_laysTimes 23 = .ok (.iconst 0, 1) := by decide +kernel
theorem dX8_laysTimes_24 : decode cX8_laysTimes 24 = .ok (.istore_n 1, 1) := by decide +kernel
theorem dX8_laysTimes_25 : decode cX8_laysTimes 25 = .ok (.iload_n 1, 1) := by decide +kernel
theorem dX8_laysTimes_26 : decode cX8_laysTimes 26 = .ok (.aload_n 0, 1) := by decide +kernel
theorem dX8_laysTimes_27 : decode cX8_laysTimes 27 = .ok (.getfield 20, 3) := by decide +kernel
theorem dX8_laysTimes_30 : decode cX8_laysTimes 30 = .ok (.iconst 0, 1) := by decide +kernel
theorem dX8_laysTimes_31 : decode cX8_laysTimes 31 = .ok (.iaload, 1) := by decide +kernel
theorem dX8_laysTimes_32 : decode cX8_laysTimes 32 = .ok (.if_icmp .ge 51, 3) := by decide +kernel
theorem dX8_laysTimes_35 : decode cX8_laysTimes 35 = .ok (.iconst 0, 1) := by decide +kernel
theorem dX8_laysTimes_36 : decode cX8_laysTimes 36 = .ok (.istore_n 2, 1) := by decide +kernel
theorem dX8_laysTimes_37 : decode cX8_laysTimes 37 = .ok (.iload_n 2, 1) := by decide +kernel
theorem dX8_laysTimes_38 : decode cX8_laysTimes 38 = .ok (.aload_n 0, 1) := by decide +kernel
theorem dX8_laysTimes_39 : decode cX8_laysTimes 39 = .ok (.iload_n 1, 1) := by decide +kernel
theorem dX8_laysTimes_40 : decode cX8_laysTimes 40 = .ok (.iconst 0, 1) := by decide +kernel
theorem dX8_laysTimes_41 : decode cX8_laysTimes 41 = .ok (.invokevirtual 166, 3) := by decide +kernel
theorem dX8_laysTimes_44 : decode cX8_laysTimes 44 = .ok (.if_icmp .ge 33, 3) := by decide +kernel
theorem dX8_laysTimes_47 : decode cX8_laysTimes 47 = .ok (.aload_n 0, 1) := by decide +kernel
theorem dX8_laysTimes_48 : decode cX8_laysTimes 48 = .ok (.iload_n 1, 1) := by decide +kernel
theorem dX8_laysTimes_49 : decode cX8_laysTimes 49 = .ok (.iload_n 2, 1) := by decide +kernel
theorem dX8_laysTimes_50 : decode cX8_laysTimes 50 = .ok (.invokevirtual 229, 3) := by decide +kernel
theorem dX8_laysTimes_53 : decode cX8_laysTimes 53 = .ok (.ifCond .eq 18, 3) := by decide +kernel
theorem dX8_laysTimes_56 : decode cX8_laysTimes 56 = .ok (.aload_n 0, 1) := by decide +kernel
theorem dX8_laysTimes_57 : decode cX8_laysTimes 57 = .ok (.getfield 51, 3) := by decide +kernel
theorem dX8_laysTimes_60 : decode cX8_laysTimes 60 = .ok (.aload_n 0, 1) := by decide +kernel
theorem dX8_laysTimes_61 : decode cX8_laysTimes 61 = .ok (.iload_n 1, 1) := by decide +kernel
theorem dX8_laysTimes_62 : decode cX8_laysTimes 62 = .ok (.iload_n 2, 1) := by decide +kernel
theorem dX8_laysTimes_63 : decode cX8_laysTimes 63 = .ok (.invokevirtual 265, 3) := by decide +kernel
theorem dX8_laysTimes_66 : decode cX8_laysTimes 66 = .ok (.dup2, 1) := by decide +kernel
theorem dX8_laysTimes_67 : decode cX8_laysTimes 67 = .ok (.iaload, 1) := by decide +kernel
theorem dX8_laysTimes_68 : decode cX8_laysTimes 68 = .ok (.iconst 1, 1) := by decide +kernel
theorem dX8_laysTimes_69 : decode cX8_laysTimes 69 = .ok (.iadd, 1) := by decide +kernel
theorem dX8_laysTimes_70 : decode cX8_laysTimes 70 = .ok (.iastore, 1) := by decide +kernel
theorem dX8_laysTimes_71 : decode cX8_laysTimes 71 = .ok (.iinc 2 1, 3) := by decide +kernel
theorem dX8_laysTimes_74 : decode cX8_laysTimes 74 = .ok (.goto (-37), 3) := by decide +kernel
theorem dX8_laysTimes_77 : decode cX8_laysTimes 77 = .ok (.iinc 1 1, 3) := by decide +kernel
theorem dX8_laysTimes_80 : decode cX8_laysTimes 80 = .ok (.goto (-55), 3) := by decide +kernel
theorem dX8_laysTimes_83 : decode cX8_laysTimes 83 = .ok (.return_, 1) := by decide +kernel
theorem dX8_kinds_0 : decode cX8_kinds 0 = .ok (.aload_n 0, 1) := by decide +kernel
theorem dX8_kinds_1 : decode cX8_kinds 1 = .ok (.iconst 0, 1) := by decide +kernel
theorem dX8_kinds_2 : decode cX8_kinds 2 = .ok (.putfield 81, 3) := by decide +kernel
theorem dX8_kinds_5 : decode cX8_kinds 5 = .ok (.aload_n 0, 1) := by decide +kernel
theorem dX8_kinds_6 : decode cX8_kinds 6 = .ok (.invokevirtual 300, 3) := by decide +kernel
theorem dX8_kinds_9 : decode cX8_kinds 9 = .ok (.iconst 0, 1) := by decide +kernel
theorem dX8_kinds_10 : decode cX8_kinds 10 = .ok (.istore_n 1, 1) := by decide +kernel
theorem dX8_kinds_11 : decode cX8_kinds 11 = .ok (.iconst 0, 1) := by decide +kernel
theorem dX8_kinds_12 : decode cX8_kinds 12 = .ok (.istore_n 2, 1) := by decide +kernel
theorem dX8_kinds_13 : decode cX8_kinds 13 = .ok (.iload_n 2, 1) := by decide +kernel
theorem dX8_kinds_14 : decode cX8_kinds 14 = .ok (.aload_n 0, 1) := by decide +kernel
theorem dX8_kinds_15 : decode cX8_kinds 15 = .ok (.invokevirtual 162, 3) := by decide +kernel
theorem dX8_kinds_18 : decode cX8_kinds 18 = .ok (.if_icmp .ge 29, 3) := by decide +kernel
theorem dX8_kinds_21 : decode cX8_kinds 21 = .ok (.iload_n 1, 1) := by decide +kernel
theorem dX8_kinds_22 : decode cX8_kinds 22 = .ok (.aload_n 0, 1) := by decide +kernel
theorem dX8_kinds_23 : decode cX8_kinds 23 = .ok (.getfield 51, 3) := by decide +kernel
theorem dX8_kinds_26 : decode cX8_kinds 26 = .ok (.iload_n 2, 1) := by decide +kernel
theorem dX8_kinds_27 : decode cX8_kinds 27 = .ok (.iaload, 1) := by decide +kernel
theorem dX8_kinds_28 : decode cX8_kinds 28 = .ok (.ifCond .le 7, 3) := by decide +kernel
theorem dX8_kinds_31 : decode cX8_kinds 31 = .ok (.iconst 1, 1) := by decide +kernel
theorem dX8_kinds_32 : decode cX8_kinds 32 = .ok (.goto 4, 3) := by decide +kernel
theorem dX8_kinds_35 : decode cX8_kinds 35 = .ok (.iconst 0, 1) := by decide +kernel
theorem dX8_kinds_36 : decode cX8_kinds 36 = .ok (.invokestatic 84, 3) := by decide +kernel
theorem dX8_kinds_39 : decode cX8_kinds 39 = .ok (.iadd, 1) := by decide +kernel
theorem dX8_kinds_40 : decode cX8_kinds 40 = .ok (.istore_n 1, 1) := by decide +kernel
theorem dX8_kinds_41 : decode cX8_kinds 41 = .ok (.iinc 2 1, 3) := by decide +kernel
theorem dX8_kinds_44 : decode cX8_kinds 44 = .ok (.goto (-31), 3) := by decide +kernel
theorem dX8_kinds_47 : decode cX8_kinds 47 = .ok (.iload_n 1, 1) := by decide +kernel
theorem dX8_kinds_48 : decode cX8_kinds 48 = .ok (.ireturn, 1) := by decide +kernel
theorem dX8_timesOf_0 : decode cX8_timesOf 0 = .ok (.aload_n 0, 1) := by decide +kernel
theorem dX8_timesOf_1 : decode cX8_timesOf 1 = .ok (.aload_n 0, 1) := by decide +kernel
theorem dX8_timesOf_2 : decode cX8_timesOf 2 = .ok (.iload_n 1, 1) := by decide +kernel
theorem dX8_timesOf_3 : decode cX8_timesOf 3 = .ok (.invokevirtual 268, 3) := by decide +kernel
theorem dX8_timesOf_6 : decode cX8_timesOf 6 = .ok (.invokevirtual 91, 3) := by decide +kernel
theorem dX8_timesOf_9 : decode cX8_timesOf 9 = .ok (.ifCond .eq 11, 3) := by decide +kernel
theorem dX8_timesOf_12 : decode cX8_timesOf 12 = .ok (.aload_n 0, 1) := by decide +kernel
theorem dX8_timesOf_13 : decode cX8_timesOf 13 = .ok (.iload_n 1, 1) := by decide +kernel
theorem dX8_timesOf_14 : decode cX8_timesOf 14 = .ok (.invokevirtual 303, 3) := by decide +kernel
theorem dX8_timesOf_17 : decode cX8_timesOf 17 = .ok (.goto 4, 3) := by decide +kernel
theorem dX8_timesOf_20 : decode cX8_timesOf 20 = .ok (.iconst 0, 1) := by decide +kernel
theorem dX8_timesOf_21 : decode cX8_timesOf 21 = .ok (.ireturn, 1) := by decide +kernel
theorem dX8_commonest_0 : decode cX8_commonest 0 = .ok (.aload_n 0, 1) := by decide +kernel
theorem dX8_commonest_1 : decode cX8_commonest 1 = .ok (.iconst 0, 1) := by decide +kernel
theorem dX8_commonest_2 : decode cX8_commonest 2 = .ok (.putfield 81, 3) := by decide +kernel
theorem dX8_commonest_5 : decode cX8_commonest 5 = .ok (.aload_n 0, 1) := by decide +kernel
theorem dX8_commonest_6 : decode cX8_commonest 6 = .ok (.invokevirtual 300, 3) := by decide +kernel
theorem dX8_commonest_9 : decode cX8_commonest 9 = .ok (.iconst (-1), 1) := by decide +kernel
theorem dX8_commonest_10 : decode cX8_commonest 10 = .ok (.istore_n 1, 1) := by decide +kernel
theorem dX8_commonest_11 : decode cX8_commonest 11 = .ok (.iconst 0, 1) := by decide +kernel
theorem dX8_commonest_12 : decode cX8_commonest 12 = .ok (.istore_n 2, 1) := by decide +kernel
theorem dX8_commonest_13 : decode cX8_commonest 13 = .ok (.iload_n 2, 1) := by decide +kernel
theorem dX8_commonest_14 : decode cX8_commonest 14 = .ok (.aload_n 0, 1) := by decide +kernel
theorem dX8_commonest_15 : decode cX8_commonest 15 = .ok (.invokevirtual 162, 3) := by decide +kernel
theorem dX8_commonest_18 : decode cX8_commonest 18 = .ok (.if_icmp .ge 40, 3) := by decide +kernel
theorem dX8_commonest_21 : decode cX8_commonest 21 = .ok (.aload_n 0, 1) := by decide +kernel
theorem dX8_commonest_22 : decode cX8_commonest 22 = .ok (.getfield 51, 3) := by decide +kernel
theorem dX8_commonest_25 : decode cX8_commonest 25 = .ok (.iload_n 2, 1) := by decide +kernel
theorem dX8_commonest_26 : decode cX8_commonest 26 = .ok (.iaload, 1) := by decide +kernel
theorem dX8_commonest_27 : decode cX8_commonest 27 = .ok (.ifCond .le 25, 3) := by decide +kernel
theorem dX8_commonest_30 : decode cX8_commonest 30 = .ok (.iload_n 1, 1) := by decide +kernel
theorem dX8_commonest_31 : decode cX8_commonest 31 = .ok (.iconst (-1), 1) := by decide +kernel
theorem dX8_commonest_32 : decode cX8_commonest 32 = .ok (.if_icmp .eq 18, 3) := by decide +kernel
theorem dX8_commonest_35 : decode cX8_commonest 35 = .ok (.aload_n 0, 1) := by decide +kernel
theorem dX8_commonest_36 : decode cX8_commonest 36 = .ok (.getfield 51, 3) := by decide +kernel
theorem dX8_commonest_39 : decode cX8_commonest 39 = .ok (.iload_n 2, 1) := by decide +kernel
theorem dX8_commonest_40 : decode cX8_commonest 40 = .ok (.iaload, 1) := by decide +kernel
theorem dX8_commonest_41 : decode cX8_commonest 41 = .ok (.aload_n 0, 1) := by decide +kernel
theorem dX8_commonest_42 : decode cX8_commonest 42 = .ok (.getfield 51, 3) := by decide +kernel
theorem dX8_commonest_45 : decode cX8_commonest 45 = .ok (.iload_n 1, 1) := by decide +kernel
theorem dX8_commonest_46 : decode cX8_commonest 46 = .ok (.iaload, 1) := by decide +kernel
theorem dX8_commonest_47 : decode cX8_commonest 47 = .ok (.if_icmp .le 5, 3) := by decide +kernel
theorem dX8_commonest_50 : decode cX8_commonest 50 = .ok (.iload_n 2, 1) := by decide +kernel
theorem dX8_commonest_51 : decode cX8_commonest 51 = .ok (.istore_n 1, 1) := by decide +kernel
theorem dX8_commonest_52 : decode cX8_commonest 52 = .ok (.iinc 2 1, 3) := by decide +kernel
theorem dX8_commonest_55 : decode cX8_commonest 55 = .ok (.goto (-42), 3) := by decide +kernel
theorem dX8_commonest_58 : decode cX8_commonest 58 = .ok (.iload_n 1, 1) := by decide +kernel
theorem dX8_commonest_59 : decode cX8_commonest 59 = .ok (.ireturn, 1) := by decide +kernel
theorem dX8_numberOfSpelt_0 : decode cX8_numberOfSpelt 0 = .ok (.iconst 0, 1) := by decide +kernel
theorem dX8_numberOfSpelt_1 : decode cX8_numberOfSpelt 1 = .ok (.istore_n 1, 1) := by decide +kernel
theorem dX8_numberOfSpelt_2 : decode cX8_numberOfSpelt 2 = .ok (.iconst 0, 1) := by decide +kernel
theorem dX8_numberOfSpelt_3 : decode cX8_numberOfSpelt 3 = .ok (.istore_n 2, 1) := by decide +kernel
theorem dX8_numberOfSpelt_4 : decode cX8_numberOfSpelt 4 = .ok (.iload_n 2, 1) := by decide +kernel
theorem dX8_numberOfSpelt_5 : decode cX8_numberOfSpelt 5 = .ok (.aload_n 0, 1) := by decide +kernel
theorem dX8_numberOfSpelt_6 : decode cX8_numberOfSpelt 6 = .ok (.getfield 20, 3) := by decide +kernel
theorem dX8_numberOfSpelt_9 : decode cX8_numberOfSpelt 9 = .ok (.iconst 2, 1) := by decide +kernel
theorem dX8_numberOfSpelt_10 : decode cX8_numberOfSpelt 10 = .ok (.iaload, 1) := by decide +kernel
theorem dX8_numberOfSpelt_11 : decode cX8_numberOfSpelt 11 = .ok (.if_icmp .ge 25, 3) := by decide +kernel
theorem dX8_numberOfSpelt_14 : decode cX8_numberOfSpelt 14 = .ok (.aload_n 0, 1) := by decide +kernel
theorem dX8_numberOfSpelt_15 : decode cX8_numberOfSpelt 15 = .ok (.getfield 20, 3) := by decide +kernel
theorem dX8_numberOfSpelt_18 : decode cX8_numberOfSpelt 18 = .ok (.iconst 1, 1) := by decide +kernel
theorem dX8_numberOfSpelt_19 : decode cX8_numberOfSpelt 19 = .ok (.iaload, 1) := by decide +kernel
theorem dX8_numberOfSpelt_20 : decode cX8_numberOfSpelt 20 = .ok (.iload_n 1, 1) := by decide +kernel
theorem dX8_numberOfSpelt_21 : decode cX8_numberOfSpelt 21 = .ok (.imul, 1) := by decide +kernel
theorem dX8_numberOfSpelt_22 : decode cX8_numberOfSpelt 22 = .ok (.aload_n 0, 1) := by decide +kernel
theorem dX8_numberOfSpelt_23 : decode cX8_numberOfSpelt 23 = .ok (.getfield 45, 3) := by decide +kernel
theorem dX8_numberOfSpelt_26 : decode cX8_numberOfSpelt 26 = .ok (.iload_n 2, 1) := by decide +kernel
theorem dX8_numberOfSpelt_27 : decode cX8_numberOfSpelt 27 = .ok (.iaload, 1) := by decide +kernel
theorem dX8_numberOfSpelt_28 : decode cX8_numberOfSpelt 28 = .ok (.iadd, 1) := by decide +kernel
theorem dX8_numberOfSpelt_29 : decode cX8_numberOfSpelt 29 = .ok (.istore_n 1, 1) := by decide +kernel
theorem dX8_numberOfSpelt_30 : decode cX8_numberOfSpelt 30 = .ok (.iinc 2 1, 3) := by decide +kernel
theorem dX8_numberOfSpelt_33 : decode cX8_numberOfSpelt 33 = .ok (.goto (-29), 3) := by decide +kernel
theorem dX8_numberOfSpelt_36 : decode cX8_numberOfSpelt 36 = .ok (.iload_n 1, 1) := by decide +kernel
theorem dX8_numberOfSpelt_37 : decode cX8_numberOfSpelt 37 = .ok (.ireturn, 1) := by decide +kernel
theorem dX8_searches_0 : decode cX8_searches 0 = .ok (.aload_n 0, 1) := by decide +kernel
theorem dX8_searches_1 : decode cX8_searches 1 = .ok (.iconst (-1), 1) := by decide +kernel
theorem dX8_searches_2 : decode cX8_searches 2 = .ok (.putfield 306, 3) := by decide +kernel
theorem dX8_searches_5 : decode cX8_searches 5 = .ok (.aload_n 0, 1) := by decide +kernel
theorem dX8_searches_6 : decode cX8_searches 6 = .ok (.iconst 0, 1) := by decide +kernel
theorem dX8_searches_7 : decode cX8_searches 7 = .ok (.putfield 309, 3) := by decide +kernel
theorem dX8_searches_10 : decode cX8_searches 10 = .ok (.aload_n 0, 1) := by decide +kernel
theorem dX8_searches_11 : decode cX8_searches 11 = .ok (.iconst 0, 1) := by decide +kernel
theorem dX8_searches_12 : decode cX8_searches 12 = .ok (.putfield 312, 3) := by decide +kernel
theorem dX8_searches_15 : decode cX8_searches 15 = .ok (.aload_n 0, 1) := by decide +kernel
theorem dX8_searches_16 : decode cX8_searches 16 = .ok (.iconst 0, 1) := by decide +kernel
theorem dX8_searches_17 : decode cX8_searches 17 = .ok (.putfield 315, 3) := by decide +kernel
theorem dX8_searches_20 : decode cX8_searches 20 = .ok (.iconst 1, 1) := by decide +kernel
theorem dX8_searches_21 : decode cX8_searches 21 = .ok (.istore_n 1, 1) := by decide +kernel
theorem dX8_searches_22 : decode cX8_searches 22 = .ok (.aload_n 0, 1) := by decide +kernel
theorem dX8_searches_23 : decode cX8_searches 23 = .ok (.getfield 45, 3) := by decide +kernel
theorem dX8_searches_26 : decode cX8_searches 26 = .ok (.iconst 0, 1) := by decide +kernel
theorem dX8_searches_27 : decode cX8_searches 27 = .ok (.iconst 0, 1) := by decide +kernel
theorem dX8_searches_28 : decode cX8_searches 28 = .ok (.iastore, 1) := by decide +kernel
theorem dX8_searches_29 : decode cX8_searches 29 = .ok (.iload_n 1, 1) := by decide +kernel
theorem dX8_searches_30 : decode cX8_searches 30 = .ok (.ifCond .le 156, 3) := by decide +kernel
theorem dX8_searches_33 : decode cX8_searches 33 = .ok (.aload_n 0, 1) := by decide +kernel
theorem dX8_searches_34 : decode cX8_searches 34 = .ok (.dup, 1) := by decide +kernel
theorem dX8_searches_35 : decode cX8_searches 35 = .ok (.getfield 312, 3) := by decide +kernel
theorem dX8_searches_38 : decode cX8_searches 38 = .ok (.iconst 1, 1) := by decide +kernel
theorem dX8_searches_39 : decode cX8_searches 39 = .ok (.iadd, 1) := by decide +kernel
theorem dX8_searches_40 : decode cX8_searches 40 = .ok (.putfield 312, 3) := by decide +kernel
theorem dX8_searches_43 : decode cX8_searches 43 = .ok (.aload_n 0, 1) := by decide +kernel
theorem dX8_searches_44 : decode cX8_searches 44 = .ok (.iload_n 1, 1) := by decide +kernel
theorem dX8_searches_45 : decode cX8_searches 45 = .ok (.invokevirtual 245, 3) := by decide +kernel
theorem dX8_searches_48 : decode cX8_searches 48 = .ok (.istore_n 2, 1) := by decide +kernel
theorem dX8_searches_49 : decode cX8_searches 49 = .ok (.aload_n 0, 1) := by decide +kernel
theorem dX8_searches_50 : decode cX8_searches 50 = .ok (.getfield 306, 3) := by decide +kernel
theorem dX8_searches_53 : decode cX8_searches 53 = .ok (.iconst (-1), 1) := by decide +kernel
theorem dX8_searches_54 : decode cX8_searches 54 = .ok (.if_icmp .eq 15, 3) := by decide +kernel
theorem dX8_searches_57 : decode cX8_searches 57 = .ok (.iload_n 2, 1) := by decide +kernel
theorem dX8_searches_58 : decode cX8_searches 58 = .ok (.aload_n 0, 1) := by decide +kernel
theorem dX8_searches_59 : decode cX8_searches 59 = .ok (.getfield 309, 3) := by decide +kernel
theorem dX8_searches_62 : decode cX8_searches 62 = .ok (.if_icmp .lt 7, 3) := by decide +kernel
theorem dX8_searches_65 : decode cX8_searches 65 = .ok (.iconst 1, 1) := by decide +kernel
theorem dX8_searches_66 : decode cX8_searches 66 = .ok (.goto 4, 3) := by decide +kernel
theorem dX8_searches_69 : decode cX8_searches 69 = .ok (.iconst 0, 1) := by decide +kernel
theorem dX8_searches_70 : decode cX8_searches 70 = .ok (.istore_n 3, 1) := by decide +kernel
theorem dX8_searches_71 : decode cX8_searches 71 = .ok (.aload_n 0, 1) := by decide +kernel
theorem dX8_searches_72 : decode cX8_searches 72 = .ok (.dup, 1) := by decide +kernel
theorem dX8_searches_73 : decode cX8_searches 73 = .ok (.getfield 315, 3) := by decide +kernel
theorem dX8_searches_76 : decode cX8_searches 76 = .ok (.iload_n 3, 1) := by decide +kernel
theorem dX8_searches_77 : decode cX8_searches 77 = .ok (.invokestatic 84, 3) := by decide +kernel
theorem dX8_searches_80 : decode cX8_searches 80 = .ok (.iadd, 1) := by decide +kernel
theorem dX8_searches_81 : decode cX8_searches 81 = .ok (.putfield 315, 3) := by decide +kernel
theorem dX8_searches_84 : decode cX8_searches 84 = .ok (.iload_n 3, 1) := by decide +kernel
theorem dX8_searches_85 : decode cX8_searches 85 = .ok (.ifCond .ne 26, 3) := by decide +kernel
theorem dX8_searches_88 : decode cX8_searches 88 = .ok (.iload_n 1, 1) := by decide +kernel
theorem dX8_searches_89 : decode cX8_searches 89 = .ok (.aload_n 0, 1) := by decide +kernel
theorem dX8_searches_90 : decode cX8_searches 90 = .ok (.getfield 20, 3) := by decide +kernel
theorem dX8_searches_93 : decode cX8_searches 93 = .ok (.iconst 2, 1) := by decide +kernel
theorem dX8_searches_94 : decode cX8_searches 94 = .ok (.iaload, 1) := by decide +kernel
theorem dX8_searches_95 : decode cX8_searches 95 = .ok (.if_icmp .ne 16, 3) := by decide +kernel
theorem dX8_searches_98 : decode cX8_searches 98 = .ok (.aload_n 0, 1) := by decide +kernel
theorem dX8_searches_99 : decode cX8_searches 99 = .ok (.aload_n 0, 1) := by decide +kernel
theorem dX8_searches_100 : decode cX8_searches 100 = .ok (.invokevirtual 318, 3) := by decide +kernel
theorem dX8_searches_103 : decode cX8_searches 103 = .ok (.putfield 306, 3) := by decide +kernel
theorem dX8_searches_106 : decode cX8_searches 106 = .ok (.aload_n 0, 1) := by decide +kernel
theorem dX8_searches_107 : decode cX8_searches 107 = .ok (.iload_n 2, 1) := by decide +kernel
theorem dX8_searches_108 : decode cX8_searches 108 = .ok (.putfield 309, 3) := by decide +kernel
theorem dX8_searches_111 : decode cX8_searches 111 = .ok (.iload_n 3, 1) := by decide +kernel
theorem dX8_searches_112 : decode cX8_searches 112 = .ok (.ifCond .ne 26, 3) := by decide +kernel
theorem dX8_searches_115 : decode cX8_searches 115 = .ok (.iload_n 1, 1) := by decide +kernel
theorem dX8_searches_116 : decode cX8_searches 116 = .ok (.aload_n 0, 1) := by decide +kernel
theorem dX8_searches_117 : decode cX8_searches 117 = .ok (.getfield 20, 3) := by decide +kernel
theorem dX8_searches_120 : decode cX8_searches 120 = .ok (.iconst 2, 1) := by decide +kernel
theorem dX8_searches_121 : decode cX8_searches 121 = .ok (.iaload, 1) := by decide +kernel
theorem dX8_searches_122 : decode cX8_searches 122 = .ok (.if_icmp .ge 16, 3) := by decide +kernel
theorem dX8_searches_125 : decode cX8_searches 125 = .ok (.aload_n 0, 1) := by decide +kernel
theorem dX8_searches_126 : decode cX8_searches 126 = .ok (.getfield 45, 3) := by decide +kernel
theorem dX8_searches_129 : decode cX8_searches 129 = .ok (.iload_n 1, 1) := by decide +kernel
theorem dX8_searches_130 : decode cX8_searches 130 = .ok (.iconst 0, 1) := by decide +kernel
theorem dX8_searches_131 : decode cX8_searches 131 = .ok (.iastore, 1) := by decide +kernel
theorem dX8_searches_132 : decode cX8_searches 132 = .ok (.iinc 1 1, 3) := by decide +kernel
theorem dX8_searches_135 : decode cX8_searches 135 = .ok (.goto (-106), 3) := by decide +kernel
theorem dX8_searches_138 : decode cX8_searches 138 = .ok (.iload_n 1, 1) := by decide +kernel
theorem dX8_searches_139 : decode cX8_searches 139 = .ok (.ifCond .le 28, 3) := by decide +kernel
theorem dX8_searches_142 : decode cX8_searches 142 = .ok (.aload_n 0, 1) := by decide +kernel
theorem dX8_searches_143 : decode cX8_searches 143 = .ok (.getfield 45, 3) := by decide +kernel
theorem dX8_searches_146 : decode cX8_searches 146 = .ok (.iload_n 1, 1) := by decide +kernel
theorem dX8_searches_147 : decode cX8_searches 147 = .ok (.iconst 1, 1) := by decide +kernel
theorem dX8_searches_148 : decode cX8_searches 148 = .ok (.isub, 1) := by decide +kernel
theorem dX8_searches_149 : decode cX8_searches 149 = .ok (.iaload, 1) := by decide +kernel
theorem dX8_searches_150 : decode cX8_searches 150 = .ok (.aload_n 0, 1) := by decide +kernel
theorem dX8_searches_151 : decode cX8_searches 151 = .ok (.getfield 20, 3) := by decide +kernel
theorem dX8_searches_154 : decode cX8_searches 154 = .ok (.iconst 1, 1) := by decide +kernel
theorem dX8_searches_155 : decode cX8_searches 155 = .ok (.iaload, 1) := by decide +kernel
theorem dX8_searches_156 : decode cX8_searches 156 = .ok (.iconst 1, 1) := by decide +kernel
theorem dX8_searches_157 : decode cX8_searches 157 = .ok (.isub, 1) := by decide +kernel
theorem dX8_searches_158 : decode cX8_searches 158 = .ok (.if_icmp .ne 9, 3) := by decide +kernel
theorem dX8_searches_161 : decode cX8_searches 161 = .ok (.iinc 1 (-1), 3) := by decide +kernel
theorem dX8_searches_164 : decode cX8_searches 164 = .ok (.goto (-26), 3) := by decide +kernel
theorem dX8_searches_167 : decode cX8_searches 167 = .ok (.iload_n 1, 1) := by decide +kernel
theorem dX8_searches_168 : decode cX8_searches 168 = .ok (.ifCond .le 15, 3) := by decide +kernel
theorem dX8_searches_171 : decode cX8_searches 171 = .ok (.aload_n 0, 1) := by decide +kernel
theorem dX8_searches_172 : decode cX8_searches 172 = .ok (.getfield 45, 3) := by decide +kernel
theorem dX8_searches_175 : decode cX8_searches 175 = .ok (.iload_n 1, 1) := by decide +kernel
theorem dX8_searches_176 : decode cX8_searches 176 = .ok (.iconst 1, 1) := by decide +kernel
theorem dX8_searches_177 : decode cX8_searches 177 = .ok (.isub, 1) := by decide +kernel
theorem dX8_searches_178 : decode cX8_searches 178 = .ok (.dup2, 1) := by decide +kernel
theorem dX8_searches_179 : decode cX8_searches 179 = .ok (.iaload, 1) := by decide +kernel
theorem dX8_searches_180 : decode cX8_searches 180 = .ok (.iconst 1, 1) := by decide +kernel
theorem dX8_searches_181 : decode cX8_searches 181 = .ok (.iadd, 1) := by decide +kernel
theorem dX8_searches_182 : decode cX8_searches 182 = .ok (.iastore, 1) := by decide +kernel
theorem dX8_searches_183 : decode cX8_searches 183 = .ok (.goto (-154), 3) := by decide +kernel
theorem dX8_searches_186 : decode cX8_searches 186 = .ok (.return_, 1) := by decide +kernel
theorem dX8_best_0 : decode cX8_best 0 = .ok (.aload_n 0, 1) := by decide +kernel
theorem dX8_best_1 : decode cX8_best 1 = .ok (.iload_n 1, 1) := by decide +kernel
theorem dX8_best_2 : decode cX8_best 2 = .ok (.i2l, 1) := by decide +kernel
theorem dX8_best_3 : decode cX8_best 3 = .ok (.lconst 0, 1) := by decide +kernel
theorem dX8_best_4 : decode cX8_best 4 = .ok (.ldc2_w 321, 3) := by decide +kernel
theorem dX8_best_7 : decode cX8_best 7 = .ok (.invokestatic 99, 3) := by decide +kernel
theorem dX8_best_10 : decode cX8_best 10 = .ok (.invokevirtual 91, 3) := by decide +kernel
theorem dX8_best_13 : decode cX8_best 13 = .ok (.ifCond .ne 5, 3) := by decide +kernel
theorem dX8_best_16 : decode cX8_best 16 = .ok (.iconst 0, 1) := by decide +kernel
theorem dX8_best_17 : decode cX8_best 17 = .ok (.ireturn, 1) := by decide +kernel
theorem dX8_best_18 : decode cX8_best 18 = .ok (.aload_n 0, 1) := by decide +kernel
theorem dX8_best_19 : decode cX8_best 19 = .ok (.invokevirtual 323, 3) := by decide +kernel
theorem dX8_best_22 : decode cX8_best 22 = .ok (.iload_n 1, 1) := by decide +kernel
theorem dX8_best_23 : decode cX8_best 23 = .ok (.ifCond .ne 10, 3) := by decide +kernel
theorem dX8_best_26 : decode cX8_best 26 = .ok (.aload_n 0, 1) := by decide +kernel
theorem dX8_best_27 : decode cX8_best 27 = .ok (.getfield 306, 3) := by decide +kernel
theorem dX8_best_30 : decode cX8_best 30 = .ok (.goto 31, 3) := by decide +kernel
theorem dX8_best_33 : decode cX8_best 33 = .ok (.iload_n 1, 1) := by decide +kernel
theorem dX8_best_34 : decode cX8_best 34 = .ok (.iconst 1, 1) := by decide +kernel
theorem dX8_best_35 : decode cX8_best 35 = .ok (.if_icmp .ne 10, 3) := by decide +kernel
theorem dX8_best_38 : decode cX8_best 38 = .ok (.aload_n 0, 1) := by decide +kernel
theorem dX8_best_39 : decode cX8_best 39 = .ok (.getfield 309, 3) := by decide +kernel
theorem dX8_best_42 : decode cX8_best 42 = .ok (.goto 19, 3) := by decide +kernel
theorem dX8_best_45 : decode cX8_best 45 = .ok (.iload_n 1, 1) := by decide +kernel
theorem dX8_best_46 : decode cX8_best 46 = .ok (.iconst 2, 1) := by decide +kernel
theorem dX8_best_47 : decode cX8_best 47 = .ok (.if_icmp .ne 10, 3) := by decide +kernel
theorem dX8_best_50 : decode cX8_best 50 = .ok (.aload_n 0, 1) := by decide +kernel
theorem dX8_best_51 : decode cX8_best 51 = .ok (.getfield 312, 3) := by decide +kernel
theorem dX8_best_54 : decode cX8_best 54 = .ok (.goto 7, 3) := by decide +kernel
theorem dX8_best_57 : decode cX8_best 57 = .ok (.aload_n 0, 1) := by decide +kernel
theorem dX8_best_58 : decode cX8_best 58 = .ok (.getfield 315, 3) := by decide +kernel
theorem dX8_best_61 : decode cX8_best 61 = .ok (.ireturn, 1) := by decide +kernel
theorem dX8_bound_0 : decode cX8_bound 0 = .ok (.aload_n 0, 1) := by decide +kernel
theorem dX8_bound_1 : decode cX8_bound 1 = .ok (.aload_n 0, 1) := by decide +kernel
theorem dX8_bound_2 : decode cX8_bound 2 = .ok (.iload_n 1, 1) := by decide +kernel
theorem dX8_bound_3 : decode cX8_bound 3 = .ok (.invokevirtual 268, 3) := by decide +kernel
theorem dX8_bound_6 : decode cX8_bound 6 = .ok (.iload_n 2, 1) := by decide +kernel
theorem dX8_bound_7 : decode cX8_bound 7 = .ok (.i2l, 1) := by decide +kernel
theorem dX8_bound_8 : decode cX8_bound 8 = .ok (.lconst 1, 1) := by decide +kernel
theorem dX8_bound_9 : decode cX8_bound 9 = .ok (.aload_n 0, 1) := by decide +kernel
theorem dX8_bound_10 : decode cX8_bound 10 = .ok (.getfield 20, 3) := by decide +kernel
theorem dX8_bound_13 : decode cX8_bound 13 = .ok (.iconst 2, 1) := by decide +kernel
theorem dX8_bound_14 : decode cX8_bound 14 = .ok (.iaload, 1) := by decide +kernel
theorem dX8_bound_15 : decode cX8_bound 15 = .ok (.i2l, 1) := by decide +kernel
theorem dX8_bound_16 : decode cX8_bound 16 = .ok (.invokestatic 99, 3) := by decide +kernel
theorem dX8_bound_19 : decode cX8_bound 19 = .ok (.invokevirtual 261, 3) := by decide +kernel
theorem dX8_bound_22 : decode cX8_bound 22 = .ok (.ifCond .ne 5, 3) := by decide +kernel
theorem dX8_bound_25 : decode cX8_bound 25 = .ok (.iconst 0, 1) := by decide +kernel
theorem dX8_bound_26 : decode cX8_bound 26 = .ok (.ireturn, 1) := by decide +kernel
theorem dX8_bound_27 : decode cX8_bound 27 = .ok (.aload_n 0, 1) := by decide +kernel
theorem dX8_bound_28 : decode cX8_bound 28 = .ok (.iload_n 1, 1) := by decide +kernel
theorem dX8_bound_29 : decode cX8_bound 29 = .ok (.invokevirtual 242, 3) := by decide +kernel
theorem dX8_bound_32 : decode cX8_bound 32 = .ok (.aload_n 0, 1) := by decide +kernel
theorem dX8_bound_33 : decode cX8_bound 33 = .ok (.iload_n 2, 1) := by decide +kernel
theorem dX8_bound_34 : decode cX8_bound 34 = .ok (.invokevirtual 245, 3) := by decide +kernel
theorem dX8_bound_37 : decode cX8_bound 37 = .ok (.ireturn, 1) := by decide +kernel
theorem dX8_mostHad_0 : decode cX8_mostHad 0 = .ok (.aload_n 0, 1) := by decide +kernel
theorem dX8_mostHad_1 : decode cX8_mostHad 1 = .ok (.iload_n 1, 1) := by decide +kernel
theorem dX8_mostHad_2 : decode cX8_mostHad 2 = .ok (.i2l, 1) := by decide +kernel
theorem dX8_mostHad_3 : decode cX8_mostHad 3 = .ok (.lconst 0, 1) := by decide +kernel
theorem dX8_mostHad_4 : decode cX8_mostHad 4 = .ok (.lconst 1, 1) := by decide +kernel
theorem dX8_mostHad_5 : decode cX8_mostHad 5 = .ok (.invokestatic 99, 3) := by decide +kernel
theorem dX8_mostHad_8 : decode cX8_mostHad 8 = .ok (.invokevirtual 91, 3) := by decide +kernel
theorem dX8_mostHad_11 : decode cX8_mostHad 11 = .ok (.ifCond .ne 5, 3) := by decide +kernel
theorem dX8_mostHad_14 : decode cX8_mostHad 14 = .ok (.iconst 0, 1) := by decide +kernel
theorem dX8_mostHad_15 : decode cX8_mostHad 15 = .ok (.ireturn, 1) := by decide +kernel
theorem dX8_mostHad_16 : decode cX8_mostHad 16 = .ok (.iconst (-1), 1) := by decide +kernel
theorem dX8_mostHad_17 : decode cX8_mostHad 17 = .ok (.istore_n 2, 1) := by decide +kernel
theorem dX8_mostHad_18 : decode cX8_mostHad 18 = .ok (.iconst 0, 1) := by decide +kernel
theorem dX8_mostHad_19 : decode cX8_mostHad 19 = .ok (.istore_n 3, 1) := by decide +kernel
theorem dX8_mostHad_20 : decode cX8_mostHad 20 = .ok (.iconst 0, 1) := by decide +kernel
theorem dX8_mostHad_21 : decode cX8_mostHad 21 = .ok (.istore 4, 2) := by decide +kernel
theorem dX8_mostHad_23 : decode cX8_mostHad 23 = .ok (.iconst 0, 1) := by decide +kernel
theorem dX8_mostHad_24 : decode cX8_mostHad 24 = .ok (.istore 5, 2) := by decide +kernel
theorem dX8_mostHad_26 : decode cX8_mostHad 26 = .ok (.iload 5, 2) := by decide +kernel
theorem dX8_mostHad_28 : decode cX8_mostHad 28 = .ok (.aload_n 0, 1) := by decide +kernel
theorem dX8_mostHad_29 : decode cX8_mostHad 29 = .ok (.invokevirtual 162, 3) := by decide +kernel
theorem dX8_mostHad_32 : decode cX8_mostHad 32 = .ok (.if_icmp .ge 63, 3) := by decide +kernel
theorem dX8_mostHad_35 : decode cX8_mostHad 35 = .ok (.aload_n 0, 1) := by decide +kernel
theorem dX8_mostHad_36 : decode cX8_mostHad 36 = .ok (.iload 5, 2) := by decide +kernel
theorem dX8_mostHad_38 : decode cX8_mostHad 38 = .ok (.invokevirtual 271, 3) := by decide +kernel
theorem dX8_mostHad_41 : decode cX8_mostHad 41 = .ok (.istore 6, 2) := by decide +kernel
theorem dX8_mostHad_43 : decode cX8_mostHad 43 = .ok (.aload_n 0, 1) := by decide +kernel
theorem dX8_mostHad_44 : decode cX8_mostHad 44 = .ok (.invokevirtual 274, 3) := by decide +kernel
theorem dX8_mostHad_47 : decode cX8_mostHad 47 = .ok (.invokestatic 253, 3) := by decide +kernel
theorem dX8_mostHad_50 : decode cX8_mostHad 50 = .ok (.istore 7, 2) := by decide +kernel
theorem dX8_mostHad_52 : decode cX8_mostHad 52 = .ok (.iload_n 2, 1) := by decide +kernel
theorem dX8_mostHad_53 : decode cX8_mostHad 53 = .ok (.iconst (-1), 1) := by decide +kernel
theorem dX8_mostHad_54 : decode cX8_mostHad 54 = .ok (.if_icmp .eq 25, 3) := by decide +kernel
theorem dX8_mostHad_57 : decode cX8_mostHad 57 = .ok (.iload 7, 2) := by decide +kernel
theorem dX8_mostHad_59 : decode cX8_mostHad 59 = .ok (.iload_n 3, 1) := by decide +kernel
theorem dX8_mostHad_60 : decode cX8_mostHad 60 = .ok (.if_icmp .lt 29, 3) := by decide +kernel
theorem dX8_mostHad_63 : decode cX8_mostHad 63 = .ok (.iload 7, 2) := by decide +kernel
theorem dX8_mostHad_65 : decode cX8_mostHad 65 = .ok (.iload_n 3, 1) := by decide +kernel
theorem dX8_mostHad_66 : decode cX8_mostHad 66 = .ok (.if_icmp .ne 13, 3) := by decide +kernel
theorem dX8_mostHad_69 : decode cX8_mostHad 69 = .ok (.iload 6, 2) := by decide +kernel
theorem dX8_mostHad_71 : decode cX8_mostHad 71 = .ok (.iload 4, 2) := by decide +kernel
theorem dX8_mostHad_73 : decode cX8_mostHad 73 = .ok (.if_icmp .lt 6, 3) := by decide +kernel
theorem dX8_mostHad_76 : decode cX8_mostHad 76 = .ok (.goto 13, 3) := by decide +kernel
theorem dX8_mostHad_79 : decode cX8_mostHad 79 = .ok (.iload 5, 2) := by decide +kernel
theorem dX8_mostHad_81 : decode cX8_mostHad 81 = .ok (.istore_n 2, 1) := by decide +kernel
theorem dX8_mostHad_82 : decode cX8_mostHad 82 = .ok (.iload 7, 2) := by decide +kernel
theorem dX8_mostHad_84 : decode cX8_mostHad 84 = .ok (.istore_n 3, 1) := by decide +kernel
theorem dX8_mostHad_85 : decode cX8_mostHad 85 = .ok (.iload 6, 2) := by decide +kernel
theorem dX8_mostHad_87 : decode cX8_mostHad 87 = .ok (.istore 4, 2) := by decide +kernel
theorem dX8_mostHad_89 : decode cX8_mostHad 89 = .ok (.iinc 5 1, 3) := by decide +kernel
theorem dX8_mostHad_92 : decode cX8_mostHad 92 = .ok (.goto (-66), 3) := by decide +kernel
theorem dX8_mostHad_95 : decode cX8_mostHad 95 = .ok (.iload_n 1, 1) := by decide +kernel
theorem dX8_mostHad_96 : decode cX8_mostHad 96 = .ok (.ifCond .ne 7, 3) := by decide +kernel
theorem dX8_mostHad_99 : decode cX8_mostHad 99 = .ok (.iload_n 2, 1) := by decide +kernel
theorem dX8_mostHad_100 : decode cX8_mostHad 100 = .ok (.goto 4, 3) := by decide +kernel
theorem dX8_mostHad_103 : decode cX8_mostHad 103 = .ok (.iload_n 3, 1) := by decide +kernel
theorem dX8_mostHad_104 : decode cX8_mostHad 104 = .ok (.ireturn, 1) := by decide +kernel
theorem dX8_without_0 : decode cX8_without 0 = .ok (.aload_n 0, 1) := by decide +kernel
theorem dX8_without_1 : decode cX8_without 1 = .ok (.iload_n 1, 1) := by decide +kernel
theorem dX8_without_2 : decode cX8_without 2 = .ok (.iconst 2, 1) := by decide +kernel
theorem dX8_without_3 : decode cX8_without 3 = .ok (.invokevirtual 166, 3) := by decide +kernel
theorem dX8_without_6 : decode cX8_without 6 = .ok (.istore_n 2, 1) := by decide +kernel
theorem dX8_without_7 : decode cX8_without 7 = .ok (.aload_n 0, 1) := by decide +kernel
theorem dX8_without_8 : decode cX8_without 8 = .ok (.iload_n 1, 1) := by decide +kernel
theorem dX8_without_9 : decode cX8_without 9 = .ok (.iconst 2, 1) := by decide +kernel
theorem dX8_without_10 : decode cX8_without 10 = .ok (.iconst 1, 1) := by decide +kernel
theorem dX8_without_11 : decode cX8_without 11 = .ok (.invokevirtual 179, 3) := by decide +kernel
theorem dX8_without_14 : decode cX8_without 14 = .ok (.aload_n 0, 1) := by decide +kernel
theorem dX8_without_15 : decode cX8_without 15 = .ok (.invokevirtual 323, 3) := by decide +kernel
theorem dX8_without_18 : decode cX8_without 18 = .ok (.aload_n 0, 1) := by decide +kernel
theorem dX8_without_19 : decode cX8_without 19 = .ok (.iload_n 1, 1) := by decide +kernel
theorem dX8_without_20 : decode cX8_without 20 = .ok (.iconst 2, 1) := by decide +kernel
theorem dX8_without_21 : decode cX8_without 21 = .ok (.iload_n 2, 1) := by decide +kernel
theorem dX8_without_22 : decode cX8_without 22 = .ok (.invokevirtual 179, 3) := by decide +kernel
theorem dX8_without_25 : decode cX8_without 25 = .ok (.aload_n 0, 1) := by decide +kernel
theorem dX8_without_26 : decode cX8_without 26 = .ok (.getfield 309, 3) := by decide +kernel
theorem dX8_without_29 : decode cX8_without 29 = .ok (.ireturn, 1) := by decide +kernel
theorem dX8_scoreWithout_0 : decode cX8_scoreWithout 0 = .ok (.aload_n 0, 1) := by decide +kernel
theorem dX8_scoreWithout_1 : decode cX8_scoreWithout 1 = .ok (.aload_n 0, 1) := by decide +kernel
theorem dX8_scoreWithout_2 : decode cX8_scoreWithout 2 = .ok (.iload_n 1, 1) := by decide +kernel
theorem dX8_scoreWithout_3 : decode cX8_scoreWithout 3 = .ok (.invokevirtual 256, 3) := by decide +kernel
theorem dX8_scoreWithout_6 : decode cX8_scoreWithout 6 = .ok (.invokevirtual 91, 3) := by decide +kernel
theorem dX8_scoreWithout_9 : decode cX8_scoreWithout 9 = .ok (.ifCond .eq 11, 3) := by decide +kernel
theorem dX8_scoreWithout_12 : decode cX8_scoreWithout 12 = .ok (.aload_n 0, 1) := by decide +kernel
theorem dX8_scoreWithout_13 : decode cX8_scoreWithout 13 = .ok (.iload_n 1, 1) := by decide +kernel
theorem dX8_scoreWithout_14 : decode cX8_scoreWithout 14 = .ok (.invokevirtual 326, 3) := by decide +kernel
theorem dX8_scoreWithout_17 : decode cX8_scoreWithout 17 = .ok (.goto 4, 3) := by decide +kernel
theorem dX8_scoreWithout_20 : decode cX8_scoreWithout 20 = .ok (.iconst 0, 1) := by decide +kernel
theorem dX8_scoreWithout_21 : decode cX8_scoreWithout 21 = .ok (.ireturn, 1) := by decide +kernel
theorem dX8_outlier_0 : decode cX8_outlier 0 = .ok (.aload_n 0, 1) := by decide +kernel
theorem dX8_outlier_1 : decode cX8_outlier 1 = .ok (.iconst 0, 1) := by decide +kernel
theorem dX8_outlier_2 : decode cX8_outlier 2 = .ok (.putfield 81, 3) := by decide +kernel
theorem dX8_outlier_5 : decode cX8_outlier 5 = .ok (.iconst (-1), 1) := by decide +kernel
theorem dX8_outlier_6 : decode cX8_outlier 6 = .ok (.istore_n 1, 1) := by decide +kernel
theorem dX8_outlier_7 : decode cX8_outlier 7 = .ok (.iconst 0, 1) := by decide +kernel
theorem dX8_outlier_8 : decode cX8_outlier 8 = .ok (.istore_n 2, 1) := by decide +kernel
theorem dX8_outlier_9 : decode cX8_outlier 9 = .ok (.iconst 0, 1) := by decide +kernel
theorem dX8_outlier_10 : decode cX8_outlier 10 = .ok (.istore_n 3, 1) := by decide +kernel
theorem dX8_outlier_11 : decode cX8_outlier 11 = .ok (.iload_n 3, 1) := by decide +kernel
theorem dX8_outlier_12 : decode cX8_outlier 12 = .ok (.aload_n 0, 1) := by decide +kernel
theorem dX8_outlier_13 : decode cX8_outlier 13 = .ok (.getfield 20, 3) := by decide +kernel
theorem dX8_outlier_16 : decode cX8_outlier 16 = .ok (.iconst 0, 1) := by decide +kernel
theorem dX8_outlier_17 : decode cX8_outlier 17 = .ok (.iaload, 1) := by decide +kernel
theorem dX8_outlier_18 : decode cX8_outlier 18 = .ok (.if_icmp .ge 46, 3) := by decide +kernel
theorem dX8_outlier_21 : decode cX8_outlier 21 = .ok (.aload_n 0, 1) := by decide +kernel
theorem dX8_outlier_22 : decode cX8_outlier 22 = .ok (.iload_n 3, 1) := by decide +kernel
theorem dX8_outlier_23 : decode cX8_outlier 23 = .ok (.invokevirtual 226, 3) := by decide +kernel
theorem dX8_outlier_26 : decode cX8_outlier 26 = .ok (.ifCond .eq 6, 3) := by decide +kernel
theorem dX8_outlier_29 : decode cX8_outlier 29 = .ok (.goto 29, 3) := by decide +kernel
theorem dX8_outlier_32 : decode cX8_outlier 32 = .ok (.aload_n 0, 1) := by decide +kernel
theorem dX8_outlier_33 : decode cX8_outlier 33 = .ok (.iload_n 3, 1) := by decide +kernel
theorem dX8_outlier_34 : decode cX8_outlier 34 = .ok (.invokevirtual 326, 3) := by decide +kernel
theorem dX8_outlier_37 : decode cX8_outlier 37 = .ok (.istore 4, 2) := by decide +kernel
theorem dX8_outlier_39 : decode cX8_outlier 39 = .ok (.iload_n 1, 1) := by decide +kernel
theorem dX8_outlier_40 : decode cX8_outlier 40 = .ok (.iconst (-1), 1) := by decide +kernel
theorem dX8_outlier_41 : decode cX8_outlier 41 = .ok (.if_icmp .eq 12, 3) := by decide +kernel
theorem dX8_outlier_44 : decode cX8_outlier 44 = .ok (.iload 4, 2) := by decide +kernel
theorem dX8_outlier_46 : decode cX8_outlier 46 = .ok (.iload_n 2, 1) := by decide +kernel
theorem dX8_outlier_47 : decode cX8_outlier 47 = .ok (.if_icmp .lt 6, 3) := by decide +kernel
theorem dX8_outlier_50 : decode cX8_outlier 50 = .ok (.goto 8, 3) := by decide +kernel
theorem dX8_outlier_53 : decode cX8_outlier 53 = .ok (.iload_n 3, 1) := by decide +kernel
theorem dX8_outlier_54 : decode cX8_outlier 54 = .ok (.istore_n 1, 1) := by decide +kernel
theorem dX8_outlier_55 : decode cX8_outlier 55 = .ok (.iload 4, 2) := by decide +kernel
theorem dX8_outlier_57 : decode cX8_outlier 57 = .ok (.istore_n 2, 1) := by decide +kernel
theorem dX8_outlier_58 : decode cX8_outlier 58 = .ok (.iinc 3 1, 3) := by decide +kernel
theorem dX8_outlier_61 : decode cX8_outlier 61 = .ok (.goto (-50), 3) := by decide +kernel
theorem dX8_outlier_64 : decode cX8_outlier 64 = .ok (.iload_n 1, 1) := by decide +kernel
theorem dX8_outlier_65 : decode cX8_outlier 65 = .ok (.ireturn, 1) := by decide +kernel
theorem dX8_laysScores_0 : decode cX8_laysScores 0 = .ok (.iconst 0, 1) := by decide +kernel
theorem dX8_laysScores_1 : decode cX8_laysScores 1 = .ok (.istore_n 1, 1) := by decide +kernel
theorem dX8_laysScores_2 : decode cX8_laysScores 2 = .ok (.iload_n 1, 1) := by decide +kernel
theorem dX8_laysScores_3 : decode cX8_laysScores 3 = .ok (.aload_n 0, 1) := by decide +kernel
theorem dX8_laysScores_4 : decode cX8_laysScores 4 = .ok (.invokevirtual 162, 3) := by decide +kernel
theorem dX8_laysScores_7 : decode cX8_laysScores 7 = .ok (.if_icmp .ge 20, 3) := by decide +kernel
theorem dX8_laysScores_10 : decode cX8_laysScores 10 = .ok (.aload_n 0, 1) := by decide +kernel
theorem dX8_laysScores_11 : decode cX8_laysScores 11 = .ok (.getfield 54, 3) := by decide +kernel
theorem dX8_laysScores_14 : decode cX8_laysScores 14 = .ok (.iload_n 1, 1) := by decide +kernel
theorem dX8_laysScores_15 : decode cX8_laysScores 15 = .ok (.aload_n 0, 1) := by decide +kernel
theorem dX8_laysScores_16 : decode cX8_laysScores 16 = .ok (.iload_n 1, 1) := by decide +kernel
theorem dX8_laysScores_17 : decode cX8_laysScores 17 = .ok (.invokevirtual 271, 3) := by decide +kernel
theorem dX8_laysScores_20 : decode cX8_laysScores 20 = .ok (.iastore, 1) := by decide +kernel
theorem dX8_laysScores_21 : decode cX8_laysScores 21 = .ok (.iinc 1 1, 3) := by decide +kernel
theorem dX8_laysScores_24 : decode cX8_laysScores 24 = .ok (.goto (-22), 3) := by decide +kernel
theorem dX8_laysScores_27 : decode cX8_laysScores 27 = .ok (.return_, 1) := by decide +kernel
theorem dX8_rank_0 : decode cX8_rank 0 = .ok (.iconst 0, 1) := by decide +kernel
theorem dX8_rank_1 : decode cX8_rank 1 = .ok (.istore_n 2, 1) := by decide +kernel
theorem dX8_rank_2 : decode cX8_rank 2 = .ok (.iconst 0, 1) := by decide +kernel
theorem dX8_rank_3 : decode cX8_rank 3 = .ok (.istore_n 3, 1) := by decide +kernel
theorem dX8_rank_4 : decode cX8_rank 4 = .ok (.iload_n 3, 1) := by decide +kernel
theorem dX8_rank_5 : decode cX8_rank 5 = .ok (.aload_n 0, 1) := by decide +kernel
theorem dX8_rank_6 : decode cX8_rank 6 = .ok (.invokevirtual 162, 3) := by decide +kernel
theorem dX8_rank_9 : decode cX8_rank 9 = .ok (.if_icmp .ge 55, 3) := by decide +kernel
theorem dX8_rank_12 : decode cX8_rank 12 = .ok (.iload_n 2, 1) := by decide +kernel
theorem dX8_rank_13 : decode cX8_rank 13 = .ok (.aload_n 0, 1) := by decide +kernel
theorem dX8_rank_14 : decode cX8_rank 14 = .ok (.getfield 54, 3) := by decide +kernel
theorem dX8_rank_17 : decode cX8_rank 17 = .ok (.iload_n 3, 1) := by decide +kernel
theorem dX8_rank_18 : decode cX8_rank 18 = .ok (.iaload, 1) := by decide +kernel
theorem dX8_rank_19 : decode cX8_rank 19 = .ok (.aload_n 0, 1) := by decide +kernel
theorem dX8_rank_20 : decode cX8_rank 20 = .ok (.getfield 54, 3) := by decide +kernel
theorem dX8_rank_23 : decode cX8_rank 23 = .ok (.iload_n 1, 1) := by decide +kernel
theorem dX8_rank_24 : decode cX8_rank 24 = .ok (.iaload, 1) := by decide +kernel
theorem dX8_rank_25 : decode cX8_rank 25 = .ok (.if_icmp .lt 23, 3) := by decide +kernel
theorem dX8_rank_28 : decode cX8_rank 28 = .ok (.aload_n 0, 1) := by decide +kernel
theorem dX8_rank_29 : decode cX8_rank 29 = .ok (.getfield 54, 3) := by decide +kernel
theorem dX8_rank_32 : decode cX8_rank 32 = .ok (.iload_n 3, 1) := by decide +kernel
theorem dX8_rank_33 : decode cX8_rank 33 = .ok (.iaload, 1) := by decide +kernel
theorem dX8_rank_34 : decode cX8_rank 34 = .ok (.aload_n 0, 1) := by decide +kernel
theorem dX8_rank_35 : decode cX8_rank 35 = .ok (.getfield 54, 3) := by decide +kernel
theorem dX8_rank_38 : decode cX8_rank 38 = .ok (.iload_n 1, 1) := by decide +kernel
theorem dX8_rank_39 : decode cX8_rank 39 = .ok (.iaload, 1) := by decide +kernel
theorem dX8_rank_40 : decode cX8_rank 40 = .ok (.if_icmp .ne 12, 3) := by decide +kernel
theorem dX8_rank_43 : decode cX8_rank 43 = .ok (.iload_n 3, 1) := by decide +kernel
theorem dX8_rank_44 : decode cX8_rank 44 = .ok (.iload_n 1, 1) := by decide +kernel
theorem dX8_rank_45 : decode cX8_rank 45 = .ok (.if_icmp .ge 7, 3) := by decide +kernel
theorem dX8_rank_48 : decode cX8_rank 48 = .ok (.iconst 1, 1) := by decide +kernel
theorem dX8_rank_49 : decode cX8_rank 49 = .ok (.goto 4, 3) := by decide +kernel
theorem dX8_rank_52 : decode cX8_rank 52 = .ok (.iconst 0, 1) := by decide +kernel
theorem dX8_rank_53 : decode cX8_rank 53 = .ok (.invokestatic 84, 3) := by decide +kernel
theorem dX8_rank_56 : decode cX8_rank 56 = .ok (.iadd, 1) := by decide +kernel
theorem dX8_rank_57 : decode cX8_rank 57 = .ok (.istore_n 2, 1) := by decide +kernel
theorem dX8_rank_58 : decode cX8_rank 58 = .ok (.iinc 3 1, 3) := by decide +kernel
theorem dX8_rank_61 : decode cX8_rank 61 = .ok (.goto (-57), 3) := by decide +kernel
theorem dX8_rank_64 : decode cX8_rank 64 = .ok (.iload_n 2, 1) := by decide +kernel
theorem dX8_rank_65 : decode cX8_rank 65 = .ok (.ireturn, 1) := by decide +kernel
theorem dX8_ranked_0 : decode cX8_ranked 0 = .ok (.aload_n 0, 1) := by decide +kernel
theorem dX8_ranked_1 : decode cX8_ranked 1 = .ok (.iconst 0, 1) := by decide +kernel
theorem dX8_ranked_2 : decode cX8_ranked 2 = .ok (.putfield 81, 3) := by decide +kernel
theorem dX8_ranked_5 : decode cX8_ranked 5 = .ok (.iload_n 1, 1) := by decide +kernel
theorem dX8_ranked_6 : decode cX8_ranked 6 = .ok (.i2l, 1) := by decide +kernel
theorem dX8_ranked_7 : decode cX8_ranked 7 = .ok (.lconst 0, 1) := by decide +kernel
theorem dX8_ranked_8 : decode cX8_ranked 8 = .ok (.aload_n 0, 1) := by decide +kernel
theorem dX8_ranked_9 : decode cX8_ranked 9 = .ok (.invokevirtual 162, 3) := by decide +kernel
theorem dX8_ranked_12 : decode cX8_ranked 12 = .ok (.iconst 1, 1) := by decide +kernel
theorem dX8_ranked_13 : decode cX8_ranked 13 = .ok (.isub, 1) := by decide +kernel
theorem dX8_ranked_14 : decode cX8_ranked 14 = .ok (.i2l, 1) := by decide +kernel
theorem dX8_ranked_15 : decode cX8_ranked 15 = .ok (.invokestatic 99, 3) := by decide +kernel
theorem dX8_ranked_18 : decode cX8_ranked 18 = .ok (.ifCond .ne 5, 3) := by decide +kernel
theorem dX8_ranked_21 : decode cX8_ranked 21 = .ok (.iconst (-1), 1) := by decide +kernel
theorem dX8_ranked_22 : decode cX8_ranked 22 = .ok (.ireturn, 1) := by decide +kernel
theorem dX8_ranked_23 : decode cX8_ranked 23 = .ok (.aload_n 0, 1) := by decide +kernel
theorem dX8_ranked_24 : decode cX8_ranked 24 = .ok (.invokevirtual 329, 3) := by decide +kernel
theorem dX8_ranked_27 : decode cX8_ranked 27 = .ok (.iload_n 1, 1) := by decide +kernel
theorem dX8_ranked_28 : decode cX8_ranked 28 = .ok (.istore_n 2, 1) := by decide +kernel
theorem dX8_ranked_29 : decode cX8_ranked 29 = .ok (.iconst 0, 1) := by decide +kernel
theorem dX8_ranked_30 : decode cX8_ranked 30 = .ok (.istore_n 3, 1) := by decide +kernel
theorem dX8_ranked_31 : decode cX8_ranked 31 = .ok (.iload_n 3, 1) := by decide +kernel
theorem dX8_ranked_32 : decode cX8_ranked 32 = .ok (.bipush 60, 2) := by decide +kernel
theorem dX8_ranked_34 : decode cX8_ranked 34 = .ok (.if_icmp .gt 51, 3) := by decide +kernel
theorem dX8_ranked_37 : decode cX8_ranked 37 = .ok (.iconst 0, 1) := by decide +kernel
theorem dX8_ranked_38 : decode cX8_ranked 38 = .ok (.istore 4, 2) := by decide +kernel
theorem dX8_ranked_40 : decode cX8_ranked 40 = .ok (.iload 4, 2) := by decide +kernel
theorem dX8_ranked_42 : decode cX8_ranked 42 = .ok (.aload_n 0, 1) := by decide +kernel
theorem dX8_ranked_43 : decode cX8_ranked 43 = .ok (.invokevirtual 162, 3) := by decide +kernel
theorem dX8_ranked_46 : decode cX8_ranked 46 = .ok (.if_icmp .ge 33, 3) := by decide +kernel
theorem dX8_ranked_49 : decode cX8_ranked 49 = .ok (.aload_n 0, 1) := by decide +kernel
theorem dX8_ranked_50 : decode cX8_ranked 50 = .ok (.getfield 54, 3) := by decide +kernel
theorem dX8_ranked_53 : decode cX8_ranked 53 = .ok (.iload 4, 2) := by decide +kernel
theorem dX8_ranked_55 : decode cX8_ranked 55 = .ok (.iaload, 1) := by decide +kernel
theorem dX8_ranked_56 : decode cX8_ranked 56 = .ok (.iload_n 3, 1) := by decide +kernel
theorem dX8_ranked_57 : decode cX8_ranked 57 = .ok (.if_icmp .eq 6, 3) := by decide +kernel
theorem dX8_ranked_60 : decode cX8_ranked 60 = .ok (.goto 13, 3) := by decide +kernel
theorem dX8_ranked_63 : decode cX8_ranked 63 = .ok (.iload_n 2, 1) := by decide +kernel
theorem dX8_ranked_64 : decode cX8_ranked 64 = .ok (.ifCond .ne 6, 3) := by decide +kernel
theorem dX8_ranked_67 : decode cX8_ranked 67 = .ok (.iload 4, 2) := by decide +kernel
theorem dX8_ranked_69 : decode cX8_ranked 69 = .ok (.ireturn, 1) := by decide +kernel
theorem dX8_ranked_70 : decode cX8_ranked 70 = .ok (.iinc 2 (-1), 3) := by decide +kernel
theorem dX8_ranked_73 : decode cX8_ranked 73 = .ok (.iinc 4 1, 3) := by decide +kernel
theorem dX8_ranked_76 : decode cX8_ranked 76 = .ok (.goto (-36), 3) := by decide +kernel
theorem dX8_ranked_79 : decode cX8_ranked 79 = .ok (.iinc 3 1, 3) := by decide +kernel
theorem dX8_ranked_82 : decode cX8_ranked 82 = .ok (.goto (-51), 3) := by decide +kernel
theorem dX8_ranked_85 : decode cX8_ranked 85 = .ok (.iconst (-1), 1) := by decide +kernel
theorem dX8_ranked_86 : decode cX8_ranked 86 = .ok (.ireturn, 1) := by decide +kernel
theorem dX8_rankOf_0 : decode cX8_rankOf 0 = .ok (.aload_n 0, 1) := by decide +kernel
theorem dX8_rankOf_1 : decode cX8_rankOf 1 = .ok (.aload_n 0, 1) := by decide +kernel
theorem dX8_rankOf_2 : decode cX8_rankOf 2 = .ok (.iload_n 1, 1) := by decide +kernel
theorem dX8_rankOf_3 : decode cX8_rankOf 3 = .ok (.invokevirtual 268, 3) := by decide +kernel
theorem dX8_rankOf_6 : decode cX8_rankOf 6 = .ok (.invokevirtual 91, 3) := by decide +kernel
theorem dX8_rankOf_9 : decode cX8_rankOf 9 = .ok (.ifCond .ne 5, 3) := by decide +kernel
theorem dX8_rankOf_12 : decode cX8_rankOf 12 = .ok (.iconst 0, 1) := by decide +kernel
theorem dX8_rankOf_13 : decode cX8_rankOf 13 = .ok (.ireturn, 1) := by decide +kernel
theorem dX8_rankOf_14 : decode cX8_rankOf 14 = .ok (.aload_n 0, 1) := by decide +kernel
theorem dX8_rankOf_15 : decode cX8_rankOf 15 = .ok (.invokevirtual 329, 3) := by decide +kernel
theorem dX8_rankOf_18 : decode cX8_rankOf 18 = .ok (.aload_n 0, 1) := by decide +kernel
theorem dX8_rankOf_19 : decode cX8_rankOf 19 = .ok (.iload_n 1, 1) := by decide +kernel
theorem dX8_rankOf_20 : decode cX8_rankOf 20 = .ok (.invokevirtual 332, 3) := by decide +kernel
theorem dX8_rankOf_23 : decode cX8_rankOf 23 = .ok (.ireturn, 1) := by decide +kernel
theorem dX8_second_0 : decode cX8_second 0 = .ok (.aload_n 0, 1) := by decide +kernel
theorem dX8_second_1 : decode cX8_second 1 = .ok (.iload_n 1, 1) := by decide +kernel
theorem dX8_second_2 : decode cX8_second 2 = .ok (.i2l, 1) := by decide +kernel
theorem dX8_second_3 : decode cX8_second 3 = .ok (.lconst 0, 1) := by decide +kernel
theorem dX8_second_4 : decode cX8_second 4 = .ok (.lconst 1, 1) := by decide +kernel
theorem dX8_second_5 : decode cX8_second 5 = .ok (.invokestatic 99, 3) := by decide +kernel
theorem dX8_second_8 : decode cX8_second 8 = .ok (.invokevirtual 91, 3) := by decide +kernel
theorem dX8_second_11 : decode cX8_second 11 = .ok (.ifCond .ne 5, 3) := by decide +kernel
theorem dX8_second_14 : decode cX8_second 14 = .ok (.iconst 0, 1) := by decide +kernel
theorem dX8_second_15 : decode cX8_second 15 = .ok (.ireturn, 1) := by decide +kernel
theorem dX8_second_16 : decode cX8_second 16 = .ok (.aload_n 0, 1) := by decide +kernel
theorem dX8_second_17 : decode cX8_second 17 = .ok (.invokevirtual 323, 3) := by decide +kernel
theorem dX8_second_20 : decode cX8_second 20 = .ok (.aload_n 0, 1) := by decide +kernel
theorem dX8_second_21 : decode cX8_second 21 = .ok (.aload_n 0, 1) := by decide +kernel
theorem dX8_second_22 : decode cX8_second 22 = .ok (.getfield 306, 3) := by decide +kernel
theorem dX8_second_25 : decode cX8_second 25 = .ok (.invokevirtual 335, 3) := by decide +kernel
theorem dX8_second_28 : decode cX8_second 28 = .ok (.ifCond .le 5, 3) := by decide +kernel
theorem dX8_second_31 : decode cX8_second 31 = .ok (.iconst (-1), 1) := by decide +kernel
theorem dX8_second_32 : decode cX8_second 32 = .ok (.ireturn, 1) := by decide +kernel
theorem dX8_second_33 : decode cX8_second 33 = .ok (.aload_n 0, 1) := by decide +kernel
theorem dX8_second_34 : decode cX8_second 34 = .ok (.invokevirtual 338, 3) := by decide +kernel
theorem dX8_second_37 : decode cX8_second 37 = .ok (.aload_n 0, 1) := by decide +kernel
theorem dX8_second_38 : decode cX8_second 38 = .ok (.aload_n 0, 1) := by decide +kernel
theorem dX8_second_39 : decode cX8_second 39 = .ok (.getfield 306, 3) := by decide +kernel
theorem dX8_second_42 : decode cX8_second 42 = .ok (.invokevirtual 341, 3) := by decide +kernel
theorem dX8_second_45 : decode cX8_second 45 = .ok (.istore_n 2, 1) := by decide +kernel
theorem dX8_second_46 : decode cX8_second 46 = .ok (.aload_n 0, 1) := by decide +kernel
theorem dX8_second_47 : decode cX8_second 47 = .ok (.invokevirtual 323, 3) := by decide +kernel
theorem dX8_second_50 : decode cX8_second 50 = .ok (.aload_n 0, 1) := by decide +kernel
theorem dX8_second_51 : decode cX8_second 51 = .ok (.invokevirtual 344, 3) := by decide +kernel
theorem dX8_second_54 : decode cX8_second 54 = .ok (.iload_n 1, 1) := by decide +kernel
theorem dX8_second_55 : decode cX8_second 55 = .ok (.ifCond .ne 10, 3) := by decide +kernel
theorem dX8_second_58 : decode cX8_second 58 = .ok (.aload_n 0, 1) := by decide +kernel
theorem dX8_second_59 : decode cX8_second 59 = .ok (.getfield 306, 3) := by decide +kernel
theorem dX8_second_62 : decode cX8_second 62 = .ok (.goto 7, 3) := by decide +kernel
theorem dX8_second_65 : decode cX8_second 65 = .ok (.aload_n 0, 1) := by decide +kernel
theorem dX8_second_66 : decode cX8_second 66 = .ok (.getfield 309, 3) := by decide +kernel
theorem dX8_second_69 : decode cX8_second 69 = .ok (.ireturn, 1) := by decide +kernel
theorem dX8_laysProfile_0 : decode cX8_laysProfile 0 = .ok (.iconst 0, 1) := by decide +kernel
theorem dX8_laysProfile_1 : decode cX8_laysProfile 1 = .ok (.istore_n 2, 1) := by decide +kernel
theorem dX8_laysProfile_2 : decode cX8_laysProfile 2 = .ok (.iload_n 2, 1) := by decide +kernel
theorem dX8_laysProfile_3 : decode cX8_laysProfile 3 = .ok (.bipush 24, 2) := by decide +kernel
theorem dX8_laysProfile_5 : decode cX8_laysProfile 5 = .ok (.if_icmp .ge 16, 3) := by decide +kernel
theorem dX8_laysProfile_8 : decode cX8_laysProfile 8 = .ok (.aload_n 0, 1) := by decide +kernel
theorem dX8_laysProfile_9 : decode cX8_laysProfile 9 = .ok (.getfield 57, 3) := by decide +kernel
theorem dX8_laysProfile_12 : decode cX8_laysProfile 12 = .ok (.iload_n 2, 1) := by decide +kernel
theorem dX8_laysProfile_13 : decode cX8_laysProfile 13 = .ok (.iconst 0, 1) := by decide +kernel
theorem dX8_laysProfile_14 : decode cX8_laysProfile 14 = .ok (.iastore, 1) := by decide +kernel
theorem dX8_laysProfile_15 : decode cX8_laysProfile 15 = .ok (.iinc 2 1, 3) := by decide +kernel
theorem dX8_laysProfile_18 : decode cX8_laysProfile 18 = .ok (.goto (-16), 3) := by decide +kernel
theorem dX8_laysProfile_21 : decode cX8_laysProfile 21 = .ok (.iconst 0, 1) := by decide +kernel
theorem dX8_laysProfile_22 : decode cX8_laysProfile 22 = .ok (.istore_n 2, 1) := by decide +kernel
theorem dX8_laysProfile_23 : decode cX8_laysProfile 23 = .ok (.iload_n 2, 1) := by decide +kernel
theorem dX8_laysProfile_24 : decode cX8_laysProfile 24 = .ok (.aload_n 0, 1) := by decide +kernel
theorem dX8_laysProfile_25 : decode cX8_laysProfile 25 = .ok (.getfield 20, 3) := by decide +kernel
theorem dX8_laysProfile_28 : decode cX8_laysProfile 28 = .ok (.iconst 0, 1) := by decide +kernel
theorem dX8_laysProfile_29 : decode cX8_laysProfile 29 = .ok (.iaload, 1) := by decide +kernel
theorem dX8_laysProfile_30 : decode cX8_laysProfile 30 = .ok (.if_icmp .ge 71, 3) := by decide +kernel
theorem dX8_laysProfile_33 : decode cX8_laysProfile 33 = .ok (.iload_n 2, 1) := by decide +kernel
theorem dX8_laysProfile_34 : decode cX8_laysProfile 34 = .ok (.iload_n 1, 1) := by decide +kernel
theorem dX8_laysProfile_35 : decode cX8_laysProfile 35 = .ok (.if_icmp .eq 60, 3) := by decide +kernel
theorem dX8_laysProfile_38 : decode cX8_laysProfile 38 = .ok (.aload_n 0, 1) := by decide +kernel
theorem dX8_laysProfile_39 : decode cX8_laysProfile 39 = .ok (.iload_n 2, 1) := by decide +kernel
theorem dX8_laysProfile_40 : decode cX8_laysProfile 40 = .ok (.iconst 1, 1) := by decide +kernel
theorem dX8_laysProfile_41 : decode cX8_laysProfile 41 = .ok (.invokevirtual 166, 3) := by decide +kernel
theorem dX8_laysProfile_44 : decode cX8_laysProfile 44 = .ok (.iconst (-1), 1) := by decide +kernel
theorem dX8_laysProfile_45 : decode cX8_laysProfile 45 = .ok (.if_icmp .ne 6, 3) := by decide +kernel
theorem dX8_laysProfile_48 : decode cX8_laysProfile 48 = .ok (.goto 47, 3) := by decide +kernel
theorem dX8_laysProfile_51 : decode cX8_laysProfile 51 = .ok (.iconst 0, 1) := by decide +kernel
theorem dX8_laysProfile_52 : decode cX8_laysProfile 52 = .ok (.istore_n 3, 1) := by decide +kernel
theorem dX8_laysProfile_53 : decode cX8_laysProfile 53 = .ok (.iload_n 3, 1) := by decide +kernel
theorem dX8_laysProfile_54 : decode cX8_laysProfile 54 = .ok (.aload_n 0, 1) := by decide +kernel
theorem dX8_laysProfile_55 : decode cX8_laysProfile 55 = .ok (.getfield 20, 3) := by decide +kernel
theorem dX8_laysProfile_58 : decode cX8_laysProfile 58 = .ok (.iconst 2, 1) := by decide +kernel
theorem dX8_laysProfile_59 : decode cX8_laysProfile 59 = .ok (.iaload, 1) := by decide +kernel
theorem dX8_laysProfile_60 : decode cX8_laysProfile 60 = .ok (.if_icmp .ge 35, 3) := by decide +kernel
theorem dX8_laysProfile_63 : decode cX8_laysProfile 63 = .ok (.aload_n 0, 1) := by decide +kernel
theorem dX8_laysProfile_64 : decode cX8_laysProfile 64 = .ok (.getfield 57, 3) := by decide +kernel
theorem dX8_laysProfile_67 : decode cX8_laysProfile 67 = .ok (.iconst 4, 1) := by decide +kernel
theorem dX8_laysProfile_68 : decode cX8_laysProfile 68 = .ok (.iload_n 3, 1) := by decide +kernel
theorem dX8_laysProfile_69 : decode cX8_laysProfile 69 = .ok (.imul, 1) := by decide +kernel
theorem dX8_laysProfile_70 : decode cX8_laysProfile 70 = .ok (.aload_n 0, 1) := by decide +kernel
theorem dX8_laysProfile_71 : decode cX8_laysProfile 71 = .ok (.iload_n 2, 1) := by decide +kernel
theorem dX8_laysProfile_72 : decode cX8_laysProfile 72 = .ok (.aload_n 0, 1) := by decide +kernel
theorem dX8_laysProfile_73 : decode cX8_laysProfile 73 = .ok (.iload_n 2, 1) := by decide +kernel
theorem dX8_laysProfile_74 : decode cX8_laysProfile 74 = .ok (.iconst 1, 1) := by decide +kernel
theorem dX8_laysProfile_75 : decode cX8_laysProfile 75 = .ok (.invokevirtual 166, 3) := by decide +kernel
theorem dX8_laysProfile_78 : decode cX8_laysProfile 78 = .ok (.iload_n 3, 1) := by decide +kernel
theorem dX8_laysProfile_79 : decode cX8_laysProfile 79 = .ok (.iadd, 1) := by decide +kernel
theorem dX8_laysProfile_80 : decode cX8_laysProfile 80 = .ok (.invokevirtual 232, 3) := by decide +kernel
theorem dX8_laysProfile_83 : decode cX8_laysProfile 83 = .ok (.iadd, 1) := by decide +kernel
theorem dX8_laysProfile_84 : decode cX8_laysProfile 84 = .ok (.dup2, 1) := by decide +kernel
theorem dX8_laysProfile_85 : decode cX8_laysProfile 85 = .ok (.iaload, 1) := by decide +kernel
theorem dX8_laysProfile_86 : decode cX8_laysProfile 86 = .ok (.iconst 1, 1) := by decide +kernel
theorem dX8_laysProfile_87 : decode cX8_laysProfile 87 = .ok (.iadd, 1) := by decide +kernel
theorem dX8_laysProfile_88 : decode cX8_laysProfile 88 = .ok (.iastore, 1) := by decide +kernel
theorem dX8_laysProfile_89 : decode cX8_laysProfile 89 = .ok (.iinc 3 1, 3) := by decide +kernel
theorem dX8_laysProfile_92 : decode cX8_laysProfile 92 = .ok (.goto (-39), 3) := by decide +kernel
theorem dX8_laysProfile_95 : decode cX8_laysProfile 95 = .ok (.iinc 2 1, 3) := by decide +kernel
theorem dX8_laysProfile_98 : decode cX8_laysProfile 98 = .ok (.goto (-75), 3) := by decide +kernel
theorem dX8_laysProfile_101 : decode cX8_laysProfile 101 = .ok (.return_, 1) := by decide +kernel
theorem dX8_count_0 : decode cX8_count 0 = .ok (.aload_n 0, 1) := by decide +kernel
theorem dX8_count_1 : decode cX8_count 1 = .ok (.iload_n 1, 1) := by decide +kernel
theorem dX8_count_2 : decode cX8_count 2 = .ok (.i2l, 1) := by decide +kernel
theorem dX8_count_3 : decode cX8_count 3 = .ok (.lconst 0, 1) := by decide +kernel
theorem dX8_count_4 : decode cX8_count 4 = .ok (.aload_n 0, 1) := by decide +kernel
theorem dX8_count_5 : decode cX8_count 5 = .ok (.getfield 20, 3) := by decide +kernel
theorem dX8_count_8 : decode cX8_count 8 = .ok (.iconst 2, 1) := by decide +kernel
theorem dX8_count_9 : decode cX8_count 9 = .ok (.iaload, 1) := by decide +kernel
theorem dX8_count_10 : decode cX8_count 10 = .ok (.iconst 1, 1) := by decide +kernel
theorem dX8_count_11 : decode cX8_count 11 = .ok (.isub, 1) := by decide +kernel
theorem dX8_count_12 : decode cX8_count 12 = .ok (.i2l, 1) := by decide +kernel
theorem dX8_count_13 : decode cX8_count 13 = .ok (.invokestatic 99, 3) := by decide +kernel
theorem dX8_count_16 : decode cX8_count 16 = .ok (.ifCond .eq 25, 3) := by decide +kernel
theorem dX8_count_19 : decode cX8_count 19 = .ok (.iload_n 2, 1) := by decide +kernel
theorem dX8_count_20 : decode cX8_count 20 = .ok (.i2l, 1) := by decide +kernel
theorem dX8_count_21 : decode cX8_count 21 = .ok (.lconst 0, 1) := by decide +kernel
theorem dX8_count_22 : decode cX8_count 22 = .ok (.aload_n 0, 1) := by decide +kernel
theorem dX8_count_23 : decode cX8_count 23 = .ok (.getfield 20, 3) := by decide +kernel
theorem dX8_count_26 : decode cX8_count 26 = .ok (.iconst 1, 1) := by decide +kernel
theorem dX8_count_27 : decode cX8_count 27 = .ok (.iaload, 1) := by decide +kernel
theorem dX8_count_28 : decode cX8_count 28 = .ok (.iconst 1, 1) := by decide +kernel
theorem dX8_count_29 : decode cX8_count 29 = .ok (.isub, 1) := by decide +kernel
theorem dX8_count_30 : decode cX8_count 30 = .ok (.i2l, 1) := by decide +kernel
theorem dX8_count_31 : decode cX8_count 31 = .ok (.invokestatic 99, 3) := by decide +kernel
theorem dX8_count_34 : decode cX8_count 34 = .ok (.ifCond .eq 7, 3) := by decide +kernel
theorem dX8_count_37 : decode cX8_count 37 = .ok (.iconst 1, 1) := by decide +kernel
theorem dX8_count_38 : decode cX8_count 38 = .ok (.goto 4, 3) := by decide +kernel
theorem dX8_count_41 : decode cX8_count 41 = .ok (.iconst 0, 1) := by decide +kernel
theorem dX8_count_42 : decode cX8_count 42 = .ok (.invokevirtual 91, 3) := by decide +kernel
theorem dX8_count_45 : decode cX8_count 45 = .ok (.ifCond .ne 5, 3) := by decide +kernel
theorem dX8_count_48 : decode cX8_count 48 = .ok (.iconst 0, 1) := by decide +kernel
theorem dX8_count_49 : decode cX8_count 49 = .ok (.ireturn, 1) := by decide +kernel
theorem dX8_count_50 : decode cX8_count 50 = .ok (.aload_n 0, 1) := by decide +kernel
theorem dX8_count_51 : decode cX8_count 51 = .ok (.iconst (-1), 1) := by decide +kernel
theorem dX8_count_52 : decode cX8_count 52 = .ok (.invokevirtual 347, 3) := by decide +kernel
theorem dX8_count_55 : decode cX8_count 55 = .ok (.aload_n 0, 1) := by decide +kernel
theorem dX8_count_56 : decode cX8_count 56 = .ok (.getfield 57, 3) := by decide +kernel
theorem dX8_count_59 : decode cX8_count 59 = .ok (.iconst 4, 1) := by decide +kernel
theorem dX8_count_60 : decode cX8_count 60 = .ok (.iload_n 1, 1) := by decide +kernel
theorem dX8_count_61 : decode cX8_count 61 = .ok (.imul, 1) := by decide +kernel
theorem dX8_count_62 : decode cX8_count 62 = .ok (.iload_n 2, 1) := by decide +kernel
theorem dX8_count_63 : decode cX8_count 63 = .ok (.iadd, 1) := by decide +kernel
theorem dX8_count_64 : decode cX8_count 64 = .ok (.iaload, 1) := by decide +kernel
theorem dX8_count_65 : decode cX8_count 65 = .ok (.ireturn, 1) := by decide +kernel
theorem dX8_chosen_0 : decode cX8_chosen 0 = .ok (.iconst 0, 1) := by decide +kernel
theorem dX8_chosen_1 : decode cX8_chosen 1 = .ok (.istore_n 1, 1) := by decide +kernel
theorem dX8_chosen_2 : decode cX8_chosen 2 = .ok (.iconst 0, 1) := by decide +kernel
theorem dX8_chosen_3 : decode cX8_chosen 3 = .ok (.istore_n 2, 1) := by decide +kernel
theorem dX8_chosen_4 : decode cX8_chosen 4 = .ok (.iload_n 2, 1) := by decide +kernel
theorem dX8_chosen_5 : decode cX8_chosen 5 = .ok (.aload_n 0, 1) := by decide +kernel
theorem dX8_chosen_6 : decode cX8_chosen 6 = .ok (.getfield 20, 3) := by decide +kernel
theorem dX8_chosen_9 : decode cX8_chosen 9 = .ok (.iconst 0, 1) := by decide +kernel
theorem dX8_chosen_10 : decode cX8_chosen 10 = .ok (.iaload, 1) := by decide +kernel
theorem dX8_chosen_11 : decode cX8_chosen 11 = .ok (.if_icmp .ge 30, 3) := by decide +kernel
theorem dX8_chosen_14 : decode cX8_chosen 14 = .ok (.iload_n 1, 1) := by decide +kernel
theorem dX8_chosen_15 : decode cX8_chosen 15 = .ok (.aload_n 0, 1) := by decide +kernel
theorem dX8_chosen_16 : decode cX8_chosen 16 = .ok (.iload_n 2, 1) := by decide +kernel
theorem dX8_chosen_17 : decode cX8_chosen 17 = .ok (.iconst 1, 1) := by decide +kernel
theorem dX8_chosen_18 : decode cX8_chosen 18 = .ok (.invokevirtual 166, 3) := by decide +kernel
theorem dX8_chosen_21 : decode cX8_chosen 21 = .ok (.iconst (-1), 1) := by decide +kernel
theorem dX8_chosen_22 : decode cX8_chosen 22 = .ok (.if_icmp .eq 7, 3) := by decide +kernel
theorem dX8_chosen_25 : decode cX8_chosen 25 = .ok (.iconst 1, 1) := by decide +kernel
theorem dX8_chosen_26 : decode cX8_chosen 26 = .ok (.goto 4, 3) := by decide +kernel
theorem dX8_chosen_29 : decode cX8_chosen 29 = .ok (.iconst 0, 1) := by decide +kernel
theorem dX8_chosen_30 : decode cX8_chosen 30 = .ok (.invokestatic 84, 3) := by decide +kernel
theorem dX8_chosen_33 : decode cX8_chosen 33 = .ok (.iadd, 1) := by decide +kernel
theorem dX8_chosen_34 : decode cX8_chosen 34 = .ok (.istore_n 1, 1) := by decide +kernel
theorem dX8_chosen_35 : decode cX8_chosen 35 = .ok (.iinc 2 1, 3) := by decide +kernel
theorem dX8_chosen_38 : decode cX8_chosen 38 = .ok (.goto (-34), 3) := by decide +kernel
theorem dX8_chosen_41 : decode cX8_chosen 41 = .ok (.iload_n 1, 1) := by decide +kernel
theorem dX8_chosen_42 : decode cX8_chosen 42 = .ok (.ireturn, 1) := by decide +kernel
theorem dX8_mostAt_0 : decode cX8_mostAt 0 = .ok (.iconst 0, 1) := by decide +kernel
theorem dX8_mostAt_1 : decode cX8_mostAt 1 = .ok (.istore_n 2, 1) := by decide +kernel
theorem dX8_mostAt_2 : decode cX8_mostAt 2 = .ok (.iconst 1, 1) := by decide +kernel
theorem dX8_mostAt_3 : decode cX8_mostAt 3 = .ok (.istore_n 3, 1) := by decide +kernel
theorem dX8_mostAt_4 : decode cX8_mostAt 4 = .ok (.iload_n 3, 1) := by decide +kernel
theorem dX8_mostAt_5 : decode cX8_mostAt 5 = .ok (.aload_n 0, 1) := by decide +kernel
theorem dX8_mostAt_6 : decode cX8_mostAt 6 = .ok (.getfield 20, 3) := by decide +kernel
theorem dX8_mostAt_9 : decode cX8_mostAt 9 = .ok (.iconst 1, 1) := by decide +kernel
theorem dX8_mostAt_10 : decode cX8_mostAt 10 = .ok (.iaload, 1) := by decide +kernel
theorem dX8_mostAt_11 : decode cX8_mostAt 11 = .ok (.if_icmp .ge 34, 3) := by decide +kernel
theorem dX8_mostAt_14 : decode cX8_mostAt 14 = .ok (.aload_n 0, 1) := by decide +kernel
theorem dX8_mostAt_15 : decode cX8_mostAt 15 = .ok (.getfield 57, 3) := by decide +kernel
theorem dX8_mostAt_18 : decode cX8_mostAt 18 = .ok (.iconst 4, 1) := by decide +kernel
theorem dX8_mostAt_19 : decode cX8_mostAt 19 = .ok (.iload_n 1, 1) := by decide +kernel
theorem dX8_mostAt_20 : decode cX8_mostAt 20 = .ok (.imul, 1) := by decide +kernel
theorem dX8_mostAt_21 : decode cX8_mostAt 21 = .ok (.iload_n 3, 1) := by decide +kernel
theorem dX8_mostAt_22 : decode cX8_mostAt 22 = .ok (.iadd, 1) := by decide +kernel
theorem dX8_mostAt_23 : decode cX8_mostAt 23 = .ok (.iaload, 1) := by decide +kernel
theorem dX8_mostAt_24 : decode cX8_mostAt 24 = .ok (.aload_n 0, 1) := by decide +kernel
theorem dX8_mostAt_25 : decode cX8_mostAt 25 = .ok (.getfield 57, 3) := by decide +kernel
theorem dX8_mostAt_28 : decode cX8_mostAt 28 = .ok (.iconst 4, 1) := by decide +kernel
theorem dX8_mostAt_29 : decode cX8_mostAt 29 = .ok (.iload_n 1, 1) := by decide +kernel
theorem dX8_mostAt_30 : decode cX8_mostAt 30 = .ok (.imul, 1) := by decide +kernel
theorem dX8_mostAt_31 : decode cX8_mostAt 31 = .ok (.iload_n 2, 1) := by decide +kernel
theorem dX8_mostAt_32 : decode cX8_mostAt 32 = .ok (.iadd, 1) := by decide +kernel
theorem dX8_mostAt_33 : decode cX8_mostAt 33 = .ok (.iaload, 1) := by decide +kernel
theorem dX8_mostAt_34 : decode cX8_mostAt 34 = .ok (.if_icmp .le 5, 3) := by decide +kernel
theorem dX8_mostAt_37 : decode cX8_mostAt 37 = .ok (.iload_n 3, 1) := by decide +kernel
theorem dX8_mostAt_38 : decode cX8_mostAt 38 = .ok (.istore_n 2, 1) := by decide +kernel
theorem dX8_mostAt_39 : decode cX8_mostAt 39 = .ok (.iinc 3 1, 3) := by decide +kernel
theorem dX8_mostAt_42 : decode cX8_mostAt 42 = .ok (.goto (-38), 3) := by decide +kernel
theorem dX8_mostAt_45 : decode cX8_mostAt 45 = .ok (.iload_n 2, 1) := by decide +kernel
theorem dX8_mostAt_46 : decode cX8_mostAt 46 = .ok (.ireturn, 1) := by decide +kernel
theorem dX8_common_0 : decode cX8_common 0 = .ok (.aload_n 0, 1) := by decide +kernel
theorem dX8_common_1 : decode cX8_common 1 = .ok (.iconst 0, 1) := by decide +kernel
theorem dX8_common_2 : decode cX8_common 2 = .ok (.putfield 81, 3) := by decide +kernel
theorem dX8_common_5 : decode cX8_common 5 = .ok (.aload_n 0, 1) := by decide +kernel
theorem dX8_common_6 : decode cX8_common 6 = .ok (.invokevirtual 350, 3) := by decide +kernel
theorem dX8_common_9 : decode cX8_common 9 = .ok (.ifCond .ne 5, 3) := by decide +kernel
theorem dX8_common_12 : decode cX8_common 12 = .ok (.iconst (-1), 1) := by decide +kernel
theorem dX8_common_13 : decode cX8_common 13 = .ok (.ireturn, 1) := by decide +kernel
theorem dX8_common_14 : decode cX8_common 14 = .ok (.aload_n 0, 1) := by decide +kernel
theorem dX8_common_15 : decode cX8_common 15 = .ok (.iconst (-1), 1) := by decide +kernel
theorem dX8_common_16 : decode cX8_common 16 = .ok (.invokevirtual 347, 3) := by decide +kernel
theorem dX8_common_19 : decode cX8_common 19 = .ok (.iconst 0, 1) := by decide +kernel
theorem dX8_common_20 : decode cX8_common 20 = .ok (.istore_n 1, 1) := by decide +kernel
theorem dX8_common_21 : decode cX8_common 21 = .ok (.iconst 0, 1) := by decide +kernel
theorem dX8_common_22 : decode cX8_common 22 = .ok (.istore_n 2, 1) := by decide +kernel
theorem dX8_common_23 : decode cX8_common 23 = .ok (.iload_n 2, 1) := by decide +kernel
theorem dX8_common_24 : decode cX8_common 24 = .ok (.aload_n 0, 1) := by decide +kernel
theorem dX8_common_25 : decode cX8_common 25 = .ok (.getfield 20, 3) := by decide +kernel
theorem dX8_common_28 : decode cX8_common 28 = .ok (.iconst 2, 1) := by decide +kernel
theorem dX8_common_29 : decode cX8_common 29 = .ok (.iaload, 1) := by decide +kernel
theorem dX8_common_30 : decode cX8_common 30 = .ok (.if_icmp .ge 24, 3) := by decide +kernel
theorem dX8_common_33 : decode cX8_common 33 = .ok (.aload_n 0, 1) := by decide +kernel
theorem dX8_common_34 : decode cX8_common 34 = .ok (.getfield 20, 3) := by decide +kernel
theorem dX8_common_37 : decode cX8_common 37 = .ok (.iconst 1, 1) := by decide +kernel
theorem dX8_common_38 : decode cX8_common 38 = .ok (.iaload, 1) := by decide +kernel
theorem dX8_common_39 : decode cX8_common 39 = .ok (.iload_n 1, 1) := by decide +kernel
theorem dX8_common_40 : decode cX8_common 40 = .ok (.imul, 1) := by decide +kernel
theorem dX8_common_41 : decode cX8_common 41 = .ok (.aload_n 0, 1) := by decide +kernel
theorem dX8_common_42 : decode cX8_common 42 = .ok (.iload_n 2, 1) := by decide +kernel
theorem dX8_common_43 : decode cX8_common 43 = .ok (.invokevirtual 353, 3) := by decide +kernel
theorem dX8_common_46 : decode cX8_common 46 = .ok (.iadd, 1) := by decide +kernel
theorem dX8_common_47 : decode cX8_common 47 = .ok (.istore_n 1, 1) := by decide +kernel
theorem dX8_common_48 : decode cX8_common 48 = .ok (.iinc 2 1, 3) := by decide +kernel
theorem dX8_common_51 : decode cX8_common 51 = .ok (.goto (-28), 3) := by decide +kernel
theorem dX8_common_54 : decode cX8_common 54 = .ok (.iload_n 1, 1) := by decide +kernel
theorem dX8_common_55 : decode cX8_common 55 = .ok (.ireturn, 1) := by decide +kernel
theorem dX8_agrees_0 : decode cX8_agrees 0 = .ok (.aload_n 0, 1) := by decide +kernel
theorem dX8_agrees_1 : decode cX8_agrees 1 = .ok (.iconst (-1), 1) := by decide +kernel
theorem dX8_agrees_2 : decode cX8_agrees 2 = .ok (.invokevirtual 347, 3) := by decide +kernel
theorem dX8_agrees_5 : decode cX8_agrees 5 = .ok (.iconst 0, 1) := by decide +kernel
theorem dX8_agrees_6 : decode cX8_agrees 6 = .ok (.istore_n 1, 1) := by decide +kernel
theorem dX8_agrees_7 : decode cX8_agrees 7 = .ok (.iconst 0, 1) := by decide +kernel
theorem dX8_agrees_8 : decode cX8_agrees 8 = .ok (.istore_n 2, 1) := by decide +kernel
theorem dX8_agrees_9 : decode cX8_agrees 9 = .ok (.iload_n 2, 1) := by decide +kernel
theorem dX8_agrees_10 : decode cX8_agrees 10 = .ok (.aload_n 0, 1) := by decide +kernel
theorem dX8_agrees_11 : decode cX8_agrees 11 = .ok (.getfield 20, 3) := by decide +kernel
theorem dX8_agrees_14 : decode cX8_agrees 14 = .ok (.iconst 2, 1) := by decide +kernel
theorem dX8_agrees_15 : decode cX8_agrees 15 = .ok (.iaload, 1) := by decide +kernel
theorem dX8_agrees_16 : decode cX8_agrees 16 = .ok (.if_icmp .ge 26, 3) := by decide +kernel
theorem dX8_agrees_19 : decode cX8_agrees 19 = .ok (.iload_n 1, 1) := by decide +kernel
theorem dX8_agrees_20 : decode cX8_agrees 20 = .ok (.aload_n 0, 1) := by decide +kernel
theorem dX8_agrees_21 : decode cX8_agrees 21 = .ok (.getfield 57, 3) := by decide +kernel
theorem dX8_agrees_24 : decode cX8_agrees 24 = .ok (.iconst 4, 1) := by decide +kernel
theorem dX8_agrees_25 : decode cX8_agrees 25 = .ok (.iload_n 2, 1) := by decide +kernel
theorem dX8_agrees_26 : decode cX8_agrees 26 = .ok (.imul, 1) := by decide +kernel
theorem dX8_agrees_27 : decode cX8_agrees 27 = .ok (.aload_n 0, 1) := by decide +kernel
theorem dX8_agrees_28 : decode cX8_agrees 28 = .ok (.iload_n 2, 1) := by decide +kernel
theorem dX8_agrees_29 : decode cX8_agrees 29 = .ok (.invokevirtual 353, 3) := by decide +kernel
theorem dX8_agrees_32 : decode cX8_agrees 32 = .ok (.iadd, 1) := by decide +kernel
theorem dX8_agrees_33 : decode cX8_agrees 33 = .ok (.iaload, 1) := by decide +kernel
theorem dX8_agrees_34 : decode cX8_agrees 34 = .ok (.iadd, 1) := by decide +kernel
theorem dX8_agrees_35 : decode cX8_agrees 35 = .ok (.istore_n 1, 1) := by decide +kernel
theorem dX8_agrees_36 : decode cX8_agrees 36 = .ok (.iinc 2 1, 3) := by decide +kernel
theorem dX8_agrees_39 : decode cX8_agrees 39 = .ok (.goto (-30), 3) := by decide +kernel
theorem dX8_agrees_42 : decode cX8_agrees 42 = .ok (.iload_n 1, 1) := by decide +kernel
theorem dX8_agrees_43 : decode cX8_agrees 43 = .ok (.ireturn, 1) := by decide +kernel
theorem dX8_agreement_0 : decode cX8_agreement 0 = .ok (.aload_n 0, 1) := by decide +kernel
theorem dX8_agreement_1 : decode cX8_agreement 1 = .ok (.iconst 0, 1) := by decide +kernel
theorem dX8_agreement_2 : decode cX8_agreement 2 = .ok (.putfield 81, 3) := by decide +kernel
theorem dX8_agreement_5 : decode cX8_agreement 5 = .ok (.aload_n 0, 1) := by decide +kernel
theorem dX8_agreement_6 : decode cX8_agreement 6 = .ok (.invokevirtual 356, 3) := by decide +kernel
theorem dX8_agreement_9 : decode cX8_agreement 9 = .ok (.ireturn, 1) := by decide +kernel
theorem dX8_weighs_0 : decode cX8_weighs 0 = .ok (.iconst 1, 1) := by decide +kernel
theorem dX8_weighs_1 : decode cX8_weighs 1 = .ok (.istore_n 3, 1) := by decide +kernel
theorem dX8_weighs_2 : decode cX8_weighs 2 = .ok (.iconst 0, 1) := by decide +kernel
theorem dX8_weighs_3 : decode cX8_weighs 3 = .ok (.istore 4, 2) := by decide +kernel
theorem dX8_weighs_5 : decode cX8_weighs 5 = .ok (.iload 4, 2) := by decide +kernel
theorem dX8_weighs_7 : decode cX8_weighs 7 = .ok (.aload_n 0, 1) := by decide +kernel
theorem dX8_weighs_8 : decode cX8_weighs 8 = .ok (.getfield 20, 3) := by decide +kernel
theorem dX8_weighs_11 : decode cX8_weighs 11 = .ok (.iconst 2, 1) := by decide +kernel
theorem dX8_weighs_12 : decode cX8_weighs 12 = .ok (.iaload, 1) := by decide +kernel
theorem dX8_weighs_13 : decode cX8_weighs 13 = .ok (.if_icmp .ge 33, 3) := by decide +kernel
theorem dX8_weighs_16 : decode cX8_weighs 16 = .ok (.iload_n 3, 1) := by decide +kernel
theorem dX8_weighs_17 : decode cX8_weighs 17 = .ok (.iconst 1, 1) := by decide +kernel
theorem dX8_weighs_18 : decode cX8_weighs 18 = .ok (.aload_n 0, 1) := by decide +kernel
theorem dX8_weighs_19 : decode cX8_weighs 19 = .ok (.getfield 57, 3) := by decide +kernel
theorem dX8_weighs_22 : decode cX8_weighs 22 = .ok (.iconst 4, 1) := by decide +kernel
theorem dX8_weighs_23 : decode cX8_weighs 23 = .ok (.iload 4, 2) := by decide +kernel
theorem dX8_weighs_25 : decode cX8_weighs 25 = .ok (.imul, 1) := by decide +kernel
theorem dX8_weighs_26 : decode cX8_weighs 26 = .ok (.aload_n 0, 1) := by decide +kernel
theorem dX8_weighs_27 : decode cX8_weighs 27 = .ok (.iload_n 1, 1) := by decide +kernel
theorem dX8_weighs_28 : decode cX8_weighs 28 = .ok (.iload_n 2, 1) := by decide +kernel
theorem dX8_weighs_29 : decode cX8_weighs 29 = .ok (.iload 4, 2) := by decide +kernel
theorem dX8_weighs_31 : decode cX8_weighs 31 = .ok (.iadd, 1) := by decide +kernel
theorem dX8_weighs_32 : decode cX8_weighs 32 = .ok (.invokevirtual 232, 3) := by decide +kernel
theorem dX8_weighs_35 : decode cX8_weighs 35 = .ok (.iadd, 1) := by decide +kernel
theorem dX8_weighs_36 : decode cX8_weighs 36 = .ok (.iaload, 1) := by decide +kernel
theorem dX8_weighs_37 : decode cX8_weighs 37 = .ok (.iadd, 1) := by decide +kernel
theorem dX8_weighs_38 : decode cX8_weighs 38 = .ok (.imul, 1) := by decide +kernel
theorem dX8_weighs_39 : decode cX8_weighs 39 = .ok (.istore_n 3, 1) := by decide +kernel
theorem dX8_weighs_40 : decode cX8_weighs 40 = .ok (.iinc 4 1, 3) := by decide +kernel
theorem dX8_weighs_43 : decode cX8_weighs 43 = .ok (.goto (-38), 3) := by decide +kernel
theorem dX8_weighs_46 : decode cX8_weighs 46 = .ok (.iload_n 3, 1) := by decide +kernel
theorem dX8_weighs_47 : decode cX8_weighs 47 = .ok (.ireturn, 1) := by decide +kernel
theorem dX8_weight_0 : decode cX8_weight 0 = .ok (.aload_n 0, 1) := by decide +kernel
theorem dX8_weight_1 : decode cX8_weight 1 = .ok (.aload_n 0, 1) := by decide +kernel
theorem dX8_weight_2 : decode cX8_weight 2 = .ok (.iload_n 1, 1) := by decide +kernel
theorem dX8_weight_3 : decode cX8_weight 3 = .ok (.invokevirtual 256, 3) := by decide +kernel
theorem dX8_weight_6 : decode cX8_weight 6 = .ok (.invokevirtual 91, 3) := by decide +kernel
theorem dX8_weight_9 : decode cX8_weight 9 = .ok (.ifCond .ne 5, 3) := by decide +kernel
theorem dX8_weight_12 : decode cX8_weight 12 = .ok (.iconst 0, 1) := by decide +kernel
theorem dX8_weight_13 : decode cX8_weight 13 = .ok (.ireturn, 1) := by decide +kernel
theorem dX8_weight_14 : decode cX8_weight 14 = .ok (.aload_n 0, 1) := by decide +kernel
theorem dX8_weight_15 : decode cX8_weight 15 = .ok (.iload_n 1, 1) := by decide +kernel
theorem dX8_weight_16 : decode cX8_weight 16 = .ok (.invokevirtual 347, 3) := by decide +kernel
theorem dX8_weight_19 : decode cX8_weight 19 = .ok (.aload_n 0, 1) := by decide +kernel
theorem dX8_weight_20 : decode cX8_weight 20 = .ok (.iload_n 1, 1) := by decide +kernel
theorem dX8_weight_21 : decode cX8_weight 21 = .ok (.iload_n 2, 1) := by decide +kernel
theorem dX8_weight_22 : decode cX8_weight 22 = .ok (.invokevirtual 229, 3) := by decide +kernel
theorem dX8_weight_25 : decode cX8_weight 25 = .ok (.ifCond .eq 12, 3) := by decide +kernel
theorem dX8_weight_28 : decode cX8_weight 28 = .ok (.aload_n 0, 1) := by decide +kernel
theorem dX8_weight_29 : decode cX8_weight 29 = .ok (.iload_n 1, 1) := by decide +kernel
theorem dX8_weight_30 : decode cX8_weight 30 = .ok (.iload_n 2, 1) := by decide +kernel
theorem dX8_weight_31 : decode cX8_weight 31 = .ok (.invokevirtual 359, 3) := by decide +kernel
theorem dX8_weight_34 : decode cX8_weight 34 = .ok (.goto 4, 3) := by decide +kernel
theorem dX8_weight_37 : decode cX8_weight 37 = .ok (.iconst 0, 1) := by decide +kernel
theorem dX8_weight_38 : decode cX8_weight 38 = .ok (.ireturn, 1) := by decide +kernel
theorem dX8_betters_0 : decode cX8_betters 0 = .ok (.aload_n 0, 1) := by decide +kernel
theorem dX8_betters_1 : decode cX8_betters 1 = .ok (.iload_n 1, 1) := by decide +kernel
theorem dX8_betters_2 : decode cX8_betters 2 = .ok (.invokevirtual 347, 3) := by decide +kernel
theorem dX8_betters_5 : decode cX8_betters 5 = .ok (.iconst (-1), 1) := by decide +kernel
theorem dX8_betters_6 : decode cX8_betters 6 = .ok (.istore_n 2, 1) := by decide +kernel
theorem dX8_betters_7 : decode cX8_betters 7 = .ok (.iconst 0, 1) := by decide +kernel
theorem dX8_betters_8 : decode cX8_betters 8 = .ok (.istore_n 3, 1) := by decide +kernel
theorem dX8_betters_9 : decode cX8_betters 9 = .ok (.iconst 0, 1) := by decide +kernel
theorem dX8_betters_10 : decode cX8_betters 10 = .ok (.istore 4, 2) := by decide +kernel
theorem dX8_betters_12 : decode cX8_betters 12 = .ok (.iload 4, 2) := by decide +kernel
theorem dX8_betters_14 : decode cX8_betters 14 = .ok (.aload_n 0, 1) := by decide +kernel
theorem dX8_betters_15 : decode cX8_betters 15 = .ok (.iload_n 1, 1) := by decide +kernel
theorem dX8_betters_16 : decode cX8_betters 16 = .ok (.iconst 0, 1) := by decide +kernel
theorem dX8_betters_17 : decode cX8_betters 17 = .ok (.invokevirtual 166, 3) := by decide +kernel
theorem dX8_betters_20 : decode cX8_betters 20 = .ok (.if_icmp .ge 51, 3) := by decide +kernel
theorem dX8_betters_23 : decode cX8_betters 23 = .ok (.aload_n 0, 1) := by decide +kernel
theorem dX8_betters_24 : decode cX8_betters 24 = .ok (.iload_n 1, 1) := by decide +kernel
theorem dX8_betters_25 : decode cX8_betters 25 = .ok (.iload 4, 2) := by decide +kernel
theorem dX8_betters_27 : decode cX8_betters 27 = .ok (.invokevirtual 229, 3) := by decide +kernel
theorem dX8_betters_30 : decode cX8_betters 30 = .ok (.ifCond .ne 6, 3) := by decide +kernel
theorem dX8_betters_33 : decode cX8_betters 33 = .ok (.goto 32, 3) := by decide +kernel
theorem dX8_betters_36 : decode cX8_betters 36 = .ok (.aload_n 0, 1) := by decide +kernel
theorem dX8_betters_37 : decode cX8_betters 37 = .ok (.iload_n 1, 1) := by decide +kernel
theorem dX8_betters_38 : decode cX8_betters 38 = .ok (.iload 4, 2) := by decide +kernel
theorem dX8_betters_40 : decode cX8_betters 40 = .ok (.invokevirtual 359, 3) := by decide +kernel
theorem dX8_betters_43 : decode cX8_betters 43 = .ok (.istore 5, 2) := by decide +kernel
theorem dX8_betters_45 : decode cX8_betters 45 = .ok (.iload_n 2, 1) := by decide +kernel
theorem dX8_betters_46 : decode cX8_betters 46 = .ok (.iconst (-1), 1) := by decide +kernel
theorem dX8_betters_47 : decode cX8_betters 47 = .ok (.if_icmp .eq 12, 3) := by decide +kernel
theorem dX8_betters_50 : decode cX8_betters 50 = .ok (.iload 5, 2) := by decide +kernel
theorem dX8_betters_52 : decode cX8_betters 52 = .ok (.iload_n 3, 1) := by decide +kernel
theorem dX8_betters_53 : decode cX8_betters 53 = .ok (.if_icmp .gt 6, 3) := by decide +kernel
theorem dX8_betters_56 : decode cX8_betters 56 = .ok (.goto 9, 3) := by decide +kernel
theorem dX8_betters_59 : decode cX8_betters 59 = .ok (.iload 4, 2) := by decide +kernel
theorem dX8_betters_61 : decode cX8_betters 61 = .ok (.istore_n 2, 1) := by decide +kernel
theorem dX8_betters_62 : decode cX8_betters 62 = .ok (.iload 5, 2) := by decide +kernel
theorem dX8_betters_64 : decode cX8_betters 64 = .ok (.istore_n 3, 1) := by decide +kernel
theorem dX8_betters_65 : decode cX8_betters 65 = .ok (.iinc 4 1, 3) := by decide +kernel
theorem dX8_betters_68 : decode cX8_betters 68 = .ok (.goto (-56), 3) := by decide +kernel
theorem dX8_betters_71 : decode cX8_betters 71 = .ok (.aload_n 0, 1) := by decide +kernel
theorem dX8_betters_72 : decode cX8_betters 72 = .ok (.iload_n 1, 1) := by decide +kernel
theorem dX8_betters_73 : decode cX8_betters 73 = .ok (.iconst 1, 1) := by decide +kernel
theorem dX8_betters_74 : decode cX8_betters 74 = .ok (.iload_n 2, 1) := by decide +kernel
theorem dX8_betters_75 : decode cX8_betters 75 = .ok (.invokevirtual 179, 3) := by decide +kernel
theorem dX8_betters_78 : decode cX8_betters 78 = .ok (.iload_n 2, 1) := by decide +kernel
theorem dX8_betters_79 : decode cX8_betters 79 = .ok (.ireturn, 1) := by decide +kernel
theorem dX8_improvesOnce_0 : decode cX8_improvesOnce 0 = .ok (.iconst 0, 1) := by decide +kernel
theorem dX8_improvesOnce_1 : decode cX8_improvesOnce 1 = .ok (.istore_n 1, 1) := by decide +kernel
theorem dX8_improvesOnce_2 : decode cX8_improvesOnce 2 = .ok (.iconst 0, 1) := by decide +kernel
theorem dX8_improvesOnce_3 : decode cX8_improvesOnce 3 = .ok (.istore_n 2, 1) := by decide +kernel
theorem dX8_improvesOnce_4 : decode cX8_improvesOnce 4 = .ok (.iload_n 2, 1) := by decide +kernel
theorem dX8_improvesOnce_5 : decode cX8_improvesOnce 5 = .ok (.aload_n 0, 1) := by decide +kernel
theorem dX8_improvesOnce_6 : decode cX8_improvesOnce 6 = .ok (.getfield 20, 3) := by decide +kernel
theorem dX8_improvesOnce_9 : decode cX8_improvesOnce 9 = .ok (.iconst 0, 1) := by decide +kernel
theorem dX8_improvesOnce_10 : decode cX8_improvesOnce 10 = .ok (.iaload, 1) := by decide +kernel
theorem dX8_improvesOnce_11 : decode cX8_improvesOnce 11 = .ok (.if_icmp .ge 46, 3) := by decide +kernel
theorem dX8_improvesOnce_14 : decode cX8_improvesOnce 14 = .ok (.aload_n 0, 1) := by decide +kernel
theorem dX8_improvesOnce_15 : decode cX8_improvesOnce 15 = .ok (.iload_n 2, 1) := by decide +kernel
theorem dX8_improvesOnce_16 : decode cX8_improvesOnce 16 = .ok (.invokevirtual 226, 3) := by decide +kernel
theorem dX8_improvesOnce_19 : decode cX8_improvesOnce 19 = .ok (.ifCond .eq 6, 3) := by decide +kernel
theorem dX8_improvesOnce_22 : decode cX8_improvesOnce 22 = .ok (.goto 29, 3) := by decide +kernel
theorem dX8_improvesOnce_25 : decode cX8_improvesOnce 25 = .ok (.aload_n 0, 1) := by decide +kernel
theorem dX8_improvesOnce_26 : decode cX8_improvesOnce 26 = .ok (.iload_n 2, 1) := by decide +kernel
theorem dX8_improvesOnce_27 : decode cX8_improvesOnce 27 = .ok (.iconst 1, 1) := by decide +kernel
theorem dX8_improvesOnce_28 : decode cX8_improvesOnce 28 = .ok (.invokevirtual 166, 3) := by decide +kernel
theorem dX8_improvesOnce_31 : decode cX8_improvesOnce 31 = .ok (.istore_n 3, 1) := by decide +kernel
theorem dX8_improvesOnce_32 : decode cX8_improvesOnce 32 = .ok (.aload_n 0, 1) := by decide +kernel
theorem dX8_improvesOnce_33 : decode cX8_improvesOnce 33 = .ok (.iload_n 2, 1) := by decide +kernel
theorem dX8_improvesOnce_34 : decode cX8_improvesOnce 34 = .ok (.invokevirtual 362, 3) := by decide +kernel
theorem dX8_improvesOnce_37 : decode cX8_improvesOnce 37 = .ok (.iload_n 3, 1) := by decide +kernel
theorem dX8_improvesOnce_38 : decode cX8_improvesOnce 38 = .ok (.if_icmp .ne 7, 3) := by decide +kernel
theorem dX8_improvesOnce_41 : decode cX8_improvesOnce 41 = .ok (.iload_n 1, 1) := by decide +kernel
theorem dX8_improvesOnce_42 : decode cX8_improvesOnce 42 = .ok (.ifCond .eq 7, 3) := by decide +kernel
theorem dX8_improvesOnce_45 : decode cX8_improvesOnce 45 = .ok (.iconst 1, 1) := by decide +kernel
theorem dX8_improvesOnce_46 : decode cX8_improvesOnce 46 = .ok (.goto 4, 3) := by decide +kernel
theorem dX8_improvesOnce_49 : decode cX8_improvesOnce 49 = .ok (.iconst 0, 1) := by decide +kernel
theorem dX8_improvesOnce_50 : decode cX8_improvesOnce 50 = .ok (.istore_n 1, 1) := by decide +kernel
theorem dX8_improvesOnce_51 : decode cX8_improvesOnce 51 = .ok (.iinc 2 1, 3) := by decide +kernel
theorem dX8_improvesOnce_54 : decode cX8_improvesOnce 54 = .ok (.goto (-50), 3) := by decide +kernel
theorem dX8_improvesOnce_57 : decode cX8_improvesOnce 57 = .ok (.iload_n 1, 1) := by decide +kernel
theorem dX8_improvesOnce_58 : decode cX8_improvesOnce 58 = .ok (.ireturn, 1) := by decide +kernel
theorem dX8_improves_0 : decode cX8_improves 0 = .ok (.iconst 0, 1) := by decide +kernel
theorem dX8_improves_1 : decode cX8_improves 1 = .ok (.istore_n 2, 1) := by decide +kernel
theorem dX8_improves_2 : decode cX8_improves 2 = .ok (.iconst 1, 1) := by decide +kernel
theorem dX8_improves_3 : decode cX8_improves 3 = .ok (.istore_n 3, 1) := by decide +kernel
theorem dX8_improves_4 : decode cX8_improves 4 = .ok (.iload_n 2, 1) := by decide +kernel
theorem dX8_improves_5 : decode cX8_improves 5 = .ok (.iload_n 1, 1) := by decide +kernel
theorem dX8_improves_6 : decode cX8_improves 6 = .ok (.if_icmp .ge 18, 3) := by decide +kernel
theorem dX8_improves_9 : decode cX8_improves 9 = .ok (.iload_n 3, 1) := by decide +kernel
theorem dX8_improves_10 : decode cX8_improves 10 = .ok (.ifCond .eq 14, 3) := by decide +kernel
theorem dX8_improves_13 : decode cX8_improves 13 = .ok (.aload_n 0, 1) := by decide +kernel
theorem dX8_improves_14 : decode cX8_improves 14 = .ok (.invokevirtual 365, 3) := by decide +kernel
theorem dX8_improves_17 : decode cX8_improves 17 = .ok (.istore_n 3, 1) := by decide +kernel
theorem dX8_improves_18 : decode cX8_improves 18 = .ok (.iinc 2 1, 3) := by decide +kernel
theorem dX8_improves_21 : decode cX8_improves 21 = .ok (.goto (-17), 3) := by decide +kernel
theorem dX8_improves_24 : decode cX8_improves 24 = .ok (.iload_n 2, 1) := by decide +kernel
theorem dX8_improves_25 : decode cX8_improves 25 = .ok (.ireturn, 1) := by decide +kernel
theorem dX8_tries_0 : decode cX8_tries 0 = .ok (.aload_n 0, 1) := by decide +kernel
theorem dX8_tries_1 : decode cX8_tries 1 = .ok (.invokevirtual 338, 3) := by decide +kernel
theorem dX8_tries_4 : decode cX8_tries 4 = .ok (.iconst 0, 1) := by decide +kernel
theorem dX8_tries_5 : decode cX8_tries 5 = .ok (.istore_n 3, 1) := by decide +kernel
theorem dX8_tries_6 : decode cX8_tries 6 = .ok (.iload_n 3, 1) := by decide +kernel
theorem dX8_tries_7 : decode cX8_tries 7 = .ok (.aload_n 0, 1) := by decide +kernel
theorem dX8_tries_8 : decode cX8_tries 8 = .ok (.getfield 20, 3) := by decide +kernel
theorem dX8_tries_11 : decode cX8_tries 11 = .ok (.iconst 0, 1) := by decide +kernel
theorem dX8_tries_12 : decode cX8_tries 12 = .ok (.iaload, 1) := by decide +kernel
theorem dX8_tries_13 : decode cX8_tries 13 = .ok (.if_icmp .ge 25, 3) := by decide +kernel
theorem dX8_tries_16 : decode cX8_tries 16 = .ok (.aload_n 0, 1) := by decide +kernel
theorem dX8_tries_17 : decode cX8_tries 17 = .ok (.iload_n 3, 1) := by decide +kernel
theorem dX8_tries_18 : decode cX8_tries 18 = .ok (.iconst 1, 1) := by decide +kernel
theorem dX8_tries_19 : decode cX8_tries 19 = .ok (.iload_n 3, 1) := by decide +kernel
theorem dX8_tries_20 : decode cX8_tries 20 = .ok (.iload_n 1, 1) := by decide +kernel
theorem dX8_tries_21 : decode cX8_tries 21 = .ok (.if_icmp .ne 7, 3) := by decide +kernel
theorem dX8_tries_24 : decode cX8_tries 24 = .ok (.iload_n 2, 1) := by decide +kernel
theorem dX8_tries_25 : decode cX8_tries 25 = .ok (.goto 4, 3) := by decide +kernel
theorem dX8_tries_28 : decode cX8_tries 28 = .ok (.iconst (-1), 1) := by decide +kernel
theorem dX8_tries_29 : decode cX8_tries 29 = .ok (.invokevirtual 179, 3) := by decide +kernel
theorem dX8_tries_32 : decode cX8_tries 32 = .ok (.iinc 3 1, 3) := by decide +kernel
theorem dX8_tries_35 : decode cX8_tries 35 = .ok (.goto (-29), 3) := by decide +kernel
theorem dX8_tries_38 : decode cX8_tries 38 = .ok (.aload_n 0, 1) := by decide +kernel
theorem dX8_tries_39 : decode cX8_tries 39 = .ok (.bipush 50, 2) := by decide +kernel
theorem dX8_tries_41 : decode cX8_tries 41 = .ok (.invokevirtual 368, 3) := by decide +kernel
theorem dX8_tries_44 : decode cX8_tries 44 = .ok (.istore_n 3, 1) := by decide +kernel
theorem dX8_tries_45 : decode cX8_tries 45 = .ok (.aload_n 0, 1) := by decide +kernel
theorem dX8_tries_46 : decode cX8_tries 46 = .ok (.invokevirtual 356, 3) := by decide +kernel
theorem dX8_tries_49 : decode cX8_tries 49 = .ok (.istore 4, 2) := by decide +kernel
theorem dX8_tries_51 : decode cX8_tries 51 = .ok (.aload_n 0, 1) := by decide +kernel
theorem dX8_tries_52 : decode cX8_tries 52 = .ok (.invokevirtual 344, 3) := by decide +kernel
theorem dX8_tries_55 : decode cX8_tries 55 = .ok (.iload 4, 2) := by decide +kernel
theorem dX8_tries_57 : decode cX8_tries 57 = .ok (.ireturn, 1) := by decide +kernel
theorem dX8_tryFrom_0 : decode cX8_tryFrom 0 = .ok (.aload_n 0, 1) := by decide +kernel
theorem dX8_tryFrom_1 : decode cX8_tryFrom 1 = .ok (.aload_n 0, 1) := by decide +kernel
theorem dX8_tryFrom_2 : decode cX8_tryFrom 2 = .ok (.iload_n 1, 1) := by decide +kernel
theorem dX8_tryFrom_3 : decode cX8_tryFrom 3 = .ok (.invokevirtual 256, 3) := by decide +kernel
theorem dX8_tryFrom_6 : decode cX8_tryFrom 6 = .ok (.invokevirtual 91, 3) := by decide +kernel
theorem dX8_tryFrom_9 : decode cX8_tryFrom 9 = .ok (.ifCond .ne 5, 3) := by decide +kernel
theorem dX8_tryFrom_12 : decode cX8_tryFrom 12 = .ok (.iconst 0, 1) := by decide +kernel
theorem dX8_tryFrom_13 : decode cX8_tryFrom 13 = .ok (.ireturn, 1) := by decide +kernel
theorem dX8_tryFrom_14 : decode cX8_tryFrom 14 = .ok (.aload_n 0, 1) := by decide +kernel
theorem dX8_tryFrom_15 : decode cX8_tryFrom 15 = .ok (.iload_n 1, 1) := by decide +kernel
theorem dX8_tryFrom_16 : decode cX8_tryFrom 16 = .ok (.iload_n 2, 1) := by decide +kernel
theorem dX8_tryFrom_17 : decode cX8_tryFrom 17 = .ok (.invokevirtual 229, 3) := by decide +kernel
theorem dX8_tryFrom_20 : decode cX8_tryFrom 20 = .ok (.ifCond .eq 12, 3) := by decide +kernel
theorem dX8_tryFrom_23 : decode cX8_tryFrom 23 = .ok (.aload_n 0, 1) := by decide +kernel
theorem dX8_tryFrom_24 : decode cX8_tryFrom 24 = .ok (.iload_n 1, 1) := by decide +kernel
theorem dX8_tryFrom_25 : decode cX8_tryFrom 25 = .ok (.iload_n 2, 1) := by decide +kernel
theorem dX8_tryFrom_26 : decode cX8_tryFrom 26 = .ok (.invokevirtual 371, 3) := by decide +kernel
theorem dX8_tryFrom_29 : decode cX8_tryFrom 29 = .ok (.goto 4, 3) := by decide +kernel
theorem dX8_tryFrom_32 : decode cX8_tryFrom 32 = .ok (.iconst (-1), 1) := by decide +kernel
theorem dX8_tryFrom_33 : decode cX8_tryFrom 33 = .ok (.ireturn, 1) := by decide +kernel
theorem dX8_bestStart_0 : decode cX8_bestStart 0 = .ok (.aload_n 0, 1) := by decide +kernel
theorem dX8_bestStart_1 : decode cX8_bestStart 1 = .ok (.aload_n 0, 1) := by decide +kernel
theorem dX8_bestStart_2 : decode cX8_bestStart 2 = .ok (.iload_n 1, 1) := by decide +kernel
theorem dX8_bestStart_3 : decode cX8_bestStart 3 = .ok (.invokevirtual 256, 3) := by decide +kernel
theorem dX8_bestStart_6 : decode cX8_bestStart 6 = .ok (.invokevirtual 91, 3) := by decide +kernel
theorem dX8_bestStart_9 : decode cX8_bestStart 9 = .ok (.ifCond .ne 5, 3) := by decide +kernel
theorem dX8_bestStart_12 : decode cX8_bestStart 12 = .ok (.iconst 0, 1) := by decide +kernel
theorem dX8_bestStart_13 : decode cX8_bestStart 13 = .ok (.ireturn, 1) := by decide +kernel
theorem dX8_bestStart_14 : decode cX8_bestStart 14 = .ok (.iconst (-1), 1) := by decide +kernel
theorem dX8_bestStart_15 : decode cX8_bestStart 15 = .ok (.istore_n 2, 1) := by decide +kernel
theorem dX8_bestStart_16 : decode cX8_bestStart 16 = .ok (.iconst 0, 1) := by decide +kernel
theorem dX8_bestStart_17 : decode cX8_bestStart 17 = .ok (.istore_n 3, 1) := by decide +kernel
theorem dX8_bestStart_18 : decode cX8_bestStart 18 = .ok (.iconst 0, 1) := by decide +kernel
theorem dX8_bestStart_19 : decode cX8_bestStart 19 = .ok (.istore 4, 2) := by decide +kernel
theorem dX8_bestStart_21 : decode cX8_bestStart 21 = .ok (.iload 4, 2) := by decide +kernel
theorem dX8_bestStart_23 : decode cX8_bestStart 23 = .ok (.aload_n 0, 1) := by decide +kernel
theorem dX8_bestStart_24 : decode cX8_bestStart 24 = .ok (.iload_n 1, 1) := by decide +kernel
theorem dX8_bestStart_25 : decode cX8_bestStart 25 = .ok (.iconst 0, 1) := by decide +kernel
theorem dX8_bestStart_26 : decode cX8_bestStart 26 = .ok (.invokevirtual 166, 3) := by decide +kernel
theorem dX8_bestStart_29 : decode cX8_bestStart 29 = .ok (.if_icmp .ge 51, 3) := by decide +kernel
theorem dX8_bestStart_32 : decode cX8_bestStart 32 = .ok (.aload_n 0, 1) := by decide +kernel
theorem dX8_bestStart_33 : decode cX8_bestStart 33 = .ok (.iload_n 1, 1) := by decide +kernel
theorem dX8_bestStart_34 : decode cX8_bestStart 34 = .ok (.iload 4, 2) := by decide +kernel
theorem dX8_bestStart_36 : decode cX8_bestStart 36 = .ok (.invokevirtual 229, 3) := by decide +kernel
theorem dX8_bestStart_39 : decode cX8_bestStart 39 = .ok (.ifCond .ne 6, 3) := by decide +kernel
theorem dX8_bestStart_42 : decode cX8_bestStart 42 = .ok (.goto 32, 3) := by decide +kernel
theorem dX8_bestStart_45 : decode cX8_bestStart 45 = .ok (.aload_n 0, 1) := by decide +kernel
theorem dX8_bestStart_46 : decode cX8_bestStart 46 = .ok (.iload_n 1, 1) := by decide +kernel
theorem dX8_bestStart_47 : decode cX8_bestStart 47 = .ok (.iload 4, 2) := by decide +kernel
theorem dX8_bestStart_49 : decode cX8_bestStart 49 = .ok (.invokevirtual 371, 3) := by decide +kernel
theorem dX8_bestStart_52 : decode cX8_bestStart 52 = .ok (.istore 5, 2) := by decide +kernel
theorem dX8_bestStart_54 : decode cX8_bestStart 54 = .ok (.iload_n 2, 1) := by decide +kernel
theorem dX8_bestStart_55 : decode cX8_bestStart 55 = .ok (.iconst (-1), 1) := by decide +kernel
theorem dX8_bestStart_56 : decode cX8_bestStart 56 = .ok (.if_icmp .eq 12, 3) := by decide +kernel
theorem dX8_bestStart_59 : decode cX8_bestStart 59 = .ok (.iload 5, 2) := by decide +kernel
theorem dX8_bestStart_61 : decode cX8_bestStart 61 = .ok (.iload_n 3, 1) := by decide +kernel
theorem dX8_bestStart_62 : decode cX8_bestStart 62 = .ok (.if_icmp .gt 6, 3) := by decide +kernel
theorem dX8_bestStart_65 : decode cX8_bestStart 65 = .ok (.goto 9, 3) := by decide +kernel
theorem dX8_bestStart_68 : decode cX8_bestStart 68 = .ok (.iload 4, 2) := by decide +kernel
theorem dX8_bestStart_70 : decode cX8_bestStart 70 = .ok (.istore_n 2, 1) := by decide +kernel
theorem dX8_bestStart_71 : decode cX8_bestStart 71 = .ok (.iload 5, 2) := by decide +kernel
theorem dX8_bestStart_73 : decode cX8_bestStart 73 = .ok (.istore_n 3, 1) := by decide +kernel
theorem dX8_bestStart_74 : decode cX8_bestStart 74 = .ok (.iinc 4 1, 3) := by decide +kernel
theorem dX8_bestStart_77 : decode cX8_bestStart 77 = .ok (.goto (-56), 3) := by decide +kernel
theorem dX8_bestStart_80 : decode cX8_bestStart 80 = .ok (.iload_n 2, 1) := by decide +kernel
theorem dX8_bestStart_81 : decode cX8_bestStart 81 = .ok (.ireturn, 1) := by decide +kernel
theorem dX8_agreementShare_0 : decode cX8_agreementShare 0 = .ok (.aload_n 0, 1) := by decide +kernel
theorem dX8_agreementShare_1 : decode cX8_agreementShare 1 = .ok (.iconst 0, 1) := by decide +kernel
theorem dX8_agreementShare_2 : decode cX8_agreementShare 2 = .ok (.putfield 81, 3) := by decide +kernel
theorem dX8_agreementShare_5 : decode cX8_agreementShare 5 = .ok (.aload_n 0, 1) := by decide +kernel
theorem dX8_agreementShare_6 : decode cX8_agreementShare 6 = .ok (.invokevirtual 350, 3) := by decide +kernel
theorem dX8_agreementShare_9 : decode cX8_agreementShare 9 = .ok (.istore_n 1, 1) := by decide +kernel
theorem dX8_agreementShare_10 : decode cX8_agreementShare 10 = .ok (.iload_n 1, 1) := by decide +kernel
theorem dX8_agreementShare_11 : decode cX8_agreementShare 11 = .ok (.ifCond .ne 7, 3) := by decide +kernel
theorem dX8_agreementShare_14 : decode cX8_agreementShare 14 = .ok (.fconst 0, 1) := by decide +kernel
theorem dX8_agreementShare_15 : decode cX8_agreementShare 15 = .ok (.goto 18, 3) := by decide +kernel
theorem dX8_agreementShare_18 : decode cX8_agreementShare 18 = .ok (.aload_n 0, 1) := by decide +kernel
theorem dX8_agreementShare_19 : decode cX8_agreementShare 19 = .ok (.invokevirtual 356, 3) := by decide +kernel
theorem dX8_agreementShare_22 : decode cX8_agreementShare 22 = .ok (.i2f, 1) := by decide +kernel
theorem dX8_agreementShare_23 : decode cX8_agreementShare 23 = .ok (.aload_n 0, 1) := by decide +kernel
theorem dX8_agreementShare_24 : decode cX8_agreementShare 24 = .ok (.getfield 20, 3) := by decide +kernel
theorem dX8_agreementShare_27 : decode cX8_agreementShare 27 = .ok (.iconst 2, 1) := by decide +kernel
theorem dX8_agreementShare_28 : decode cX8_agreementShare 28 = .ok (.iaload, 1) := by decide +kernel
theorem dX8_agreementShare_29 : decode cX8_agreementShare 29 = .ok (.iload_n 1, 1) := by decide +kernel
theorem dX8_agreementShare_30 : decode cX8_agreementShare 30 = .ok (.imul, 1) := by decide +kernel
theorem dX8_agreementShare_31 : decode cX8_agreementShare 31 = .ok (.i2f, 1) := by decide +kernel
theorem dX8_agreementShare_32 : decode cX8_agreementShare 32 = .ok (.fdiv, 1) := by decide +kernel
theorem dX8_agreementShare_33 : decode cX8_agreementShare 33 = .ok (.freturn, 1) := by decide +kernel
theorem dX8_meanDistance_0 : decode cX8_meanDistance 0 = .ok (.aload_n 0, 1) := by decide +kernel
theorem dX8_meanDistance_1 : decode cX8_meanDistance 1 = .ok (.iconst 0, 1) := by decide +kernel
theorem dX8_meanDistance_2 : decode cX8_meanDistance 2 = .ok (.putfield 81, 3) := by decide +kernel
theorem dX8_meanDistance_5 : decode cX8_meanDistance 5 = .ok (.iconst 0, 1) := by decide +kernel
theorem dX8_meanDistance_6 : decode cX8_meanDistance 6 = .ok (.istore_n 1, 1) := by decide +kernel
theorem dX8_meanDistance_7 : decode cX8_meanDistance 7 = .ok (.iconst 0, 1) := by decide +kernel
theorem dX8_meanDistance_8 : decode cX8_meanDistance 8 = .ok (.istore_n 2, 1) := by decide +kernel
theorem dX8_meanDistance_9 : decode cX8_meanDistance 9 = .ok (.iload_n 2, 1) := by decide +kernel
theorem dX8_meanDistance_10 : decode cX8_meanDistance 10 = .ok (.aload_n 0, 1) := by decide +kernel
theorem dX8_meanDistance_11 : decode cX8_meanDistance 11 = .ok (.getfield 20, 3) := by decide +kernel
theorem dX8_meanDistance_14 : decode cX8_meanDistance 14 = .ok (.iconst 0, 1) := by decide +kernel
theorem dX8_meanDistance_15 : decode cX8_meanDistance 15 = .ok (.iaload, 1) := by decide +kernel
theorem dX8_meanDistance_16 : decode cX8_meanDistance 16 = .ok (.if_icmp .ge 28, 3) := by decide +kernel
theorem dX8_meanDistance_19 : decode cX8_meanDistance 19 = .ok (.iload_n 1, 1) := by decide +kernel
theorem dX8_meanDistance_20 : decode cX8_meanDistance 20 = .ok (.aload_n 0, 1) := by decide +kernel
theorem dX8_meanDistance_21 : decode cX8_meanDistance 21 = .ok (.iload_n 2, 1) := by decide +kernel
theorem dX8_meanDistance_22 : decode cX8_meanDistance 22 = .ok (.invokevirtual 226, 3) := by decide +kernel
theorem dX8_meanDistance_25 : decode cX8_meanDistance 25 = .ok (.ifCond .ne 7, 3) := by decide +kernel
theorem dX8_meanDistance_28 : decode cX8_meanDistance 28 = .ok (.iconst 1, 1) := by decide +kernel
theorem dX8_meanDistance_29 : decode cX8_meanDistance 29 = .ok (.goto 4, 3) := by decide +kernel
theorem dX8_meanDistance_32 : decode cX8_meanDistance 32 = .ok (.iconst 0, 1) := by decide +kernel
theorem dX8_meanDistance_33 : decode cX8_meanDistance 33 = .ok (.invokestatic 84, 3) := by decide +kernel
theorem dX8_meanDistance_36 : decode cX8_meanDistance 36 = .ok (.iadd, 1) := by decide +kernel
theorem dX8_meanDistance_37 : decode cX8_meanDistance 37 = .ok (.istore_n 1, 1) := by decide +kernel
theorem dX8_meanDistance_38 : decode cX8_meanDistance 38 = .ok (.iinc 2 1, 3) := by decide +kernel
theorem dX8_meanDistance_41 : decode cX8_meanDistance 41 = .ok (.goto (-32), 3) := by decide +kernel
theorem dX8_meanDistance_44 : decode cX8_meanDistance 44 = .ok (.iload_n 1, 1) := by decide +kernel
theorem dX8_meanDistance_45 : decode cX8_meanDistance 45 = .ok (.ifCond .ne 5, 3) := by decide +kernel
theorem dX8_meanDistance_48 : decode cX8_meanDistance 48 = .ok (.dconst 0, 1) := by decide +kernel
theorem dX8_meanDistance_49 : decode cX8_meanDistance 49 = .ok (.dreturn, 1) := by decide +kernel
theorem dX8_meanDistance_50 : decode cX8_meanDistance 50 = .ok (.aload_n 0, 1) := by decide +kernel
theorem dX8_meanDistance_51 : decode cX8_meanDistance 51 = .ok (.invokevirtual 323, 3) := by decide +kernel
theorem dX8_meanDistance_54 : decode cX8_meanDistance 54 = .ok (.aload_n 0, 1) := by decide +kernel
theorem dX8_meanDistance_55 : decode cX8_meanDistance 55 = .ok (.getfield 309, 3) := by decide +kernel
theorem dX8_meanDistance_58 : decode cX8_meanDistance 58 = .ok (.i2d, 1) := by decide +kernel
theorem dX8_meanDistance_59 : decode cX8_meanDistance 59 = .ok (.iload_n 1, 1) := by decide +kernel
theorem dX8_meanDistance_60 : decode cX8_meanDistance 60 = .ok (.i2d, 1) := by decide +kernel
theorem dX8_meanDistance_61 : decode cX8_meanDistance 61 = .ok (.ddiv, 1) := by decide +kernel
theorem dX8_meanDistance_62 : decode cX8_meanDistance 62 = .ok (.dreturn, 1) := by decide +kernel
theorem dX8_improvesToEnd_0 : decode cX8_improvesToEnd 0 = .ok (.aload_n 0, 1) := by decide +kernel
theorem dX8_improvesToEnd_1 : decode cX8_improvesToEnd 1 = .ok (.iload_n 1, 1) := by decide +kernel
theorem dX8_improvesToEnd_2 : decode cX8_improvesToEnd 2 = .ok (.i2l, 1) := by decide +kernel
theorem dX8_improvesToEnd_3 : decode cX8_improvesToEnd 3 = .ok (.lconst 0, 1) := by decide +kernel
theorem dX8_improvesToEnd_4 : decode cX8_improvesToEnd 4 = .ok (.ldc2_w 374, 3) := by decide +kernel
theorem dX8_improvesToEnd_7 : decode cX8_improvesToEnd 7 = .ok (.invokestatic 99, 3) := by decide +kernel
theorem dX8_improvesToEnd_10 : decode cX8_improvesToEnd 10 = .ok (.invokevirtual 91, 3) := by decide +kernel
theorem dX8_improvesToEnd_13 : decode cX8_improvesToEnd 13 = .ok (.ifCond .ne 5, 3) := by decide +kernel
theorem dX8_improvesToEnd_16 : decode cX8_improvesToEnd 16 = .ok (.iconst 0, 1) := by decide +kernel
theorem dX8_improvesToEnd_17 : decode cX8_improvesToEnd 17 = .ok (.ireturn, 1) := by decide +kernel
theorem dX8_improvesToEnd_18 : decode cX8_improvesToEnd 18 = .ok (.aload_n 0, 1) := by decide +kernel
theorem dX8_improvesToEnd_19 : decode cX8_improvesToEnd 19 = .ok (.invokevirtual 338, 3) := by decide +kernel
theorem dX8_improvesToEnd_22 : decode cX8_improvesToEnd 22 = .ok (.iconst 0, 1) := by decide +kernel
theorem dX8_improvesToEnd_23 : decode cX8_improvesToEnd 23 = .ok (.istore_n 2, 1) := by decide +kernel
theorem dX8_improvesToEnd_24 : decode cX8_improvesToEnd 24 = .ok (.aload_n 0, 1) := by decide +kernel
theorem dX8_improvesToEnd_25 : decode cX8_improvesToEnd 25 = .ok (.invokevirtual 365, 3) := by decide +kernel
theorem dX8_improvesToEnd_28 : decode cX8_improvesToEnd 28 = .ok (.istore_n 3, 1) := by decide +kernel
theorem dX8_improvesToEnd_29 : decode cX8_improvesToEnd 29 = .ok (.iload_n 2, 1) := by decide +kernel
theorem dX8_improvesToEnd_30 : decode cX8_improvesToEnd 30 = .ok (.iload_n 1, 1) := by decide +kernel
theorem dX8_improvesToEnd_31 : decode cX8_improvesToEnd 31 = .ok (.if_icmp .ge 18, 3) := by decide +kernel
theorem dX8_improvesToEnd_34 : decode cX8_improvesToEnd 34 = .ok (.iload_n 3, 1) := by decide +kernel
theorem dX8_improvesToEnd_35 : decode cX8_improvesToEnd 35 = .ok (.ifCond .eq 14, 3) := by decide +kernel
theorem dX8_improvesToEnd_38 : decode cX8_improvesToEnd 38 = .ok (.aload_n 0, 1) := by decide +kernel
theorem dX8_improvesToEnd_39 : decode cX8_improvesToEnd 39 = .ok (.invokevirtual 365, 3) := by decide +kernel
theorem dX8_improvesToEnd_42 : decode cX8_improvesToEnd 42 = .ok (.istore_n 3, 1) := by decide +kernel
theorem dX8_improvesToEnd_43 : decode cX8_improvesToEnd 43 = .ok (.iinc 2 1, 3) := by decide +kernel
theorem dX8_improvesToEnd_46 : decode cX8_improvesToEnd 46 = .ok (.goto (-17), 3) := by decide +kernel
theorem dX8_improvesToEnd_49 : decode cX8_improvesToEnd 49 = .ok (.aload_n 0, 1) := by decide +kernel
theorem dX8_improvesToEnd_50 : decode cX8_improvesToEnd 50 = .ok (.invokevirtual 344, 3) := by decide +kernel
theorem dX8_improvesToEnd_53 : decode cX8_improvesToEnd 53 = .ok (.iload_n 3, 1) := by decide +kernel
theorem dX8_improvesToEnd_54 : decode cX8_improvesToEnd 54 = .ok (.ifCond .eq 7, 3) := by decide +kernel
theorem dX8_improvesToEnd_57 : decode cX8_improvesToEnd 57 = .ok (.iconst (-1), 1) := by decide +kernel
theorem dX8_improvesToEnd_58 : decode cX8_improvesToEnd 58 = .ok (.goto 4, 3) := by decide +kernel
theorem dX8_improvesToEnd_61 : decode cX8_improvesToEnd 61 = .ok (.iload_n 2, 1) := by decide +kernel
theorem dX8_improvesToEnd_62 : decode cX8_improvesToEnd 62 = .ok (.ireturn, 1) := by decide +kernel
theorem dX8_kept_0 : decode cX8_kept 0 = .ok (.aload_n 0, 1) := by decide +kernel
theorem dX8_kept_1 : decode cX8_kept 1 = .ok (.invokevirtual 376, 3) := by decide +kernel
theorem dX8_kept_4 : decode cX8_kept 4 = .ok (.iload_n 1, 1) := by decide +kernel
theorem dX8_kept_5 : decode cX8_kept 5 = .ok (.ireturn, 1) := by decide +kernel
theorem dX8_chooses_0 : decode cX8_chooses 0 = .ok (.aload_n 0, 1) := by decide +kernel
theorem dX8_chooses_1 : decode cX8_chooses 1 = .ok (.iload_n 1, 1) := by decide +kernel
theorem dX8_chooses_2 : decode cX8_chooses 2 = .ok (.iconst 1, 1) := by decide +kernel
theorem dX8_chooses_3 : decode cX8_chooses 3 = .ok (.iload_n 2, 1) := by decide +kernel
theorem dX8_chooses_4 : decode cX8_chooses 4 = .ok (.invokevirtual 179, 3) := by decide +kernel
theorem dX8_chooses_7 : decode cX8_chooses 7 = .ok (.aload_n 0, 1) := by decide +kernel
theorem dX8_chooses_8 : decode cX8_chooses 8 = .ok (.invokevirtual 356, 3) := by decide +kernel
theorem dX8_chooses_11 : decode cX8_chooses 11 = .ok (.ireturn, 1) := by decide +kernel
theorem dX8_clearsRow_0 : decode cX8_clearsRow 0 = .ok (.aload_n 0, 1) := by decide +kernel
theorem dX8_clearsRow_1 : decode cX8_clearsRow 1 = .ok (.iload_n 1, 1) := by decide +kernel
theorem dX8_clearsRow_2 : decode cX8_clearsRow 2 = .ok (.iconst 1, 1) := by decide +kernel
theorem dX8_clearsRow_3 : decode cX8_clearsRow 3 = .ok (.invokevirtual 166, 3) := by decide +kernel
theorem dX8_clearsRow_6 : decode cX8_clearsRow 6 = .ok (.istore_n 2, 1) := by decide +kernel
theorem dX8_clearsRow_7 : decode cX8_clearsRow 7 = .ok (.aload_n 0, 1) := by decide +kernel
theorem dX8_clearsRow_8 : decode cX8_clearsRow 8 = .ok (.iload_n 1, 1) := by decide +kernel
theorem dX8_clearsRow_9 : decode cX8_clearsRow 9 = .ok (.iconst 1, 1) := by decide +kernel
theorem dX8_clearsRow_10 : decode cX8_clearsRow 10 = .ok (.iconst (-1), 1) := by decide +kernel
theorem dX8_clearsRow_11 : decode cX8_clearsRow 11 = .ok (.invokevirtual 179, 3) := by decide +kernel
theorem dX8_clearsRow_14 : decode cX8_clearsRow 14 = .ok (.iload_n 2, 1) := by decide +kernel
theorem dX8_clearsRow_15 : decode cX8_clearsRow 15 = .ok (.ireturn, 1) := by decide +kernel
theorem dX8_whyTake_0 : decode cX8_whyTake 0 = .ok (.aload_n 0, 1) := by decide +kernel
theorem dX8_whyTake_1 : decode cX8_whyTake 1 = .ok (.getfield 20, 3) := by decide +kernel
theorem dX8_whyTake_4 : decode cX8_whyTake 4 = .ok (.iconst 4, 1) := by decide +kernel
theorem dX8_whyTake_5 : decode cX8_whyTake 5 = .ok (.iaload, 1) := by decide +kernel
theorem dX8_whyTake_6 : decode cX8_whyTake 6 = .ok (.bipush 6, 2) := by decide +kernel
theorem dX8_whyTake_8 : decode cX8_whyTake 8 = .ok (.if_icmp .ne 5, 3) := by decide +kernel
theorem dX8_whyTake_11 : decode cX8_whyTake 11 = .ok (.iconst 1, 1) := by decide +kernel
theorem dX8_whyTake_12 : decode cX8_whyTake 12 = .ok (.ireturn, 1) := by decide +kernel
theorem dX8_whyTake_13 : decode cX8_whyTake 13 = .ok (.aload_n 0, 1) := by decide +kernel
theorem dX8_whyTake_14 : decode cX8_whyTake 14 = .ok (.iload_n 1, 1) := by decide +kernel
theorem dX8_whyTake_15 : decode cX8_whyTake 15 = .ok (.invokevirtual 242, 3) := by decide +kernel
theorem dX8_whyTake_18 : decode cX8_whyTake 18 = .ok (.aload_n 0, 1) := by decide +kernel
theorem dX8_whyTake_19 : decode cX8_whyTake 19 = .ok (.invokevirtual 274, 3) := by decide +kernel
theorem dX8_whyTake_22 : decode cX8_whyTake 22 = .ok (.ifCond .ne 7, 3) := by decide +kernel
theorem dX8_whyTake_25 : decode cX8_whyTake 25 = .ok (.iconst 2, 1) := by decide +kernel
theorem dX8_whyTake_26 : decode cX8_whyTake 26 = .ok (.goto 4, 3) := by decide +kernel
theorem dX8_whyTake_29 : decode cX8_whyTake 29 = .ok (.iconst 0, 1) := by decide +kernel
theorem dX8_whyTake_30 : decode cX8_whyTake 30 = .ok (.ireturn, 1) := by decide +kernel
theorem dX8_takes_0 : decode cX8_takes 0 = .ok (.aload_n 0, 1) := by decide +kernel
theorem dX8_takes_1 : decode cX8_takes 1 = .ok (.iload_n 1, 1) := by decide +kernel
theorem dX8_takes_2 : decode cX8_takes 2 = .ok (.invokevirtual 242, 3) := by decide +kernel
theorem dX8_takes_5 : decode cX8_takes 5 = .ok (.aload_n 0, 1) := by decide +kernel
theorem dX8_takes_6 : decode cX8_takes 6 = .ok (.invokevirtual 274, 3) := by decide +kernel
theorem dX8_takes_9 : decode cX8_takes 9 = .ok (.istore_n 2, 1) := by decide +kernel
theorem dX8_takes_10 : decode cX8_takes 10 = .ok (.iconst 0, 1) := by decide +kernel
theorem dX8_takes_11 : decode cX8_takes 11 = .ok (.istore_n 3, 1) := by decide +kernel
theorem dX8_takes_12 : decode cX8_takes 12 = .ok (.iload_n 3, 1) := by decide +kernel
theorem dX8_takes_13 : decode cX8_takes 13 = .ok (.aload_n 0, 1) := by decide +kernel
theorem dX8_takes_14 : decode cX8_takes 14 = .ok (.getfield 20, 3) := by decide +kernel
theorem dX8_takes_17 : decode cX8_takes 17 = .ok (.iconst 0, 1) := by decide +kernel
theorem dX8_takes_18 : decode cX8_takes 18 = .ok (.iaload, 1) := by decide +kernel
theorem dX8_takes_19 : decode cX8_takes 19 = .ok (.if_icmp .ge 105, 3) := by decide +kernel
theorem dX8_takes_22 : decode cX8_takes 22 = .ok (.iload_n 2, 1) := by decide +kernel
theorem dX8_takes_23 : decode cX8_takes 23 = .ok (.iload_n 3, 1) := by decide +kernel
theorem dX8_takes_24 : decode cX8_takes 24 = .ok (.invokestatic 186, 3) := by decide +kernel
theorem dX8_takes_27 : decode cX8_takes 27 = .ok (.ifCond .eq 11, 3) := by decide +kernel
theorem dX8_takes_30 : decode cX8_takes 30 = .ok (.aload_n 0, 1) := by decide +kernel
theorem dX8_takes_31 : decode cX8_takes 31 = .ok (.iload_n 3, 1) := by decide +kernel
theorem dX8_takes_32 : decode cX8_takes 32 = .ok (.invokevirtual 277, 3) := by decide +kernel
theorem dX8_takes_35 : decode cX8_takes 35 = .ok (.goto 4, 3) := by decide +kernel
theorem dX8_takes_38 : decode cX8_takes 38 = .ok (.iconst (-1), 1) := by decide +kernel
theorem dX8_takes_39 : decode cX8_takes 39 = .ok (.istore 4, 2) := by decide +kernel
theorem dX8_takes_41 : decode cX8_takes 41 = .ok (.iconst 0, 1) := by decide +kernel
theorem dX8_takes_42 : decode cX8_takes 42 = .ok (.istore 5, 2) := by decide +kernel
theorem dX8_takes_44 : decode cX8_takes 44 = .ok (.iload 5, 2) := by decide +kernel
theorem dX8_takes_46 : decode cX8_takes 46 = .ok (.aload_n 0, 1) := by decide +kernel
theorem dX8_takes_47 : decode cX8_takes 47 = .ok (.getfield 20, 3) := by decide +kernel
theorem dX8_takes_50 : decode cX8_takes 50 = .ok (.iconst 2, 1) := by decide +kernel
theorem dX8_takes_51 : decode cX8_takes 51 = .ok (.iaload, 1) := by decide +kernel
theorem dX8_takes_52 : decode cX8_takes 52 = .ok (.if_icmp .ge 35, 3) := by decide +kernel
theorem dX8_takes_55 : decode cX8_takes 55 = .ok (.iload 4, 2) := by decide +kernel
theorem dX8_takes_57 : decode cX8_takes 57 = .ok (.iconst (-1), 1) := by decide +kernel
theorem dX8_takes_58 : decode cX8_takes 58 = .ok (.if_icmp .eq 29, 3) := by decide +kernel
theorem dX8_takes_61 : decode cX8_takes 61 = .ok (.aload_n 0, 1) := by decide +kernel
theorem dX8_takes_62 : decode cX8_takes 62 = .ok (.iload_n 3, 1) := by decide +kernel
theorem dX8_takes_63 : decode cX8_takes 63 = .ok (.iconst 3, 1) := by decide +kernel
theorem dX8_takes_64 : decode cX8_takes 64 = .ok (.aload_n 0, 1) := by decide +kernel
theorem dX8_takes_65 : decode cX8_takes 65 = .ok (.iload_n 3, 1) := by decide +kernel
theorem dX8_takes_66 : decode cX8_takes 66 = .ok (.iconst 3, 1) := by decide +kernel
theorem dX8_takes_67 : decode cX8_takes 67 = .ok (.invokevirtual 166, 3) := by decide +kernel
theorem dX8_takes_70 : decode cX8_takes 70 = .ok (.iconst 1, 1) := by decide +kernel
theorem dX8_takes_71 : decode cX8_takes 71 = .ok (.iload 4, 2) := by decide +kernel
theorem dX8_takes_73 : decode cX8_takes 73 = .ok (.iload 5, 2) := by decide +kernel
theorem dX8_takes_75 : decode cX8_takes 75 = .ok (.iadd, 1) := by decide +kernel
theorem dX8_takes_76 : decode cX8_takes 76 = .ok (.ishl, 1) := by decide +kernel
theorem dX8_takes_77 : decode cX8_takes 77 = .ok (.ior, 1) := by decide +kernel
theorem dX8_takes_78 : decode cX8_takes 78 = .ok (.invokevirtual 179, 3) := by decide +kernel
theorem dX8_takes_81 : decode cX8_takes 81 = .ok (.iinc 5 1, 3) := by decide +kernel
theorem dX8_takes_84 : decode cX8_takes 84 = .ok (.goto (-40), 3) := by decide +kernel
theorem dX8_takes_87 : decode cX8_takes 87 = .ok (.aload_n 0, 1) := by decide +kernel
theorem dX8_takes_88 : decode cX8_takes 88 = .ok (.iload_n 3, 1) := by decide +kernel
theorem dX8_takes_89 : decode cX8_takes 89 = .ok (.iconst 1, 1) := by decide +kernel
theorem dX8_takes_90 : decode cX8_takes 90 = .ok (.invokevirtual 166, 3) := by decide +kernel
theorem dX8_takes_93 : decode cX8_takes 93 = .ok (.iconst (-1), 1) := by decide +kernel
theorem dX8_takes_94 : decode cX8_takes 94 = .ok (.if_icmp .eq 24, 3) := by decide +kernel
theorem dX8_takes_97 : decode cX8_takes 97 = .ok (.aload_n 0, 1) := by decide +kernel
theorem dX8_takes_98 : decode cX8_takes 98 = .ok (.iload_n 3, 1) := by decide +kernel
theorem dX8_takes_99 : decode cX8_takes 99 = .ok (.aload_n 0, 1) := by decide +kernel
theorem dX8_takes_100 : decode cX8_takes 100 = .ok (.iload_n 3, 1) := by decide +kernel
theorem dX8_takes_101 : decode cX8_takes 101 = .ok (.iconst 1, 1) := by decide +kernel
theorem dX8_takes_102 : decode cX8_takes 102 = .ok (.invokevirtual 166, 3) := by decide +kernel
theorem dX8_takes_105 : decode cX8_takes 105 = .ok (.invokevirtual 229, 3) := by decide +kernel
theorem dX8_takes_108 : decode cX8_takes 108 = .ok (.ifCond .ne 10, 3) := by decide +kernel
theorem dX8_takes_111 : decode cX8_takes 111 = .ok (.aload_n 0, 1) := by decide +kernel
theorem dX8_takes_112 : decode cX8_takes 112 = .ok (.iload_n 3, 1) := by decide +kernel
theorem dX8_takes_113 : decode cX8_takes 113 = .ok (.iconst 1, 1) := by decide +kernel
theorem dX8_takes_114 : decode cX8_takes 114 = .ok (.iconst (-1), 1) := by decide +kernel
theorem dX8_takes_115 : decode cX8_takes 115 = .ok (.invokevirtual 179, 3) := by decide +kernel
theorem dX8_takes_118 : decode cX8_takes 118 = .ok (.iinc 3 1, 3) := by decide +kernel
theorem dX8_takes_121 : decode cX8_takes 121 = .ok (.goto (-109), 3) := by decide +kernel
theorem dX8_takes_124 : decode cX8_takes 124 = .ok (.aload_n 0, 1) := by decide +kernel
theorem dX8_takes_125 : decode cX8_takes 125 = .ok (.getfield 20, 3) := by decide +kernel
theorem dX8_takes_128 : decode cX8_takes 128 = .ok (.iconst 5, 1) := by decide +kernel
theorem dX8_takes_129 : decode cX8_takes 129 = .ok (.aload_n 0, 1) := by decide +kernel
theorem dX8_takes_130 : decode cX8_takes 130 = .ok (.getfield 20, 3) := by decide +kernel
theorem dX8_takes_133 : decode cX8_takes 133 = .ok (.iconst 4, 1) := by decide +kernel
theorem dX8_takes_134 : decode cX8_takes 134 = .ok (.iaload, 1) := by decide +kernel
theorem dX8_takes_135 : decode cX8_takes 135 = .ok (.iadd, 1) := by decide +kernel
theorem dX8_takes_136 : decode cX8_takes 136 = .ok (.iload_n 1, 1) := by decide +kernel
theorem dX8_takes_137 : decode cX8_takes 137 = .ok (.iastore, 1) := by decide +kernel
theorem dX8_takes_138 : decode cX8_takes 138 = .ok (.aload_n 0, 1) := by decide +kernel
theorem dX8_takes_139 : decode cX8_takes 139 = .ok (.getfield 20, 3) := by decide +kernel
theorem dX8_takes_142 : decode cX8_takes 142 = .ok (.iconst 4, 1) := by decide +kernel
theorem dX8_takes_143 : decode cX8_takes 143 = .ok (.dup2, 1) := by decide +kernel
theorem dX8_takes_144 : decode cX8_takes 144 = .ok (.iaload, 1) := by decide +kernel
theorem dX8_takes_145 : decode cX8_takes 145 = .ok (.iconst 1, 1) := by decide +kernel
theorem dX8_takes_146 : decode cX8_takes 146 = .ok (.iadd, 1) := by decide +kernel
theorem dX8_takes_147 : decode cX8_takes 147 = .ok (.iastore, 1) := by decide +kernel
theorem dX8_takes_148 : decode cX8_takes 148 = .ok (.iload_n 2, 1) := by decide +kernel
theorem dX8_takes_149 : decode cX8_takes 149 = .ok (.invokestatic 253, 3) := by decide +kernel
theorem dX8_takes_152 : decode cX8_takes 152 = .ok (.ireturn, 1) := by decide +kernel
theorem dX8_setsOut_0 : decode cX8_setsOut 0 = .ok (.aload_n 0, 1) := by decide +kernel
theorem dX8_setsOut_1 : decode cX8_setsOut 1 = .ok (.iload_n 1, 1) := by decide +kernel
theorem dX8_setsOut_2 : decode cX8_setsOut 2 = .ok (.iconst 2, 1) := by decide +kernel
theorem dX8_setsOut_3 : decode cX8_setsOut 3 = .ok (.iload_n 2, 1) := by decide +kernel
theorem dX8_setsOut_4 : decode cX8_setsOut 4 = .ok (.invokestatic 84, 3) := by decide +kernel
theorem dX8_setsOut_7 : decode cX8_setsOut 7 = .ok (.invokevirtual 179, 3) := by decide +kernel
theorem dX8_setsOut_10 : decode cX8_setsOut 10 = .ok (.iload_n 2, 1) := by decide +kernel
theorem dX8_setsOut_11 : decode cX8_setsOut 11 = .ok (.ifCond .eq 10, 3) := by decide +kernel
theorem dX8_setsOut_14 : decode cX8_setsOut 14 = .ok (.aload_n 0, 1) := by decide +kernel
theorem dX8_setsOut_15 : decode cX8_setsOut 15 = .ok (.iload_n 1, 1) := by decide +kernel
theorem dX8_setsOut_16 : decode cX8_setsOut 16 = .ok (.iconst 1, 1) := by decide +kernel
theorem dX8_setsOut_17 : decode cX8_setsOut 17 = .ok (.iconst (-1), 1) := by decide +kernel
theorem dX8_setsOut_18 : decode cX8_setsOut 18 = .ok (.invokevirtual 179, 3) := by decide +kernel
theorem dX8_setsOut_21 : decode cX8_setsOut 21 = .ok (.iconst 0, 1) := by decide +kernel
theorem dX8_setsOut_22 : decode cX8_setsOut 22 = .ok (.istore_n 3, 1) := by decide +kernel
theorem dX8_setsOut_23 : decode cX8_setsOut 23 = .ok (.iconst 0, 1) := by decide +kernel
theorem dX8_setsOut_24 : decode cX8_setsOut 24 = .ok (.istore 4, 2) := by decide +kernel
theorem dX8_setsOut_26 : decode cX8_setsOut 26 = .ok (.iload 4, 2) := by decide +kernel
theorem dX8_setsOut_28 : decode cX8_setsOut 28 = .ok (.aload_n 0, 1) := by decide +kernel
theorem dX8_setsOut_29 : decode cX8_setsOut 29 = .ok (.getfield 20, 3) := by decide +kernel
theorem dX8_setsOut_32 : decode cX8_setsOut 32 = .ok (.iconst 0, 1) := by decide +kernel
theorem dX8_setsOut_33 : decode cX8_setsOut 33 = .ok (.iaload, 1) := by decide +kernel
theorem dX8_setsOut_34 : decode cX8_setsOut 34 = .ok (.if_icmp .ge 19, 3) := by decide +kernel
theorem dX8_setsOut_37 : decode cX8_setsOut 37 = .ok (.iload_n 3, 1) := by decide +kernel
theorem dX8_setsOut_38 : decode cX8_setsOut 38 = .ok (.aload_n 0, 1) := by decide +kernel
theorem dX8_setsOut_39 : decode cX8_setsOut 39 = .ok (.iload 4, 2) := by decide +kernel
theorem dX8_setsOut_41 : decode cX8_setsOut 41 = .ok (.iconst 2, 1) := by decide +kernel
theorem dX8_setsOut_42 : decode cX8_setsOut 42 = .ok (.invokevirtual 166, 3) := by decide +kernel
theorem dX8_setsOut_45 : decode cX8_setsOut 45 = .ok (.iadd, 1) := by decide +kernel
theorem dX8_setsOut_46 : decode cX8_setsOut 46 = .ok (.istore_n 3, 1) := by decide +kernel
theorem dX8_setsOut_47 : decode cX8_setsOut 47 = .ok (.iinc 4 1, 3) := by decide +kernel
theorem dX8_setsOut_50 : decode cX8_setsOut 50 = .ok (.goto (-24), 3) := by decide +kernel
theorem dX8_setsOut_53 : decode cX8_setsOut 53 = .ok (.iload_n 3, 1) := by decide +kernel
theorem dX8_setsOut_54 : decode cX8_setsOut 54 = .ok (.ireturn, 1) := by decide +kernel
theorem dX8_setsChanges_0 : decode cX8_setsChanges 0 = .ok (.aload_n 0, 1) := by decide +kernel
theorem dX8_setsChanges_1 : decode cX8_setsChanges 1 = .ok (.getfield 20, 3) := by decide +kernel
theorem dX8_setsChanges_4 : decode cX8_setsChanges 4 = .ok (.iconst 3, 1) := by decide +kernel
theorem dX8_setsChanges_5 : decode cX8_setsChanges 5 = .ok (.iaload, 1) := by decide +kernel
theorem dX8_setsChanges_6 : decode cX8_setsChanges 6 = .ok (.istore_n 2, 1) := by decide +kernel
theorem dX8_setsChanges_7 : decode cX8_setsChanges 7 = .ok (.aload_n 0, 1) := by decide +kernel
theorem dX8_setsChanges_8 : decode cX8_setsChanges 8 = .ok (.getfield 20, 3) := by decide +kernel
theorem dX8_setsChanges_11 : decode cX8_setsChanges 11 = .ok (.iconst 3, 1) := by decide +kernel
theorem dX8_setsChanges_12 : decode cX8_setsChanges 12 = .ok (.iload_n 1, 1) := by decide +kernel
theorem dX8_setsChanges_13 : decode cX8_setsChanges 13 = .ok (.iastore, 1) := by decide +kernel
theorem dX8_setsChanges_14 : decode cX8_setsChanges 14 = .ok (.iload_n 2, 1) := by decide +kernel
theorem dX8_setsChanges_15 : decode cX8_setsChanges 15 = .ok (.ireturn, 1) := by decide +kernel
theorem dX8_choose_0 : decode cX8_choose 0 = .ok (.aload_n 0, 1) := by decide +kernel
theorem dX8_choose_1 : decode cX8_choose 1 = .ok (.iload_n 1, 1) := by decide +kernel
theorem dX8_choose_2 : decode cX8_choose 2 = .ok (.invokevirtual 256, 3) := by decide +kernel
theorem dX8_choose_5 : decode cX8_choose 5 = .ok (.istore_n 3, 1) := by decide +kernel
theorem dX8_choose_6 : decode cX8_choose 6 = .ok (.aload_n 0, 1) := by decide +kernel
theorem dX8_choose_7 : decode cX8_choose 7 = .ok (.iload_n 3, 1) := by decide +kernel
theorem dX8_choose_8 : decode cX8_choose 8 = .ok (.iload_n 3, 1) := by decide +kernel
theorem dX8_choose_9 : decode cX8_choose 9 = .ok (.ifCond .eq 16, 3) := by decide +kernel
theorem dX8_choose_12 : decode cX8_choose 12 = .ok (.aload_n 0, 1) := by decide +kernel
theorem dX8_choose_13 : decode cX8_choose 13 = .ok (.iload_n 1, 1) := by decide +kernel
theorem dX8_choose_14 : decode cX8_choose 14 = .ok (.iload_n 2, 1) := by decide +kernel
theorem dX8_choose_15 : decode cX8_choose 15 = .ok (.invokevirtual 229, 3) := by decide +kernel
theorem dX8_choose_18 : decode cX8_choose 18 = .ok (.ifCond .eq 7, 3) := by decide +kernel
theorem dX8_choose_21 : decode cX8_choose 21 = .ok (.iconst 1, 1) := by decide +kernel
theorem dX8_choose_22 : decode cX8_choose 22 = .ok (.goto 4, 3) := by decide +kernel
theorem dX8_choose_25 : decode cX8_choose 25 = .ok (.iconst 0, 1) := by decide +kernel
theorem dX8_choose_26 : decode cX8_choose 26 = .ok (.invokevirtual 261, 3) := by decide +kernel
theorem dX8_choose_29 : decode cX8_choose 29 = .ok (.ifCond .ne 5, 3) := by decide +kernel
theorem dX8_choose_32 : decode cX8_choose 32 = .ok (.iconst 0, 1) := by decide +kernel
theorem dX8_choose_33 : decode cX8_choose 33 = .ok (.ireturn, 1) := by decide +kernel
theorem dX8_choose_34 : decode cX8_choose 34 = .ok (.aload_n 0, 1) := by decide +kernel
theorem dX8_choose_35 : decode cX8_choose 35 = .ok (.invokevirtual 217, 3) := by decide +kernel
theorem dX8_choose_38 : decode cX8_choose 38 = .ok (.aload_n 0, 1) := by decide +kernel
theorem dX8_choose_39 : decode cX8_choose 39 = .ok (.aload_n 0, 1) := by decide +kernel
theorem dX8_choose_40 : decode cX8_choose 40 = .ok (.iload_n 1, 1) := by decide +kernel
theorem dX8_choose_41 : decode cX8_choose 41 = .ok (.iload_n 2, 1) := by decide +kernel
theorem dX8_choose_42 : decode cX8_choose 42 = .ok (.invokevirtual 379, 3) := by decide +kernel
theorem dX8_choose_45 : decode cX8_choose 45 = .ok (.invokevirtual 382, 3) := by decide +kernel
theorem dX8_choose_48 : decode cX8_choose 48 = .ok (.ireturn, 1) := by decide +kernel
theorem dX8_clear_0 : decode cX8_clear 0 = .ok (.aload_n 0, 1) := by decide +kernel
theorem dX8_clear_1 : decode cX8_clear 1 = .ok (.iload_n 1, 1) := by decide +kernel
theorem dX8_clear_2 : decode cX8_clear 2 = .ok (.invokevirtual 256, 3) := by decide +kernel
theorem dX8_clear_5 : decode cX8_clear 5 = .ok (.istore_n 2, 1) := by decide +kernel
theorem dX8_clear_6 : decode cX8_clear 6 = .ok (.aload_n 0, 1) := by decide +kernel
theorem dX8_clear_7 : decode cX8_clear 7 = .ok (.iload_n 2, 1) := by decide +kernel
theorem dX8_clear_8 : decode cX8_clear 8 = .ok (.iload_n 2, 1) := by decide +kernel
theorem dX8_clear_9 : decode cX8_clear 9 = .ok (.ifCond .eq 17, 3) := by decide +kernel
theorem dX8_clear_12 : decode cX8_clear 12 = .ok (.aload_n 0, 1) := by decide +kernel
theorem dX8_clear_13 : decode cX8_clear 13 = .ok (.iload_n 1, 1) := by decide +kernel
theorem dX8_clear_14 : decode cX8_clear 14 = .ok (.iconst 1, 1) := by decide +kernel
theorem dX8_clear_15 : decode cX8_clear 15 = .ok (.invokevirtual 166, 3) := by decide +kernel
theorem dX8_clear_18 : decode cX8_clear 18 = .ok (.iconst (-1), 1) := by decide +kernel
theorem dX8_clear_19 : decode cX8_clear 19 = .ok (.if_icmp .eq 7, 3) := by decide +kernel
theorem dX8_clear_22 : decode cX8_clear 22 = .ok (.iconst 1, 1) := by decide +kernel
theorem dX8_clear_23 : decode cX8_clear 23 = .ok (.goto 4, 3) := by decide +kernel
theorem dX8_clear_26 : decode cX8_clear 26 = .ok (.iconst 0, 1) := by decide +kernel
theorem dX8_clear_27 : decode cX8_clear 27 = .ok (.invokevirtual 261, 3) := by decide +kernel
theorem dX8_clear_30 : decode cX8_clear 30 = .ok (.ifCond .ne 5, 3) := by decide +kernel
theorem dX8_clear_33 : decode cX8_clear 33 = .ok (.iconst 0, 1) := by decide +kernel
theorem dX8_clear_34 : decode cX8_clear 34 = .ok (.ireturn, 1) := by decide +kernel
theorem dX8_clear_35 : decode cX8_clear 35 = .ok (.aload_n 0, 1) := by decide +kernel
theorem dX8_clear_36 : decode cX8_clear 36 = .ok (.invokevirtual 217, 3) := by decide +kernel
theorem dX8_clear_39 : decode cX8_clear 39 = .ok (.aload_n 0, 1) := by decide +kernel
theorem dX8_clear_40 : decode cX8_clear 40 = .ok (.aload_n 0, 1) := by decide +kernel
theorem dX8_clear_41 : decode cX8_clear 41 = .ok (.iload_n 1, 1) := by decide +kernel
theorem dX8_clear_42 : decode cX8_clear 42 = .ok (.invokevirtual 384, 3) := by decide +kernel
theorem dX8_clear_45 : decode cX8_clear 45 = .ok (.invokevirtual 382, 3) := by decide +kernel
theorem dX8_clear_48 : decode cX8_clear 48 = .ok (.ireturn, 1) := by decide +kernel
theorem dX8_better_0 : decode cX8_better 0 = .ok (.aload_n 0, 1) := by decide +kernel
theorem dX8_better_1 : decode cX8_better 1 = .ok (.iload_n 1, 1) := by decide +kernel
theorem dX8_better_2 : decode cX8_better 2 = .ok (.invokevirtual 256, 3) := by decide +kernel
theorem dX8_better_5 : decode cX8_better 5 = .ok (.istore_n 2, 1) := by decide +kernel
theorem dX8_better_6 : decode cX8_better 6 = .ok (.aload_n 0, 1) := by decide +kernel
theorem dX8_better_7 : decode cX8_better 7 = .ok (.iload_n 2, 1) := by decide +kernel
theorem dX8_better_8 : decode cX8_better 8 = .ok (.iload_n 2, 1) := by decide +kernel
theorem dX8_better_9 : decode cX8_better 9 = .ok (.ifCond .eq 15, 3) := by decide +kernel
theorem dX8_better_12 : decode cX8_better 12 = .ok (.aload_n 0, 1) := by decide +kernel
theorem dX8_better_13 : decode cX8_better 13 = .ok (.iload_n 1, 1) := by decide +kernel
theorem dX8_better_14 : decode cX8_better 14 = .ok (.invokevirtual 226, 3) := by decide +kernel
theorem dX8_better_17 : decode cX8_better 17 = .ok (.ifCond .ne 7, 3) := by decide +kernel
theorem dX8_better_20 : decode cX8_better 20 = .ok (.iconst 1, 1) := by decide +kernel
theorem dX8_better_21 : decode cX8_better 21 = .ok (.goto 4, 3) := by decide +kernel
theorem dX8_better_24 : decode cX8_better 24 = .ok (.iconst 0, 1) := by decide +kernel
theorem dX8_better_25 : decode cX8_better 25 = .ok (.invokevirtual 261, 3) := by decide +kernel
theorem dX8_better_28 : decode cX8_better 28 = .ok (.ifCond .ne 5, 3) := by decide +kernel
theorem dX8_better_31 : decode cX8_better 31 = .ok (.iconst 0, 1) := by decide +kernel
theorem dX8_better_32 : decode cX8_better 32 = .ok (.ireturn, 1) := by decide +kernel
theorem dX8_better_33 : decode cX8_better 33 = .ok (.aload_n 0, 1) := by decide +kernel
theorem dX8_better_34 : decode cX8_better 34 = .ok (.invokevirtual 217, 3) := by decide +kernel
theorem dX8_better_37 : decode cX8_better 37 = .ok (.aload_n 0, 1) := by decide +kernel
theorem dX8_better_38 : decode cX8_better 38 = .ok (.aload_n 0, 1) := by decide +kernel
theorem dX8_better_39 : decode cX8_better 39 = .ok (.iload_n 1, 1) := by decide +kernel
theorem dX8_better_40 : decode cX8_better 40 = .ok (.invokevirtual 362, 3) := by decide +kernel
theorem dX8_better_43 : decode cX8_better 43 = .ok (.invokevirtual 382, 3) := by decide +kernel
theorem dX8_better_46 : decode cX8_better 46 = .ok (.ireturn, 1) := by decide +kernel
theorem dX8_improve_0 : decode cX8_improve 0 = .ok (.aload_n 0, 1) := by decide +kernel
theorem dX8_improve_1 : decode cX8_improve 1 = .ok (.iload_n 1, 1) := by decide +kernel
theorem dX8_improve_2 : decode cX8_improve 2 = .ok (.i2l, 1) := by decide +kernel
theorem dX8_improve_3 : decode cX8_improve 3 = .ok (.lconst 1, 1) := by decide +kernel
theorem dX8_improve_4 : decode cX8_improve 4 = .ok (.ldc2_w 374, 3) := by decide +kernel
theorem dX8_improve_7 : decode cX8_improve 7 = .ok (.invokestatic 99, 3) := by decide +kernel
theorem dX8_improve_10 : decode cX8_improve 10 = .ok (.invokevirtual 91, 3) := by decide +kernel
theorem dX8_improve_13 : decode cX8_improve 13 = .ok (.ifCond .ne 5, 3) := by decide +kernel
theorem dX8_improve_16 : decode cX8_improve 16 = .ok (.iconst 0, 1) := by decide +kernel
theorem dX8_improve_17 : decode cX8_improve 17 = .ok (.ireturn, 1) := by decide +kernel
theorem dX8_improve_18 : decode cX8_improve 18 = .ok (.aload_n 0, 1) := by decide +kernel
theorem dX8_improve_19 : decode cX8_improve 19 = .ok (.invokevirtual 217, 3) := by decide +kernel
theorem dX8_improve_22 : decode cX8_improve 22 = .ok (.aload_n 0, 1) := by decide +kernel
theorem dX8_improve_23 : decode cX8_improve 23 = .ok (.aload_n 0, 1) := by decide +kernel
theorem dX8_improve_24 : decode cX8_improve 24 = .ok (.iload_n 1, 1) := by decide +kernel
theorem dX8_improve_25 : decode cX8_improve 25 = .ok (.invokevirtual 368, 3) := by decide +kernel
theorem dX8_improve_28 : decode cX8_improve 28 = .ok (.invokevirtual 382, 3) := by decide +kernel
theorem dX8_improve_31 : decode cX8_improve 31 = .ok (.ireturn, 1) := by decide +kernel
theorem dX8_take_0 : decode cX8_take 0 = .ok (.aload_n 0, 1) := by decide +kernel
theorem dX8_take_1 : decode cX8_take 1 = .ok (.iload_n 1, 1) := by decide +kernel
theorem dX8_take_2 : decode cX8_take 2 = .ok (.invokevirtual 268, 3) := by decide +kernel
theorem dX8_take_5 : decode cX8_take 5 = .ok (.istore_n 2, 1) := by decide +kernel
theorem dX8_take_6 : decode cX8_take 6 = .ok (.aload_n 0, 1) := by decide +kernel
theorem dX8_take_7 : decode cX8_take 7 = .ok (.iload_n 2, 1) := by decide +kernel
theorem dX8_take_8 : decode cX8_take 8 = .ok (.iload_n 2, 1) := by decide +kernel
theorem dX8_take_9 : decode cX8_take 9 = .ok (.ifCond .eq 15, 3) := by decide +kernel
theorem dX8_take_12 : decode cX8_take 12 = .ok (.aload_n 0, 1) := by decide +kernel
theorem dX8_take_13 : decode cX8_take 13 = .ok (.iload_n 1, 1) := by decide +kernel
theorem dX8_take_14 : decode cX8_take 14 = .ok (.invokevirtual 335, 3) := by decide +kernel
theorem dX8_take_17 : decode cX8_take 17 = .ok (.ifCond .ne 7, 3) := by decide +kernel
theorem dX8_take_20 : decode cX8_take 20 = .ok (.iconst 1, 1) := by decide +kernel
theorem dX8_take_21 : decode cX8_take 21 = .ok (.goto 4, 3) := by decide +kernel
theorem dX8_take_24 : decode cX8_take 24 = .ok (.iconst 0, 1) := by decide +kernel
theorem dX8_take_25 : decode cX8_take 25 = .ok (.invokevirtual 261, 3) := by decide +kernel
theorem dX8_take_28 : decode cX8_take 28 = .ok (.ifCond .ne 5, 3) := by decide +kernel
theorem dX8_take_31 : decode cX8_take 31 = .ok (.iconst 0, 1) := by decide +kernel
theorem dX8_take_32 : decode cX8_take 32 = .ok (.ireturn, 1) := by decide +kernel
theorem dX8_take_33 : decode cX8_take 33 = .ok (.aload_n 0, 1) := by decide +kernel
theorem dX8_take_34 : decode cX8_take 34 = .ok (.invokevirtual 217, 3) := by decide +kernel
theorem dX8_take_37 : decode cX8_take 37 = .ok (.aload_n 0, 1) := by decide +kernel
theorem dX8_take_38 : decode cX8_take 38 = .ok (.aload_n 0, 1) := by decide +kernel
theorem dX8_take_39 : decode cX8_take 39 = .ok (.iload_n 1, 1) := by decide +kernel
theorem dX8_take_40 : decode cX8_take 40 = .ok (.invokevirtual 341, 3) := by decide +kernel
theorem dX8_take_43 : decode cX8_take 43 = .ok (.invokevirtual 382, 3) := by decide +kernel
theorem dX8_take_46 : decode cX8_take 46 = .ok (.ireturn, 1) := by decide +kernel
theorem dX8_takeBest_0 : decode cX8_takeBest 0 = .ok (.aload_n 0, 1) := by decide +kernel
theorem dX8_takeBest_1 : decode cX8_takeBest 1 = .ok (.invokevirtual 323, 3) := by decide +kernel
theorem dX8_takeBest_4 : decode cX8_takeBest 4 = .ok (.aload_n 0, 1) := by decide +kernel
theorem dX8_takeBest_5 : decode cX8_takeBest 5 = .ok (.getfield 306, 3) := by decide +kernel
theorem dX8_takeBest_8 : decode cX8_takeBest 8 = .ok (.istore_n 1, 1) := by decide +kernel
theorem dX8_takeBest_9 : decode cX8_takeBest 9 = .ok (.aload_n 0, 1) := by decide +kernel
theorem dX8_takeBest_10 : decode cX8_takeBest 10 = .ok (.aload_n 0, 1) := by decide +kernel
theorem dX8_takeBest_11 : decode cX8_takeBest 11 = .ok (.iload_n 1, 1) := by decide +kernel
theorem dX8_takeBest_12 : decode cX8_takeBest 12 = .ok (.invokevirtual 335, 3) := by decide +kernel
theorem dX8_takeBest_15 : decode cX8_takeBest 15 = .ok (.ifCond .ne 7, 3) := by decide +kernel
theorem dX8_takeBest_18 : decode cX8_takeBest 18 = .ok (.iconst 1, 1) := by decide +kernel
theorem dX8_takeBest_19 : decode cX8_takeBest 19 = .ok (.goto 4, 3) := by decide +kernel
theorem dX8_takeBest_22 : decode cX8_takeBest 22 = .ok (.iconst 0, 1) := by decide +kernel
theorem dX8_takeBest_23 : decode cX8_takeBest 23 = .ok (.invokevirtual 91, 3) := by decide +kernel
theorem dX8_takeBest_26 : decode cX8_takeBest 26 = .ok (.ifCond .ne 5, 3) := by decide +kernel
theorem dX8_takeBest_29 : decode cX8_takeBest 29 = .ok (.iconst 0, 1) := by decide +kernel
theorem dX8_takeBest_30 : decode cX8_takeBest 30 = .ok (.ireturn, 1) := by decide +kernel
theorem dX8_takeBest_31 : decode cX8_takeBest 31 = .ok (.aload_n 0, 1) := by decide +kernel
theorem dX8_takeBest_32 : decode cX8_takeBest 32 = .ok (.invokevirtual 217, 3) := by decide +kernel
theorem dX8_takeBest_35 : decode cX8_takeBest 35 = .ok (.aload_n 0, 1) := by decide +kernel
theorem dX8_takeBest_36 : decode cX8_takeBest 36 = .ok (.iload_n 1, 1) := by decide +kernel
theorem dX8_takeBest_37 : decode cX8_takeBest 37 = .ok (.invokevirtual 341, 3) := by decide +kernel
theorem dX8_takeBest_40 : decode cX8_takeBest 40 = .ok (.istore_n 2, 1) := by decide +kernel
theorem dX8_takeBest_41 : decode cX8_takeBest 41 = .ok (.aload_n 0, 1) := by decide +kernel
theorem dX8_takeBest_42 : decode cX8_takeBest 42 = .ok (.iload_n 1, 1) := by decide +kernel
theorem dX8_takeBest_43 : decode cX8_takeBest 43 = .ok (.invokevirtual 382, 3) := by decide +kernel
theorem dX8_takeBest_46 : decode cX8_takeBest 46 = .ok (.ireturn, 1) := by decide +kernel
theorem dX8_whyNotTake_0 : decode cX8_whyNotTake 0 = .ok (.aload_n 0, 1) := by decide +kernel
theorem dX8_whyNotTake_1 : decode cX8_whyNotTake 1 = .ok (.aload_n 0, 1) := by decide +kernel
theorem dX8_whyNotTake_2 : decode cX8_whyNotTake 2 = .ok (.iload_n 1, 1) := by decide +kernel
theorem dX8_whyNotTake_3 : decode cX8_whyNotTake 3 = .ok (.invokevirtual 268, 3) := by decide +kernel
theorem dX8_whyNotTake_6 : decode cX8_whyNotTake 6 = .ok (.invokevirtual 91, 3) := by decide +kernel
theorem dX8_whyNotTake_9 : decode cX8_whyNotTake 9 = .ok (.ifCond .eq 11, 3) := by decide +kernel
theorem dX8_whyNotTake_12 : decode cX8_whyNotTake 12 = .ok (.aload_n 0, 1) := by decide +kernel
theorem dX8_whyNotTake_13 : decode cX8_whyNotTake 13 = .ok (.iload_n 1, 1) := by decide +kernel
theorem dX8_whyNotTake_14 : decode cX8_whyNotTake 14 = .ok (.invokevirtual 335, 3) := by decide +kernel
theorem dX8_whyNotTake_17 : decode cX8_whyNotTake 17 = .ok (.goto 4, 3) := by decide +kernel
theorem dX8_whyNotTake_20 : decode cX8_whyNotTake 20 = .ok (.iconst 0, 1) := by decide +kernel
theorem dX8_whyNotTake_21 : decode cX8_whyNotTake 21 = .ok (.ireturn, 1) := by decide +kernel
theorem dX8_taken_0 : decode cX8_taken 0 = .ok (.aload_n 0, 1) := by decide +kernel
theorem dX8_taken_1 : decode cX8_taken 1 = .ok (.iconst 0, 1) := by decide +kernel
theorem dX8_taken_2 : decode cX8_taken 2 = .ok (.putfield 81, 3) := by decide +kernel
theorem dX8_taken_5 : decode cX8_taken 5 = .ok (.iload_n 1, 1) := by decide +kernel
theorem dX8_taken_6 : decode cX8_taken 6 = .ok (.i2l, 1) := by decide +kernel
theorem dX8_taken_7 : decode cX8_taken 7 = .ok (.lconst 0, 1) := by decide +kernel
theorem dX8_taken_8 : decode cX8_taken 8 = .ok (.aload_n 0, 1) := by decide +kernel
theorem dX8_taken_9 : decode cX8_taken 9 = .ok (.getfield 20, 3) := by decide +kernel
theorem dX8_taken_12 : decode cX8_taken 12 = .ok (.iconst 4, 1) := by decide +kernel
theorem dX8_taken_13 : decode cX8_taken 13 = .ok (.iaload, 1) := by decide +kernel
theorem dX8_taken_14 : decode cX8_taken 14 = .ok (.iconst 1, 1) := by decide +kernel
theorem dX8_taken_15 : decode cX8_taken 15 = .ok (.isub, 1) := by decide +kernel
theorem dX8_taken_16 : decode cX8_taken 16 = .ok (.i2l, 1) := by decide +kernel
theorem dX8_taken_17 : decode cX8_taken 17 = .ok (.invokestatic 99, 3) := by decide +kernel
theorem dX8_taken_20 : decode cX8_taken 20 = .ok (.ifCond .eq 14, 3) := by decide +kernel
theorem dX8_taken_23 : decode cX8_taken 23 = .ok (.aload_n 0, 1) := by decide +kernel
theorem dX8_taken_24 : decode cX8_taken 24 = .ok (.getfield 20, 3) := by decide +kernel
theorem dX8_taken_27 : decode cX8_taken 27 = .ok (.iconst 5, 1) := by decide +kernel
theorem dX8_taken_28 : decode cX8_taken 28 = .ok (.iload_n 1, 1) := by decide +kernel
theorem dX8_taken_29 : decode cX8_taken 29 = .ok (.iadd, 1) := by decide +kernel
theorem dX8_taken_30 : decode cX8_taken 30 = .ok (.iaload, 1) := by decide +kernel
theorem dX8_taken_31 : decode cX8_taken 31 = .ok (.goto 4, 3) := by decide +kernel
theorem dX8_taken_34 : decode cX8_taken 34 = .ok (.iconst (-1), 1) := by decide +kernel
theorem dX8_taken_35 : decode cX8_taken 35 = .ok (.ireturn, 1) := by decide +kernel
theorem dX8_setOut_0 : decode cX8_setOut 0 = .ok (.aload_n 0, 1) := by decide +kernel
theorem dX8_setOut_1 : decode cX8_setOut 1 = .ok (.iload_n 1, 1) := by decide +kernel
theorem dX8_setOut_2 : decode cX8_setOut 2 = .ok (.invokevirtual 256, 3) := by decide +kernel
theorem dX8_setOut_5 : decode cX8_setOut 5 = .ok (.istore_n 3, 1) := by decide +kernel
theorem dX8_setOut_6 : decode cX8_setOut 6 = .ok (.aload_n 0, 1) := by decide +kernel
theorem dX8_setOut_7 : decode cX8_setOut 7 = .ok (.iload_n 3, 1) := by decide +kernel
theorem dX8_setOut_8 : decode cX8_setOut 8 = .ok (.iload_n 3, 1) := by decide +kernel
theorem dX8_setOut_9 : decode cX8_setOut 9 = .ok (.ifCond .eq 16, 3) := by decide +kernel
theorem dX8_setOut_12 : decode cX8_setOut 12 = .ok (.aload_n 0, 1) := by decide +kernel
theorem dX8_setOut_13 : decode cX8_setOut 13 = .ok (.iload_n 1, 1) := by decide +kernel
theorem dX8_setOut_14 : decode cX8_setOut 14 = .ok (.invokevirtual 226, 3) := by decide +kernel
theorem dX8_setOut_17 : decode cX8_setOut 17 = .ok (.iload_n 2, 1) := by decide +kernel
theorem dX8_setOut_18 : decode cX8_setOut 18 = .ok (.if_icmp .eq 7, 3) := by decide +kernel
theorem dX8_setOut_21 : decode cX8_setOut 21 = .ok (.iconst 1, 1) := by decide +kernel
theorem dX8_setOut_22 : decode cX8_setOut 22 = .ok (.goto 4, 3) := by decide +kernel
theorem dX8_setOut_25 : decode cX8_setOut 25 = .ok (.iconst 0, 1) := by decide +kernel
theorem dX8_setOut_26 : decode cX8_setOut 26 = .ok (.invokevirtual 261, 3) := by decide +kernel
theorem dX8_setOut_29 : decode cX8_setOut 29 = .ok (.ifCond .ne 5, 3) := by decide +kernel
theorem dX8_setOut_32 : decode cX8_setOut 32 = .ok (.iconst 0, 1) := by decide +kernel
theorem dX8_setOut_33 : decode cX8_setOut 33 = .ok (.ireturn, 1) := by decide +kernel
theorem dX8_setOut_34 : decode cX8_setOut 34 = .ok (.aload_n 0, 1) := by decide +kernel
theorem dX8_setOut_35 : decode cX8_setOut 35 = .ok (.invokevirtual 217, 3) := by decide +kernel
theorem dX8_setOut_38 : decode cX8_setOut 38 = .ok (.aload_n 0, 1) := by decide +kernel
theorem dX8_setOut_39 : decode cX8_setOut 39 = .ok (.aload_n 0, 1) := by decide +kernel
theorem dX8_setOut_40 : decode cX8_setOut 40 = .ok (.iload_n 1, 1) := by decide +kernel
theorem dX8_setOut_41 : decode cX8_setOut 41 = .ok (.iload_n 2, 1) := by decide +kernel
theorem dX8_setOut_42 : decode cX8_setOut 42 = .ok (.invokevirtual 387, 3) := by decide +kernel
theorem dX8_setOut_45 : decode cX8_setOut 45 = .ok (.invokevirtual 382, 3) := by decide +kernel
theorem dX8_setOut_48 : decode cX8_setOut 48 = .ok (.ireturn, 1) := by decide +kernel
theorem dX8_setChanges_0 : decode cX8_setChanges 0 = .ok (.aload_n 0, 1) := by decide +kernel
theorem dX8_setChanges_1 : decode cX8_setChanges 1 = .ok (.iload_n 1, 1) := by decide +kernel
theorem dX8_setChanges_2 : decode cX8_setChanges 2 = .ok (.i2l, 1) := by decide +kernel
theorem dX8_setChanges_3 : decode cX8_setChanges 3 = .ok (.lconst 0, 1) := by decide +kernel
theorem dX8_setChanges_4 : decode cX8_setChanges 4 = .ok (.ldc2_w 321, 3) := by decide +kernel
theorem dX8_setChanges_7 : decode cX8_setChanges 7 = .ok (.invokestatic 99, 3) := by decide +kernel
theorem dX8_setChanges_10 : decode cX8_setChanges 10 = .ok (.invokevirtual 91, 3) := by decide +kernel
theorem dX8_setChanges_13 : decode cX8_setChanges 13 = .ok (.ifCond .ne 5, 3) := by decide +kernel
theorem dX8_setChanges_16 : decode cX8_setChanges 16 = .ok (.iconst 0, 1) := by decide +kernel
theorem dX8_setChanges_17 : decode cX8_setChanges 17 = .ok (.ireturn, 1) := by decide +kernel
theorem dX8_setChanges_18 : decode cX8_setChanges 18 = .ok (.aload_n 0, 1) := by decide +kernel
theorem dX8_setChanges_19 : decode cX8_setChanges 19 = .ok (.invokevirtual 217, 3) := by decide +kernel
theorem dX8_setChanges_22 : decode cX8_setChanges 22 = .ok (.aload_n 0, 1) := by decide +kernel
theorem dX8_setChanges_23 : decode cX8_setChanges 23 = .ok (.aload_n 0, 1) := by decide +kernel
theorem dX8_setChanges_24 : decode cX8_setChanges 24 = .ok (.iload_n 1, 1) := by decide +kernel
theorem dX8_setChanges_25 : decode cX8_setChanges 25 = .ok (.invokevirtual 391, 3) := by decide +kernel
theorem dX8_setChanges_28 : decode cX8_setChanges 28 = .ok (.invokevirtual 382, 3) := by decide +kernel
theorem dX8_setChanges_31 : decode cX8_setChanges 31 = .ok (.ireturn, 1) := by decide +kernel
theorem dX8_commandHere_0 : decode cX8_commandHere 0 = .ok (.aload_n 0, 1) := by decide +kernel
theorem dX8_commandHere_1 : decode cX8_commandHere 1 = .ok (.ldc2_w 394, 3) := by decide +kernel
theorem dX8_commandHere_4 : decode cX8_commandHere 4 = .ok (.invokevirtual 195, 3) := by decide +kernel
theorem dX8_commandHere_7 : decode cX8_commandHere 7 = .ok (.ifCond .eq 5, 3) := by decide +kernel
theorem dX8_commandHere_10 : decode cX8_commandHere 10 = .ok (.iconst 0, 1) := by decide +kernel
theorem dX8_commandHere_11 : decode cX8_commandHere 11 = .ok (.ireturn, 1) := by decide +kernel
theorem dX8_commandHere_12 : decode cX8_commandHere 12 = .ok (.aload_n 0, 1) := by decide +kernel
theorem dX8_commandHere_13 : decode cX8_commandHere 13 = .ok (.ldc2_w 396, 3) := by decide +kernel
theorem dX8_commandHere_16 : decode cX8_commandHere 16 = .ok (.invokevirtual 195, 3) := by decide +kernel
theorem dX8_commandHere_19 : decode cX8_commandHere 19 = .ok (.ifCond .eq 5, 3) := by decide +kernel
theorem dX8_commandHere_22 : decode cX8_commandHere 22 = .ok (.iconst 1, 1) := by decide +kernel
theorem dX8_commandHere_23 : decode cX8_commandHere 23 = .ok (.ireturn, 1) := by decide +kernel
theorem dX8_commandHere_24 : decode cX8_commandHere 24 = .ok (.aload_n 0, 1) := by decide +kernel
theorem dX8_commandHere_25 : decode cX8_commandHere 25 = .ok (.ldc2_w 398, 3) := by decide +kernel
theorem dX8_commandHere_28 : decode cX8_commandHere 28 = .ok (.invokevirtual 195, 3) := by decide +kernel
theorem dX8_commandHere_31 : decode cX8_commandHere 31 = .ok (.ifCond .eq 5, 3) := by decide +kernel
theorem dX8_commandHere_34 : decode cX8_commandHere 34 = .ok (.iconst 2, 1) := by decide +kernel
theorem dX8_commandHere_35 : decode cX8_commandHere 35 = .ok (.ireturn, 1) := by decide +kernel
theorem dX8_commandHere_36 : decode cX8_commandHere 36 = .ok (.aload_n 0, 1) := by decide +kernel
theorem dX8_commandHere_37 : decode cX8_commandHere 37 = .ok (.ldc2_w 400, 3) := by decide +kernel
theorem dX8_commandHere_40 : decode cX8_commandHere 40 = .ok (.invokevirtual 195, 3) := by decide +kernel
theorem dX8_commandHere_43 : decode cX8_commandHere 43 = .ok (.ifCond .eq 5, 3) := by decide +kernel
theorem dX8_commandHere_46 : decode cX8_commandHere 46 = .ok (.iconst 3, 1) := by decide +kernel
theorem dX8_commandHere_47 : decode cX8_commandHere 47 = .ok (.ireturn, 1) := by decide +kernel
theorem dX8_commandHere_48 : decode cX8_commandHere 48 = .ok (.aload_n 0, 1) := by decide +kernel
theorem dX8_commandHere_49 : decode cX8_commandHere 49 = .ok (.ldc2_w 402, 3) := by decide +kernel
theorem dX8_commandHere_52 : decode cX8_commandHere 52 = .ok (.invokevirtual 195, 3) := by decide +kernel
theorem dX8_commandHere_55 : decode cX8_commandHere 55 = .ok (.ifCond .eq 5, 3) := by decide +kernel
theorem dX8_commandHere_58 : decode cX8_commandHere 58 = .ok (.iconst 4, 1) := by decide +kernel
theorem dX8_commandHere_59 : decode cX8_commandHere 59 = .ok (.ireturn, 1) := by decide +kernel
theorem dX8_commandHere_60 : decode cX8_commandHere 60 = .ok (.aload_n 0, 1) := by decide +kernel
theorem dX8_commandHere_61 : decode cX8_commandHere 61 = .ok (.ldc2_w 404, 3) := by decide +kernel
theorem dX8_commandHere_64 : decode cX8_commandHere 64 = .ok (.invokevirtual 195, 3) := by decide +kernel
theorem dX8_commandHere_67 : decode cX8_commandHere 67 = .ok (.ifCond .eq 5, 3) := by decide +kernel
theorem dX8_commandHere_70 : decode cX8_commandHere 70 = .ok (.iconst 5, 1) := by decide +kernel
theorem dX8_commandHere_71 : decode cX8_commandHere 71 = .ok (.ireturn, 1) := by decide +kernel
theorem dX8_commandHere_72 : decode cX8_commandHere 72 = .ok (.aload_n 0, 1) := by decide +kernel
theorem dX8_commandHere_73 : decode cX8_commandHere 73 = .ok (.ldc2_w 406, 3) := by decide +kernel
theorem dX8_commandHere_76 : decode cX8_commandHere 76 = .ok (.invokevirtual 195, 3) := by decide +kernel
theorem dX8_commandHere_79 : decode cX8_commandHere 79 = .ok (.ifCond .eq 6, 3) := by decide +kernel
theorem dX8_commandHere_82 : decode cX8_commandHere 82 = .ok (.bipush 6, 2) := by decide +kernel
theorem dX8_commandHere_84 : decode cX8_commandHere 84 = .ok (.ireturn, 1) := by decide +kernel
theorem dX8_commandHere_85 : decode cX8_commandHere 85 = .ok (.aload_n 0, 1) := by decide +kernel
theorem dX8_commandHere_86 : decode cX8_commandHere 86 = .ok (.ldc2_w 408, 3) := by decide +kernel
theorem dX8_commandHere_89 : decode cX8_commandHere 89 = .ok (.invokevirtual 195, 3) := by decide +kernel
theorem dX8_commandHere_92 : decode cX8_commandHere 92 = .ok (.ifCond .eq 6, 3) := by decide +kernel
theorem dX8_commandHere_95 : decode cX8_commandHere 95 = .ok (.bipush 7, 2) := by decide +kernel
theorem dX8_commandHere_97 : decode cX8_commandHere 97 = .ok (.ireturn, 1) := by decide +kernel
theorem dX8_commandHere_98 : decode cX8_commandHere 98 = .ok (.aload_n 0, 1) := by decide +kernel
theorem dX8_commandHere_99 : decode cX8_commandHere 99 = .ok (.ldc2_w 204, 3) := by decide +kernel
theorem dX8_commandHere_102 : decode cX8_commandHere 102 = .ok (.invokevirtual 195, 3) := by decide +kernel
theorem dX8_commandHere_105 : decode cX8_commandHere 105 = .ok (.ifCond .eq 6, 3) := by decide +kernel
theorem dX8_commandHere_108 : decode cX8_commandHere 108 = .ok (.bipush 8, 2) := by decide +kernel
theorem dX8_commandHere_110 : decode cX8_commandHere 110 = .ok (.ireturn, 1) := by decide +kernel
theorem dX8_commandHere_111 : decode cX8_commandHere 111 = .ok (.aload_n 0, 1) := by decide +kernel
theorem dX8_commandHere_112 : decode cX8_commandHere 112 = .ok (.ldc2_w 410, 3) := by decide +kernel
theorem dX8_commandHere_115 : decode cX8_commandHere 115 = .ok (.invokevirtual 195, 3) := by decide +kernel
theorem dX8_commandHere_118 : decode cX8_commandHere 118 = .ok (.ifCond .eq 8, 3) := by decide +kernel
theorem dX8_commandHere_121 : decode cX8_commandHere 121 = .ok (.bipush 9, 2) := by decide +kernel
theorem dX8_commandHere_123 : decode cX8_commandHere 123 = .ok (.goto 4, 3) := by decide +kernel
theorem dX8_commandHere_126 : decode cX8_commandHere 126 = .ok (.iconst (-1), 1) := by decide +kernel
theorem dX8_commandHere_127 : decode cX8_commandHere 127 = .ok (.ireturn, 1) := by decide +kernel
theorem dX8_toldWord_0 : decode cX8_toldWord 0 = .ok (.aload_n 0, 1) := by decide +kernel
theorem dX8_toldWord_1 : decode cX8_toldWord 1 = .ok (.invokevirtual 139, 3) := by decide +kernel
theorem dX8_toldWord_4 : decode cX8_toldWord 4 = .ok (.ifCond .eq 16, 3) := by decide +kernel
theorem dX8_toldWord_7 : decode cX8_toldWord 7 = .ok (.aload_n 0, 1) := by decide +kernel
theorem dX8_toldWord_8 : decode cX8_toldWord 8 = .ok (.getfield 126, 3) := by decide +kernel
theorem dX8_toldWord_11 : decode cX8_toldWord 11 = .ok (.iconst 1, 1) := by decide +kernel
theorem dX8_toldWord_12 : decode cX8_toldWord 12 = .ok (.if_icmp .eq 8, 3) := by decide +kernel
theorem dX8_toldWord_15 : decode cX8_toldWord 15 = .ok (.aload_n 0, 1) := by decide +kernel
theorem dX8_toldWord_16 : decode cX8_toldWord 16 = .ok (.iconst 1, 1) := by decide +kernel
theorem dX8_toldWord_17 : decode cX8_toldWord 17 = .ok (.invokevirtual 146, 3) := by decide +kernel
theorem dX8_toldWord_20 : decode cX8_toldWord 20 = .ok (.aload_n 0, 1) := by decide +kernel
theorem dX8_toldWord_21 : decode cX8_toldWord 21 = .ok (.invokevirtual 139, 3) := by decide +kernel
theorem dX8_toldWord_24 : decode cX8_toldWord 24 = .ok (.ifCond .eq 28, 3) := by decide +kernel
theorem dX8_toldWord_27 : decode cX8_toldWord 27 = .ok (.aload_n 0, 1) := by decide +kernel
theorem dX8_toldWord_28 : decode cX8_toldWord 28 = .ok (.getfield 123, 3) := by decide +kernel
theorem dX8_toldWord_31 : decode cX8_toldWord 31 = .ok (.aload_n 0, 1) := by decide +kernel
theorem dX8_toldWord_32 : decode cX8_toldWord 32 = .ok (.getfield 20, 3) := by decide +kernel
theorem dX8_toldWord_35 : decode cX8_toldWord 35 = .ok (.iconst 2, 1) := by decide +kernel
theorem dX8_toldWord_36 : decode cX8_toldWord 36 = .ok (.iaload, 1) := by decide +kernel
theorem dX8_toldWord_37 : decode cX8_toldWord 37 = .ok (.if_icmp .ne 10, 3) := by decide +kernel
theorem dX8_toldWord_40 : decode cX8_toldWord 40 = .ok (.aload_n 0, 1) := by decide +kernel
theorem dX8_toldWord_41 : decode cX8_toldWord 41 = .ok (.invokevirtual 176, 3) := by decide +kernel
theorem dX8_toldWord_44 : decode cX8_toldWord 44 = .ok (.ifCond .ne 8, 3) := by decide +kernel
theorem dX8_toldWord_47 : decode cX8_toldWord 47 = .ok (.aload_n 0, 1) := by decide +kernel
theorem dX8_toldWord_48 : decode cX8_toldWord 48 = .ok (.iconst 3, 1) := by decide +kernel
theorem dX8_toldWord_49 : decode cX8_toldWord 49 = .ok (.invokevirtual 146, 3) := by decide +kernel
theorem dX8_toldWord_52 : decode cX8_toldWord 52 = .ok (.iconst 0, 1) := by decide +kernel
theorem dX8_toldWord_53 : decode cX8_toldWord 53 = .ok (.istore_n 1, 1) := by decide +kernel
theorem dX8_toldWord_54 : decode cX8_toldWord 54 = .ok (.iconst 0, 1) := by decide +kernel
theorem dX8_toldWord_55 : decode cX8_toldWord 55 = .ok (.istore_n 2, 1) := by decide +kernel
theorem dX8_toldWord_56 : decode cX8_toldWord 56 = .ok (.iload_n 2, 1) := by decide +kernel
theorem dX8_toldWord_57 : decode cX8_toldWord 57 = .ok (.aload_n 0, 1) := by decide +kernel
theorem dX8_toldWord_58 : decode cX8_toldWord 58 = .ok (.getfield 20, 3) := by decide +kernel
theorem dX8_toldWord_61 : decode cX8_toldWord 61 = .ok (.iconst 2, 1) := by decide +kernel
theorem dX8_toldWord_62 : decode cX8_toldWord 62 = .ok (.iaload, 1) := by decide +kernel
theorem dX8_toldWord_63 : decode cX8_toldWord 63 = .ok (.if_icmp .ge 40, 3) := by decide +kernel
theorem dX8_toldWord_66 : decode cX8_toldWord 66 = .ok (.aload_n 0, 1) := by decide +kernel
theorem dX8_toldWord_67 : decode cX8_toldWord 67 = .ok (.invokevirtual 139, 3) := by decide +kernel
theorem dX8_toldWord_70 : decode cX8_toldWord 70 = .ok (.ifCond .eq 33, 3) := by decide +kernel
theorem dX8_toldWord_73 : decode cX8_toldWord 73 = .ok (.aload_n 0, 1) := by decide +kernel
theorem dX8_toldWord_74 : decode cX8_toldWord 74 = .ok (.getfield 20, 3) := by decide +kernel
theorem dX8_toldWord_77 : decode cX8_toldWord 77 = .ok (.iconst 1, 1) := by decide +kernel
theorem dX8_toldWord_78 : decode cX8_toldWord 78 = .ok (.iaload, 1) := by decide +kernel
theorem dX8_toldWord_79 : decode cX8_toldWord 79 = .ok (.iload_n 1, 1) := by decide +kernel
theorem dX8_toldWord_80 : decode cX8_toldWord 80 = .ok (.imul, 1) := by decide +kernel
theorem dX8_toldWord_81 : decode cX8_toldWord 81 = .ok (.aload_n 0, 1) := by decide +kernel
theorem dX8_toldWord_82 : decode cX8_toldWord 82 = .ok (.getfield 7, 3) := by decide +kernel
theorem dX8_toldWord_85 : decode cX8_toldWord 85 = .ok (.aload_n 0, 1) := by decide +kernel
theorem dX8_toldWord_86 : decode cX8_toldWord 86 = .ok (.getfield 113, 3) := by decide +kernel
theorem dX8_toldWord_89 : decode cX8_toldWord 89 = .ok (.iload_n 2, 1) := by decide +kernel
theorem dX8_toldWord_90 : decode cX8_toldWord 90 = .ok (.iadd, 1) := by decide +kernel
theorem dX8_toldWord_91 : decode cX8_toldWord 91 = .ok (.iaload, 1) := by decide +kernel
theorem dX8_toldWord_92 : decode cX8_toldWord 92 = .ok (.iadd, 1) := by decide +kernel
theorem dX8_toldWord_93 : decode cX8_toldWord 93 = .ok (.bipush 97, 2) := by decide +kernel
theorem dX8_toldWord_95 : decode cX8_toldWord 95 = .ok (.isub, 1) := by decide +kernel
theorem dX8_toldWord_96 : decode cX8_toldWord 96 = .ok (.istore_n 1, 1) := by decide +kernel
theorem dX8_toldWord_97 : decode cX8_toldWord 97 = .ok (.iinc 2 1, 3) := by decide +kernel
theorem dX8_toldWord_100 : decode cX8_toldWord 100 = .ok (.goto (-44), 3) := by decide +kernel
theorem dX8_toldWord_103 : decode cX8_toldWord 103 = .ok (.aload_n 0, 1) := by decide +kernel
theorem dX8_toldWord_104 : decode cX8_toldWord 104 = .ok (.invokevirtual 139, 3) := by decide +kernel
theorem dX8_toldWord_107 : decode cX8_toldWord 107 = .ok (.ifCond .eq 7, 3) := by decide +kernel
theorem dX8_toldWord_110 : decode cX8_toldWord 110 = .ok (.aload_n 0, 1) := by decide +kernel
theorem dX8_toldWord_111 : decode cX8_toldWord 111 = .ok (.invokevirtual 149, 3) := by decide +kernel
theorem dX8_toldWord_114 : decode cX8_toldWord 114 = .ok (.iload_n 1, 1) := by decide +kernel
theorem dX8_toldWord_115 : decode cX8_toldWord 115 = .ok (.ireturn, 1) := by decide +kernel
theorem dX8_command_0 : decode cX8_command 0 = .ok (.aload_n 0, 1) := by decide +kernel
theorem dX8_command_1 : decode cX8_command 1 = .ok (.invokevirtual 412, 3) := by decide +kernel
theorem dX8_command_4 : decode cX8_command 4 = .ok (.istore_n 1, 1) := by decide +kernel
theorem dX8_command_5 : decode cX8_command 5 = .ok (.iload_n 1, 1) := by decide +kernel
theorem dX8_command_6 : decode cX8_command 6 = .ok (.iconst (-1), 1) := by decide +kernel
theorem dX8_command_7 : decode cX8_command 7 = .ok (.if_icmp .ne 8, 3) := by decide +kernel
theorem dX8_command_10 : decode cX8_command 10 = .ok (.aload_n 0, 1) := by decide +kernel
theorem dX8_command_11 : decode cX8_command 11 = .ok (.iconst 1, 1) := by decide +kernel
theorem dX8_command_12 : decode cX8_command 12 = .ok (.invokevirtual 146, 3) := by decide +kernel
theorem dX8_command_15 : decode cX8_command 15 = .ok (.iload_n 1, 1) := by decide +kernel
theorem dX8_command_16 : decode cX8_command 16 = .ok (.bipush 9, 2) := by decide +kernel
theorem dX8_command_18 : decode cX8_command 18 = .ok (.if_icmp .ne 16, 3) := by decide +kernel
theorem dX8_command_21 : decode cX8_command 21 = .ok (.aload_n 0, 1) := by decide +kernel
theorem dX8_command_22 : decode cX8_command 22 = .ok (.getfield 415, 3) := by decide +kernel
theorem dX8_command_25 : decode cX8_command 25 = .ok (.iconst 2, 1) := by decide +kernel
theorem dX8_command_26 : decode cX8_command 26 = .ok (.if_icmp .ne 8, 3) := by decide +kernel
theorem dX8_command_29 : decode cX8_command 29 = .ok (.aload_n 0, 1) := by decide +kernel
theorem dX8_command_30 : decode cX8_command 30 = .ok (.iconst 4, 1) := by decide +kernel
theorem dX8_command_31 : decode cX8_command 31 = .ok (.invokevirtual 146, 3) := by decide +kernel
theorem dX8_command_34 : decode cX8_command 34 = .ok (.aload_n 0, 1) := by decide +kernel
theorem dX8_command_35 : decode cX8_command 35 = .ok (.getfield 418, 3) := by decide +kernel
theorem dX8_command_38 : decode cX8_command 38 = .ok (.bipush 30, 2) := by decide +kernel
theorem dX8_command_40 : decode cX8_command 40 = .ok (.if_icmp .ne 9, 3) := by decide +kernel
theorem dX8_command_43 : decode cX8_command 43 = .ok (.aload_n 0, 1) := by decide +kernel
theorem dX8_command_44 : decode cX8_command 44 = .ok (.bipush 6, 2) := by decide +kernel
theorem dX8_command_46 : decode cX8_command 46 = .ok (.invokevirtual 146, 3) := by decide +kernel
theorem dX8_command_49 : decode cX8_command 49 = .ok (.aload_n 0, 1) := by decide +kernel
theorem dX8_command_50 : decode cX8_command 50 = .ok (.invokevirtual 139, 3) := by decide +kernel
theorem dX8_command_53 : decode cX8_command 53 = .ok (.ifCond .ne 4, 3) := by decide +kernel
theorem dX8_command_56 : decode cX8_command 56 = .ok (.return_, 1) := by decide +kernel
theorem dX8_command_57 : decode cX8_command 57 = .ok (.aload_n 0, 1) := by decide +kernel
theorem dX8_command_58 : decode cX8_command 58 = .ok (.dup, 1) := by decide +kernel
theorem dX8_command_59 : decode cX8_command 59 = .ok (.getfield 418, 3) := by decide +kernel
theorem dX8_command_62 : decode cX8_command 62 = .ok (.iconst 1, 1) := by decide +kernel
theorem dX8_command_63 : decode cX8_command 63 = .ok (.iadd, 1) := by decide +kernel
theorem dX8_command_64 : decode cX8_command 64 = .ok (.putfield 418, 3) := by decide +kernel
theorem dX8_command_67 : decode cX8_command 67 = .ok (.aload_n 0, 1) := by decide +kernel
theorem dX8_command_68 : decode cX8_command 68 = .ok (.invokevirtual 149, 3) := by decide +kernel
theorem dX8_command_71 : decode cX8_command 71 = .ok (.aload_n 0, 1) := by decide +kernel
theorem dX8_command_72 : decode cX8_command 72 = .ok (.getfield 421, 3) := by decide +kernel
theorem dX8_command_75 : decode cX8_command 75 = .ok (.istore_n 2, 1) := by decide +kernel
theorem dX8_command_76 : decode cX8_command 76 = .ok (.aload_n 0, 1) := by decide +kernel
theorem dX8_command_77 : decode cX8_command 77 = .ok (.getfield 60, 3) := by decide +kernel
theorem dX8_command_80 : decode cX8_command 80 = .ok (.iload_n 2, 1) := by decide +kernel
theorem dX8_command_81 : decode cX8_command 81 = .ok (.iload_n 1, 1) := by decide +kernel
theorem dX8_command_82 : decode cX8_command 82 = .ok (.iastore, 1) := by decide +kernel
theorem dX8_command_83 : decode cX8_command 83 = .ok (.iload_n 1, 1) := by decide +kernel
theorem dX8_command_84 : decode cX8_command 84 = .ok (.iconst 2, 1) := by decide +kernel
theorem dX8_command_85 : decode cX8_command 85 = .ok (.if_icmp .le 15, 3) := by decide +kernel
theorem dX8_command_88 : decode cX8_command 88 = .ok (.iload_n 1, 1) := by decide +kernel
theorem dX8_command_89 : decode cX8_command 89 = .ok (.bipush 6, 2) := by decide +kernel
theorem dX8_command_91 : decode cX8_command 91 = .ok (.if_icmp .eq 9, 3) := by decide +kernel
theorem dX8_command_94 : decode cX8_command 94 = .ok (.iload_n 1, 1) := by decide +kernel
theorem dX8_command_95 : decode cX8_command 95 = .ok (.bipush 7, 2) := by decide +kernel
theorem dX8_command_97 : decode cX8_command 97 = .ok (.if_icmp .ne 13, 3) := by decide +kernel
theorem dX8_command_100 : decode cX8_command 100 = .ok (.aload_n 0, 1) := by decide +kernel
theorem dX8_command_101 : decode cX8_command 101 = .ok (.getfield 63, 3) := by decide +kernel
theorem dX8_command_104 : decode cX8_command 104 = .ok (.iload_n 2, 1) := by decide +kernel
theorem dX8_command_105 : decode cX8_command 105 = .ok (.aload_n 0, 1) := by decide +kernel
theorem dX8_command_106 : decode cX8_command 106 = .ok (.invokevirtual 424, 3) := by decide +kernel
theorem dX8_command_109 : decode cX8_command 109 = .ok (.iastore, 1) := by decide +kernel
theorem dX8_command_110 : decode cX8_command 110 = .ok (.iload_n 1, 1) := by decide +kernel
theorem dX8_command_111 : decode cX8_command 111 = .ok (.ifCond .ne 17, 3) := by decide +kernel
theorem dX8_command_114 : decode cX8_command 114 = .ok (.aload_n 0, 1) := by decide +kernel
theorem dX8_command_115 : decode cX8_command 115 = .ok (.getfield 66, 3) := by decide +kernel
theorem dX8_command_118 : decode cX8_command 118 = .ok (.iload_n 2, 1) := by decide +kernel
theorem dX8_command_119 : decode cX8_command 119 = .ok (.aload_n 0, 1) := by decide +kernel
theorem dX8_command_120 : decode cX8_command 120 = .ok (.iconst 0, 1) := by decide +kernel
theorem dX8_command_121 : decode cX8_command 121 = .ok (.sipush 999, 3) := by decide +kernel
theorem dX8_command_124 : decode cX8_command 124 = .ok (.invokevirtual 190, 3) := by decide +kernel
theorem dX8_command_127 : decode cX8_command 127 = .ok (.iastore, 1) := by decide +kernel
theorem dX8_command_128 : decode cX8_command 128 = .ok (.iload_n 1, 1) := by decide +kernel
theorem dX8_command_129 : decode cX8_command 129 = .ok (.iconst 3, 1) := by decide +kernel
theorem dX8_command_130 : decode cX8_command 130 = .ok (.if_icmp .eq 9, 3) := by decide +kernel
theorem dX8_command_133 : decode cX8_command 133 = .ok (.iload_n 1, 1) := by decide +kernel
theorem dX8_command_134 : decode cX8_command 134 = .ok (.bipush 8, 2) := by decide +kernel
theorem dX8_command_136 : decode cX8_command 136 = .ok (.if_icmp .ne 17, 3) := by decide +kernel
theorem dX8_command_139 : decode cX8_command 139 = .ok (.aload_n 0, 1) := by decide +kernel
theorem dX8_command_140 : decode cX8_command 140 = .ok (.getfield 63, 3) := by decide +kernel
theorem dX8_command_143 : decode cX8_command 143 = .ok (.iload_n 2, 1) := by decide +kernel
theorem dX8_command_144 : decode cX8_command 144 = .ok (.aload_n 0, 1) := by decide +kernel
theorem dX8_command_145 : decode cX8_command 145 = .ok (.iconst 0, 1) := by decide +kernel
theorem dX8_command_146 : decode cX8_command 146 = .ok (.sipush 999, 3) := by decide +kernel
theorem dX8_command_149 : decode cX8_command 149 = .ok (.invokevirtual 190, 3) := by decide +kernel
theorem dX8_command_152 : decode cX8_command 152 = .ok (.iastore, 1) := by decide +kernel
theorem dX8_command_153 : decode cX8_command 153 = .ok (.iload_n 1, 1) := by decide +kernel
theorem dX8_command_154 : decode cX8_command 154 = .ok (.iconst 4, 1) := by decide +kernel
theorem dX8_command_155 : decode cX8_command 155 = .ok (.if_icmp .ne 13, 3) := by decide +kernel
theorem dX8_command_158 : decode cX8_command 158 = .ok (.aload_n 0, 1) := by decide +kernel
theorem dX8_command_159 : decode cX8_command 159 = .ok (.getfield 63, 3) := by decide +kernel
theorem dX8_command_162 : decode cX8_command 162 = .ok (.iload_n 2, 1) := by decide +kernel
theorem dX8_command_163 : decode cX8_command 163 = .ok (.aload_n 0, 1) := by decide +kernel
theorem dX8_command_164 : decode cX8_command 164 = .ok (.invokevirtual 427, 3) := by decide +kernel
theorem dX8_command_167 : decode cX8_command 167 = .ok (.iastore, 1) := by decide +kernel
theorem dX8_command_168 : decode cX8_command 168 = .ok (.iload_n 1, 1) := by decide +kernel
theorem dX8_command_169 : decode cX8_command 169 = .ok (.bipush 9, 2) := by decide +kernel
theorem dX8_command_171 : decode cX8_command 171 = .ok (.if_icmp .ne 16, 3) := by decide +kernel
theorem dX8_command_174 : decode cX8_command 174 = .ok (.aload_n 0, 1) := by decide +kernel
theorem dX8_command_175 : decode cX8_command 175 = .ok (.getfield 63, 3) := by decide +kernel
theorem dX8_command_178 : decode cX8_command 178 = .ok (.iload_n 2, 1) := by decide +kernel
theorem dX8_command_179 : decode cX8_command 179 = .ok (.aload_n 0, 1) := by decide +kernel
theorem dX8_command_180 : decode cX8_command 180 = .ok (.iconst 1, 1) := by decide +kernel
theorem dX8_command_181 : decode cX8_command 181 = .ok (.bipush 20, 2) := by decide +kernel
theorem dX8_command_183 : decode cX8_command 183 = .ok (.invokevirtual 190, 3) := by decide +kernel
theorem dX8_command_186 : decode cX8_command 186 = .ok (.iastore, 1) := by decide +kernel
theorem dX8_command_187 : decode cX8_command 187 = .ok (.iload_n 1, 1) := by decide +kernel
theorem dX8_command_188 : decode cX8_command 188 = .ok (.bipush 9, 2) := by decide +kernel
theorem dX8_command_190 : decode cX8_command 190 = .ok (.if_icmp .ne 9, 3) := by decide +kernel
theorem dX8_command_193 : decode cX8_command 193 = .ok (.aload_n 0, 1) := by decide +kernel
theorem dX8_command_194 : decode cX8_command 194 = .ok (.bipush 40, 2) := by decide +kernel
theorem dX8_command_196 : decode cX8_command 196 = .ok (.invokevirtual 211, 3) := by decide +kernel
theorem dX8_command_199 : decode cX8_command 199 = .ok (.aload_n 0, 1) := by decide +kernel
theorem dX8_command_200 : decode cX8_command 200 = .ok (.invokevirtual 139, 3) := by decide +kernel
theorem dX8_command_203 : decode cX8_command 203 = .ok (.ifCond .ne 4, 3) := by decide +kernel
theorem dX8_command_206 : decode cX8_command 206 = .ok (.return_, 1) := by decide +kernel
theorem dX8_command_207 : decode cX8_command 207 = .ok (.aload_n 0, 1) := by decide +kernel
theorem dX8_command_208 : decode cX8_command 208 = .ok (.dup, 1) := by decide +kernel
theorem dX8_command_209 : decode cX8_command 209 = .ok (.getfield 421, 3) := by decide +kernel
theorem dX8_command_212 : decode cX8_command 212 = .ok (.iconst 1, 1) := by decide +kernel
theorem dX8_command_213 : decode cX8_command 213 = .ok (.iadd, 1) := by decide +kernel
theorem dX8_command_214 : decode cX8_command 214 = .ok (.putfield 421, 3) := by decide +kernel
theorem dX8_command_217 : decode cX8_command 217 = .ok (.aload_n 0, 1) := by decide +kernel
theorem dX8_command_218 : decode cX8_command 218 = .ok (.dup, 1) := by decide +kernel
theorem dX8_command_219 : decode cX8_command 219 = .ok (.getfield 415, 3) := by decide +kernel
theorem dX8_command_222 : decode cX8_command 222 = .ok (.iload_n 1, 1) := by decide +kernel
theorem dX8_command_223 : decode cX8_command 223 = .ok (.bipush 9, 2) := by decide +kernel
theorem dX8_command_225 : decode cX8_command 225 = .ok (.if_icmp .ne 7, 3) := by decide +kernel
theorem dX8_command_228 : decode cX8_command 228 = .ok (.iconst 1, 1) := by decide +kernel
theorem dX8_command_229 : decode cX8_command 229 = .ok (.goto 4, 3) := by decide +kernel
theorem dX8_command_232 : decode cX8_command 232 = .ok (.iconst 0, 1) := by decide +kernel
theorem dX8_command_233 : decode cX8_command 233 = .ok (.invokestatic 84, 3) := by decide +kernel
theorem dX8_command_236 : decode cX8_command 236 = .ok (.iadd, 1) := by decide +kernel
theorem dX8_command_237 : decode cX8_command 237 = .ok (.putfield 415, 3) := by decide +kernel
theorem dX8_command_240 : decode cX8_command 240 = .ok (.return_, 1) := by decide +kernel
theorem dX8_closes_0 : decode cX8_closes 0 = .ok (.aload_n 0, 1) := by decide +kernel
theorem dX8_closes_1 : decode cX8_closes 1 = .ok (.getfield 415, 3) := by decide +kernel
theorem dX8_closes_4 : decode cX8_closes 4 = .ok (.ifCond .le 56, 3) := by decide +kernel
theorem dX8_closes_7 : decode cX8_closes 7 = .ok (.aload_n 0, 1) := by decide +kernel
theorem dX8_closes_8 : decode cX8_closes 8 = .ok (.bipush 41, 2) := by decide +kernel
theorem dX8_closes_10 : decode cX8_closes 10 = .ok (.invokevirtual 143, 3) := by decide +kernel
theorem dX8_closes_13 : decode cX8_closes 13 = .ok (.ifCond .eq 47, 3) := by decide +kernel
theorem dX8_closes_16 : decode cX8_closes 16 = .ok (.aload_n 0, 1) := by decide +kernel
theorem dX8_closes_17 : decode cX8_closes 17 = .ok (.dup, 1) := by decide +kernel
theorem dX8_closes_18 : decode cX8_closes 18 = .ok (.getfield 415, 3) := by decide +kernel
theorem dX8_closes_21 : decode cX8_closes 21 = .ok (.iconst 1, 1) := by decide +kernel
theorem dX8_closes_22 : decode cX8_closes 22 = .ok (.isub, 1) := by decide +kernel
theorem dX8_closes_23 : decode cX8_closes 23 = .ok (.putfield 415, 3) := by decide +kernel
theorem dX8_closes_26 : decode cX8_closes 26 = .ok (.aload_n 0, 1) := by decide +kernel
theorem dX8_closes_27 : decode cX8_closes 27 = .ok (.getfield 60, 3) := by decide +kernel
theorem dX8_closes_30 : decode cX8_closes 30 = .ok (.aload_n 0, 1) := by decide +kernel
theorem dX8_closes_31 : decode cX8_closes 31 = .ok (.getfield 421, 3) := by decide +kernel
theorem dX8_closes_34 : decode cX8_closes 34 = .ok (.bipush 10, 2) := by decide +kernel
theorem dX8_closes_36 : decode cX8_closes 36 = .ok (.iastore, 1) := by decide +kernel
theorem dX8_closes_37 : decode cX8_closes 37 = .ok (.aload_n 0, 1) := by decide +kernel
theorem dX8_closes_38 : decode cX8_closes 38 = .ok (.dup, 1) := by decide +kernel
theorem dX8_closes_39 : decode cX8_closes 39 = .ok (.getfield 421, 3) := by decide +kernel
theorem dX8_closes_42 : decode cX8_closes 42 = .ok (.iconst 1, 1) := by decide +kernel
theorem dX8_closes_43 : decode cX8_closes 43 = .ok (.iadd, 1) := by decide +kernel
theorem dX8_closes_44 : decode cX8_closes 44 = .ok (.putfield 421, 3) := by decide +kernel
theorem dX8_closes_47 : decode cX8_closes 47 = .ok (.aload_n 0, 1) := by decide +kernel
theorem dX8_closes_48 : decode cX8_closes 48 = .ok (.invokevirtual 149, 3) := by decide +kernel
theorem dX8_closes_51 : decode cX8_closes 51 = .ok (.aload_n 0, 1) := by decide +kernel
theorem dX8_closes_52 : decode cX8_closes 52 = .ok (.bipush 59, 2) := by decide +kernel
theorem dX8_closes_54 : decode cX8_closes 54 = .ok (.invokevirtual 211, 3) := by decide +kernel
theorem dX8_closes_57 : decode cX8_closes 57 = .ok (.goto (-57), 3) := by decide +kernel
theorem dX8_closes_60 : decode cX8_closes 60 = .ok (.return_, 1) := by decide +kernel
theorem dX8_may_0 : decode cX8_may 0 = .ok (.iload_n 1, 1) := by decide +kernel
theorem dX8_may_1 : decode cX8_may 1 = .ok (.tableswitch 149 0 7 #[47, 54, 70, 84, 94, 108, 129, 143], 47) := by decide +kernel
theorem dX8_may_48 : decode cX8_may 48 = .ok (.aload_n 0, 1) := by decide +kernel
theorem dX8_may_49 : decode cX8_may 49 = .ok (.iload_n 2, 1) := by decide +kernel
theorem dX8_may_50 : decode cX8_may 50 = .ok (.iload_n 3, 1) := by decide +kernel
theorem dX8_may_51 : decode cX8_may 51 = .ok (.invokevirtual 229, 3) := by decide +kernel
theorem dX8_may_54 : decode cX8_may 54 = .ok (.ireturn, 1) := by decide +kernel
theorem dX8_may_55 : decode cX8_may 55 = .ok (.aload_n 0, 1) := by decide +kernel
theorem dX8_may_56 : decode cX8_may 56 = .ok (.iload_n 2, 1) := by decide +kernel
theorem dX8_may_57 : decode cX8_may 57 = .ok (.iconst 1, 1) := by decide +kernel
theorem dX8_may_58 : decode cX8_may 58 = .ok (.invokevirtual 166, 3) := by decide +kernel
theorem dX8_may_61 : decode cX8_may 61 = .ok (.iconst (-1), 1) := by decide +kernel
theorem dX8_may_62 : decode cX8_may 62 = .ok (.if_icmp .eq 7, 3) := by decide +kernel
theorem dX8_may_65 : decode cX8_may 65 = .ok (.iconst 1, 1) := by decide +kernel
theorem dX8_may_66 : decode cX8_may 66 = .ok (.goto 4, 3) := by decide +kernel
theorem dX8_may_69 : decode cX8_may 69 = .ok (.iconst 0, 1) := by decide +kernel
theorem dX8_may_70 : decode cX8_may 70 = .ok (.ireturn, 1) := by decide +kernel
theorem dX8_may_71 : decode cX8_may 71 = .ok (.aload_n 0, 1) := by decide +kernel
theorem dX8_may_72 : decode cX8_may 72 = .ok (.iload_n 2, 1) := by decide +kernel
theorem dX8_may_73 : decode cX8_may 73 = .ok (.invokevirtual 226, 3) := by decide +kernel
theorem dX8_may_76 : decode cX8_may 76 = .ok (.ifCond .ne 7, 3) := by decide +kernel
theorem dX8_may_79 : decode cX8_may 79 = .ok (.iconst 1, 1) := by decide +kernel
theorem dX8_may_80 : decode cX8_may 80 = .ok (.goto 4, 3) := by decide +kernel
theorem dX8_may_83 : decode cX8_may 83 = .ok (.iconst 0, 1) := by decide +kernel
theorem dX8_may_84 : decode cX8_may 84 = .ok (.ireturn, 1) := by decide +kernel
theorem dX8_may_85 : decode cX8_may 85 = .ok (.iload_n 2, 1) := by decide +kernel
theorem dX8_may_86 : decode cX8_may 86 = .ok (.i2l, 1) := by decide +kernel
theorem dX8_may_87 : decode cX8_may 87 = .ok (.lconst 1, 1) := by decide +kernel
theorem dX8_may_88 : decode cX8_may 88 = .ok (.ldc2_w 374, 3) := by decide +kernel
theorem dX8_may_91 : decode cX8_may 91 = .ok (.invokestatic 99, 3) := by decide +kernel
theorem dX8_may_94 : decode cX8_may 94 = .ok (.ireturn, 1) := by decide +kernel
theorem dX8_may_95 : decode cX8_may 95 = .ok (.aload_n 0, 1) := by decide +kernel
theorem dX8_may_96 : decode cX8_may 96 = .ok (.iload_n 2, 1) := by decide +kernel
theorem dX8_may_97 : decode cX8_may 97 = .ok (.invokevirtual 335, 3) := by decide +kernel
theorem dX8_may_100 : decode cX8_may 100 = .ok (.ifCond .ne 7, 3) := by decide +kernel
theorem dX8_may_103 : decode cX8_may 103 = .ok (.iconst 1, 1) := by decide +kernel
theorem dX8_may_104 : decode cX8_may 104 = .ok (.goto 4, 3) := by decide +kernel
theorem dX8_may_107 : decode cX8_may 107 = .ok (.iconst 0, 1) := by decide +kernel
theorem dX8_may_108 : decode cX8_may 108 = .ok (.ireturn, 1) := by decide +kernel
theorem dX8_may_109 : decode cX8_may 109 = .ok (.aload_n 0, 1) := by decide +kernel
theorem dX8_may_110 : decode cX8_may 110 = .ok (.invokevirtual 323, 3) := by decide +kernel
theorem dX8_may_113 : decode cX8_may 113 = .ok (.aload_n 0, 1) := by decide +kernel
theorem dX8_may_114 : decode cX8_may 114 = .ok (.aload_n 0, 1) := by decide +kernel
theorem dX8_may_115 : decode cX8_may 115 = .ok (.getfield 306, 3) := by decide +kernel
theorem dX8_may_118 : decode cX8_may 118 = .ok (.invokevirtual 335, 3) := by decide +kernel
theorem dX8_may_121 : decode cX8_may 121 = .ok (.ifCond .ne 7, 3) := by decide +kernel
theorem dX8_may_124 : decode cX8_may 124 = .ok (.iconst 1, 1) := by decide +kernel
theorem dX8_may_125 : decode cX8_may 125 = .ok (.goto 4, 3) := by decide +kernel
theorem dX8_may_128 : decode cX8_may 128 = .ok (.iconst 0, 1) := by decide +kernel
theorem dX8_may_129 : decode cX8_may 129 = .ok (.ireturn, 1) := by decide +kernel
theorem dX8_may_130 : decode cX8_may 130 = .ok (.aload_n 0, 1) := by decide +kernel
theorem dX8_may_131 : decode cX8_may 131 = .ok (.iload_n 2, 1) := by decide +kernel
theorem dX8_may_132 : decode cX8_may 132 = .ok (.invokevirtual 226, 3) := by decide +kernel
theorem dX8_may_135 : decode cX8_may 135 = .ok (.ifCond .ne 7, 3) := by decide +kernel
theorem dX8_may_138 : decode cX8_may 138 = .ok (.iconst 1, 1) := by decide +kernel
theorem dX8_may_139 : decode cX8_may 139 = .ok (.goto 4, 3) := by decide +kernel
theorem dX8_may_142 : decode cX8_may 142 = .ok (.iconst 0, 1) := by decide +kernel
theorem dX8_may_143 : decode cX8_may 143 = .ok (.ireturn, 1) := by decide +kernel
theorem dX8_may_144 : decode cX8_may 144 = .ok (.aload_n 0, 1) := by decide +kernel
theorem dX8_may_145 : decode cX8_may 145 = .ok (.iload_n 2, 1) := by decide +kernel
theorem dX8_may_146 : decode cX8_may 146 = .ok (.invokevirtual 226, 3) := by decide +kernel
theorem dX8_may_149 : decode cX8_may 149 = .ok (.ireturn, 1) := by decide +kernel
theorem dX8_may_150 : decode cX8_may 150 = .ok (.iload_n 2, 1) := by decide +kernel
theorem dX8_may_151 : decode cX8_may 151 = .ok (.i2l, 1) := by decide +kernel
theorem dX8_may_152 : decode cX8_may 152 = .ok (.lconst 0, 1) := by decide +kernel
theorem dX8_may_153 : decode cX8_may 153 = .ok (.ldc2_w 321, 3) := by decide +kernel
theorem dX8_may_156 : decode cX8_may 156 = .ok (.invokestatic 99, 3) := by decide +kernel
theorem dX8_may_159 : decode cX8_may 159 = .ok (.ireturn, 1) := by decide +kernel
theorem dX8_does_0 : decode cX8_does 0 = .ok (.aload_n 0, 1) := by decide +kernel
theorem dX8_does_1 : decode cX8_does 1 = .ok (.iload_n 1, 1) := by decide +kernel
theorem dX8_does_2 : decode cX8_does 2 = .ok (.iload_n 2, 1) := by decide +kernel
theorem dX8_does_3 : decode cX8_does 3 = .ok (.iload_n 3, 1) := by decide +kernel
theorem dX8_does_4 : decode cX8_does 4 = .ok (.invokevirtual 430, 3) := by decide +kernel
theorem dX8_does_7 : decode cX8_does 7 = .ok (.ifCond .ne 5, 3) := by decide +kernel
theorem dX8_does_10 : decode cX8_does 10 = .ok (.iconst 0, 1) := by decide +kernel
theorem dX8_does_11 : decode cX8_does 11 = .ok (.ireturn, 1) := by decide +kernel
theorem dX8_does_12 : decode cX8_does 12 = .ok (.iload_n 1, 1) := by decide +kernel
theorem dX8_does_13 : decode cX8_does 13 = .ok (.ifCond .ne 13, 3) := by decide +kernel
theorem dX8_does_16 : decode cX8_does 16 = .ok (.aload_n 0, 1) := by decide +kernel
theorem dX8_does_17 : decode cX8_does 17 = .ok (.aload_n 0, 1) := by decide +kernel
theorem dX8_does_18 : decode cX8_does 18 = .ok (.iload_n 2, 1) := by decide +kernel
theorem dX8_does_19 : decode cX8_does 19 = .ok (.iload_n 3, 1) := by decide +kernel
theorem dX8_does_20 : decode cX8_does 20 = .ok (.invokevirtual 379, 3) := by decide +kernel
theorem dX8_does_23 : decode cX8_does 23 = .ok (.putfield 434, 3) := by decide +kernel
theorem dX8_does_26 : decode cX8_does 26 = .ok (.iload_n 1, 1) := by decide +kernel
theorem dX8_does_27 : decode cX8_does 27 = .ok (.iconst 1, 1) := by decide +kernel
theorem dX8_does_28 : decode cX8_does 28 = .ok (.if_icmp .ne 12, 3) := by decide +kernel
theorem dX8_does_31 : decode cX8_does 31 = .ok (.aload_n 0, 1) := by decide +kernel
theorem dX8_does_32 : decode cX8_does 32 = .ok (.aload_n 0, 1) := by decide +kernel
theorem dX8_does_33 : decode cX8_does 33 = .ok (.iload_n 2, 1) := by decide +kernel
theorem dX8_does_34 : decode cX8_does 34 = .ok (.invokevirtual 384, 3) := by decide +kernel
theorem dX8_does_37 : decode cX8_does 37 = .ok (.putfield 434, 3) := by decide +kernel
theorem dX8_does_40 : decode cX8_does 40 = .ok (.iload_n 1, 1) := by decide +kernel
theorem dX8_does_41 : decode cX8_does 41 = .ok (.iconst 2, 1) := by decide +kernel
theorem dX8_does_42 : decode cX8_does 42 = .ok (.if_icmp .ne 12, 3) := by decide +kernel
theorem dX8_does_45 : decode cX8_does 45 = .ok (.aload_n 0, 1) := by decide +kernel
theorem dX8_does_46 : decode cX8_does 46 = .ok (.aload_n 0, 1) := by decide +kernel
theorem dX8_does_47 : decode cX8_does 47 = .ok (.iload_n 2, 1) := by decide +kernel
theorem dX8_does_48 : decode cX8_does 48 = .ok (.invokevirtual 362, 3) := by decide +kernel
theorem dX8_does_51 : decode cX8_does 51 = .ok (.putfield 434, 3) := by decide +kernel
theorem dX8_does_54 : decode cX8_does 54 = .ok (.iload_n 1, 1) := by decide +kernel
theorem dX8_does_55 : decode cX8_does 55 = .ok (.iconst 3, 1) := by decide +kernel
theorem dX8_does_56 : decode cX8_does 56 = .ok (.if_icmp .ne 12, 3) := by decide +kernel
theorem dX8_does_59 : decode cX8_does 59 = .ok (.aload_n 0, 1) := by decide +kernel
theorem dX8_does_60 : decode cX8_does 60 = .ok (.aload_n 0, 1) := by decide +kernel
theorem dX8_does_61 : decode cX8_does 61 = .ok (.iload_n 2, 1) := by decide +kernel
theorem dX8_does_62 : decode cX8_does 62 = .ok (.invokevirtual 368, 3) := by decide +kernel
theorem dX8_does_65 : decode cX8_does 65 = .ok (.putfield 434, 3) := by decide +kernel
theorem dX8_does_68 : decode cX8_does 68 = .ok (.iload_n 1, 1) := by decide +kernel
theorem dX8_does_69 : decode cX8_does 69 = .ok (.iconst 4, 1) := by decide +kernel
theorem dX8_does_70 : decode cX8_does 70 = .ok (.if_icmp .ne 12, 3) := by decide +kernel
theorem dX8_does_73 : decode cX8_does 73 = .ok (.aload_n 0, 1) := by decide +kernel
theorem dX8_does_74 : decode cX8_does 74 = .ok (.aload_n 0, 1) := by decide +kernel
theorem dX8_does_75 : decode cX8_does 75 = .ok (.iload_n 2, 1) := by decide +kernel
theorem dX8_does_76 : decode cX8_does 76 = .ok (.invokevirtual 341, 3) := by decide +kernel
theorem dX8_does_79 : decode cX8_does 79 = .ok (.putfield 434, 3) := by decide +kernel
theorem dX8_does_82 : decode cX8_does 82 = .ok (.iload_n 1, 1) := by decide +kernel
theorem dX8_does_83 : decode cX8_does 83 = .ok (.iconst 5, 1) := by decide +kernel
theorem dX8_does_84 : decode cX8_does 84 = .ok (.if_icmp .ne 15, 3) := by decide +kernel
theorem dX8_does_87 : decode cX8_does 87 = .ok (.aload_n 0, 1) := by decide +kernel
theorem dX8_does_88 : decode cX8_does 88 = .ok (.aload_n 0, 1) := by decide +kernel
theorem dX8_does_89 : decode cX8_does 89 = .ok (.aload_n 0, 1) := by decide +kernel
theorem dX8_does_90 : decode cX8_does 90 = .ok (.getfield 306, 3) := by decide +kernel
theorem dX8_does_93 : decode cX8_does 93 = .ok (.invokevirtual 341, 3) := by decide +kernel
theorem dX8_does_96 : decode cX8_does 96 = .ok (.putfield 434, 3) := by decide +kernel
theorem dX8_does_99 : decode cX8_does 99 = .ok (.iload_n 1, 1) := by decide +kernel
theorem dX8_does_100 : decode cX8_does 100 = .ok (.bipush 6, 2) := by decide +kernel
theorem dX8_does_102 : decode cX8_does 102 = .ok (.if_icmp .eq 9, 3) := by decide +kernel
theorem dX8_does_105 : decode cX8_does 105 = .ok (.iload_n 1, 1) := by decide +kernel
theorem dX8_does_106 : decode cX8_does 106 = .ok (.bipush 7, 2) := by decide +kernel
theorem dX8_does_108 : decode cX8_does 108 = .ok (.if_icmp .ne 23, 3) := by decide +kernel
theorem dX8_does_111 : decode cX8_does 111 = .ok (.aload_n 0, 1) := by decide +kernel
theorem dX8_does_112 : decode cX8_does 112 = .ok (.aload_n 0, 1) := by decide +kernel
theorem dX8_does_113 : decode cX8_does 113 = .ok (.iload_n 2, 1) := by decide +kernel
theorem dX8_does_114 : decode cX8_does 114 = .ok (.iload_n 1, 1) := by decide +kernel
theorem dX8_does_115 : decode cX8_does 115 = .ok (.bipush 6, 2) := by decide +kernel
theorem dX8_does_117 : decode cX8_does 117 = .ok (.if_icmp .ne 7, 3) := by decide +kernel
theorem dX8_does_120 : decode cX8_does 120 = .ok (.iconst 1, 1) := by decide +kernel
theorem dX8_does_121 : decode cX8_does 121 = .ok (.goto 4, 3) := by decide +kernel
theorem dX8_does_124 : decode cX8_does 124 = .ok (.iconst 0, 1) := by decide +kernel
theorem dX8_does_125 : decode cX8_does 125 = .ok (.invokevirtual 387, 3) := by decide +kernel
theorem dX8_does_128 : decode cX8_does 128 = .ok (.putfield 434, 3) := by decide +kernel
theorem dX8_does_131 : decode cX8_does 131 = .ok (.iload_n 1, 1) := by decide +kernel
theorem dX8_does_132 : decode cX8_does 132 = .ok (.bipush 8, 2) := by decide +kernel
theorem dX8_does_134 : decode cX8_does 134 = .ok (.if_icmp .ne 12, 3) := by decide +kernel
theorem dX8_does_137 : decode cX8_does 137 = .ok (.aload_n 0, 1) := by decide +kernel
theorem dX8_does_138 : decode cX8_does 138 = .ok (.aload_n 0, 1) := by decide +kernel
theorem dX8_does_139 : decode cX8_does 139 = .ok (.iload_n 2, 1) := by decide +kernel
theorem dX8_does_140 : decode cX8_does 140 = .ok (.invokevirtual 391, 3) := by decide +kernel
theorem dX8_does_143 : decode cX8_does 143 = .ok (.putfield 434, 3) := by decide +kernel
theorem dX8_does_146 : decode cX8_does 146 = .ok (.iconst 1, 1) := by decide +kernel
theorem dX8_does_147 : decode cX8_does 147 = .ok (.ireturn, 1) := by decide +kernel
theorem dX8_runScript_0 : decode cX8_runScript 0 = .ok (.aload_n 0, 1) := by decide +kernel
theorem dX8_runScript_1 : decode cX8_runScript 1 = .ok (.invokevirtual 214, 3) := by decide +kernel
theorem dX8_runScript_4 : decode cX8_runScript 4 = .ok (.aload_n 0, 1) := by decide +kernel
theorem dX8_runScript_5 : decode cX8_runScript 5 = .ok (.iconst 0, 1) := by decide +kernel
theorem dX8_runScript_6 : decode cX8_runScript 6 = .ok (.putfield 421, 3) := by decide +kernel
theorem dX8_runScript_9 : decode cX8_runScript 9 = .ok (.aload_n 0, 1) := by decide +kernel
theorem dX8_runScript_10 : decode cX8_runScript 10 = .ok (.iconst 0, 1) := by decide +kernel
theorem dX8_runScript_11 : decode cX8_runScript 11 = .ok (.putfield 418, 3) := by decide +kernel
theorem dX8_runScript_14 : decode cX8_runScript 14 = .ok (.aload_n 0, 1) := by decide +kernel
theorem dX8_runScript_15 : decode cX8_runScript 15 = .ok (.iconst 0, 1) := by decide +kernel
theorem dX8_runScript_16 : decode cX8_runScript 16 = .ok (.putfield 415, 3) := by decide +kernel
theorem dX8_runScript_19 : decode cX8_runScript 19 = .ok (.aload_n 0, 1) := by decide +kernel
theorem dX8_runScript_20 : decode cX8_runScript 20 = .ok (.invokevirtual 139, 3) := by decide +kernel
theorem dX8_runScript_23 : decode cX8_runScript 23 = .ok (.ifCond .eq 40, 3) := by decide +kernel
theorem dX8_runScript_26 : decode cX8_runScript 26 = .ok (.aload_n 0, 1) := by decide +kernel
theorem dX8_runScript_27 : decode cX8_runScript 27 = .ok (.getfield 126, 3) := by decide +kernel
theorem dX8_runScript_30 : decode cX8_runScript 30 = .ok (.ifCond .eq 33, 3) := by decide +kernel
theorem dX8_runScript_33 : decode cX8_runScript 33 = .ok (.aload_n 0, 1) := by decide +kernel
theorem dX8_runScript_34 : decode cX8_runScript 34 = .ok (.getfield 415, 3) := by decide +kernel
theorem dX8_runScript_37 : decode cX8_runScript 37 = .ok (.istore_n 1, 1) := by decide +kernel
theorem dX8_runScript_38 : decode cX8_runScript 38 = .ok (.aload_n 0, 1) := by decide +kernel
theorem dX8_runScript_39 : decode cX8_runScript 39 = .ok (.invokevirtual 437, 3) := by decide +kernel
theorem dX8_runScript_42 : decode cX8_runScript 42 = .ok (.aload_n 0, 1) := by decide +kernel
theorem dX8_runScript_43 : decode cX8_runScript 43 = .ok (.getfield 415, 3) := by decide +kernel
theorem dX8_runScript_46 : decode cX8_runScript 46 = .ok (.iload_n 1, 1) := by decide +kernel
theorem dX8_runScript_47 : decode cX8_runScript 47 = .ok (.if_icmp .ne 9, 3) := by decide +kernel
theorem dX8_runScript_50 : decode cX8_runScript 50 = .ok (.aload_n 0, 1) := by decide +kernel
theorem dX8_runScript_51 : decode cX8_runScript 51 = .ok (.bipush 59, 2) := by decide +kernel
theorem dX8_runScript_53 : decode cX8_runScript 53 = .ok (.invokevirtual 211, 3) := by decide +kernel
theorem dX8_runScript_56 : decode cX8_runScript 56 = .ok (.aload_n 0, 1) := by decide +kernel
theorem dX8_runScript_57 : decode cX8_runScript 57 = .ok (.invokevirtual 440, 3) := by decide +kernel
theorem dX8_runScript_60 : decode cX8_runScript 60 = .ok (.goto (-41), 3) := by decide +kernel
theorem dX8_runScript_63 : decode cX8_runScript 63 = .ok (.aload_n 0, 1) := by decide +kernel
theorem dX8_runScript_64 : decode cX8_runScript 64 = .ok (.invokevirtual 139, 3) := by decide +kernel
theorem dX8_runScript_67 : decode cX8_runScript 67 = .ok (.ifCond .eq 15, 3) := by decide +kernel
theorem dX8_runScript_70 : decode cX8_runScript 70 = .ok (.aload_n 0, 1) := by decide +kernel
theorem dX8_runScript_71 : decode cX8_runScript 71 = .ok (.getfield 415, 3) := by decide +kernel
theorem dX8_runScript_74 : decode cX8_runScript 74 = .ok (.ifCond .le 8, 3) := by decide +kernel
theorem dX8_runScript_77 : decode cX8_runScript 77 = .ok (.aload_n 0, 1) := by decide +kernel
theorem dX8_runScript_78 : decode cX8_runScript 78 = .ok (.iconst 1, 1) := by decide +kernel
theorem dX8_runScript_79 : decode cX8_runScript 79 = .ok (.invokevirtual 146, 3) := by decide +kernel
theorem dX8_runScript_82 : decode cX8_runScript 82 = .ok (.aload_n 0, 1) := by decide +kernel
theorem dX8_runScript_83 : decode cX8_runScript 83 = .ok (.invokevirtual 223, 3) := by decide +kernel
theorem dX8_runScript_86 : decode cX8_runScript 86 = .ok (.ifCond .ne 5, 3) := by decide +kernel
theorem dX8_runScript_89 : decode cX8_runScript 89 = .ok (.iconst 0, 1) := by decide +kernel
theorem dX8_runScript_90 : decode cX8_runScript 90 = .ok (.ireturn, 1) := by decide +kernel
theorem dX8_runScript_91 : decode cX8_runScript 91 = .ok (.aload_n 0, 1) := by decide +kernel
theorem dX8_runScript_92 : decode cX8_runScript 92 = .ok (.invokevirtual 217, 3) := by decide +kernel
theorem dX8_runScript_95 : decode cX8_runScript 95 = .ok (.aload_n 0, 1) := by decide +kernel
theorem dX8_runScript_96 : decode cX8_runScript 96 = .ok (.invokevirtual 443, 3) := by decide +kernel
theorem dX8_runScript_99 : decode cX8_runScript 99 = .ok (.istore_n 1, 1) := by decide +kernel
theorem dX8_runScript_100 : decode cX8_runScript 100 = .ok (.aload_n 0, 1) := by decide +kernel
theorem dX8_runScript_101 : decode cX8_runScript 101 = .ok (.invokevirtual 376, 3) := by decide +kernel
theorem dX8_runScript_104 : decode cX8_runScript 104 = .ok (.iload_n 1, 1) := by decide +kernel
theorem dX8_runScript_105 : decode cX8_runScript 105 = .ok (.ireturn, 1) := by decide +kernel
theorem dX8_runs_0 : decode cX8_runs 0 = .ok (.iconst 0, 1) := by decide +kernel
theorem dX8_runs_1 : decode cX8_runs 1 = .ok (.istore_n 1, 1) := by decide +kernel
theorem dX8_runs_2 : decode cX8_runs 2 = .ok (.iconst 0, 1) := by decide +kernel
theorem dX8_runs_3 : decode cX8_runs 3 = .ok (.istore_n 2, 1) := by decide +kernel
theorem dX8_runs_4 : decode cX8_runs 4 = .ok (.iconst 0, 1) := by decide +kernel
theorem dX8_runs_5 : decode cX8_runs 5 = .ok (.istore_n 3, 1) := by decide +kernel
theorem dX8_runs_6 : decode cX8_runs 6 = .ok (.iconst 1, 1) := by decide +kernel
theorem dX8_runs_7 : decode cX8_runs 7 = .ok (.istore 4, 2) := by decide +kernel
theorem dX8_runs_9 : decode cX8_runs 9 = .ok (.iload 4, 2) := by decide +kernel
theorem dX8_runs_11 : decode cX8_runs 11 = .ok (.ifCond .eq 176, 3) := by decide +kernel
theorem dX8_runs_14 : decode cX8_runs 14 = .ok (.iload_n 3, 1) := by decide +kernel
theorem dX8_runs_15 : decode cX8_runs 15 = .ok (.aload_n 0, 1) := by decide +kernel
theorem dX8_runs_16 : decode cX8_runs 16 = .ok (.getfield 421, 3) := by decide +kernel
theorem dX8_runs_19 : decode cX8_runs 19 = .ok (.if_icmp .ge 168, 3) := by decide +kernel
theorem dX8_runs_22 : decode cX8_runs 22 = .ok (.iload_n 1, 1) := by decide +kernel
theorem dX8_runs_23 : decode cX8_runs 23 = .ok (.bipush 40, 2) := by decide +kernel
theorem dX8_runs_25 : decode cX8_runs 25 = .ok (.if_icmp .ge 162, 3) := by decide +kernel
theorem dX8_runs_28 : decode cX8_runs 28 = .ok (.aload_n 0, 1) := by decide +kernel
theorem dX8_runs_29 : decode cX8_runs 29 = .ok (.getfield 60, 3) := by decide +kernel
theorem dX8_runs_32 : decode cX8_runs 32 = .ok (.iload_n 3, 1) := by decide +kernel
theorem dX8_runs_33 : decode cX8_runs 33 = .ok (.iaload, 1) := by decide +kernel
theorem dX8_runs_34 : decode cX8_runs 34 = .ok (.bipush 9, 2) := by decide +kernel
theorem dX8_runs_36 : decode cX8_runs 36 = .ok (.if_icmp .ne 31, 3) := by decide +kernel
theorem dX8_runs_39 : decode cX8_runs 39 = .ok (.aload_n 0, 1) := by decide +kernel
theorem dX8_runs_40 : decode cX8_runs 40 = .ok (.getfield 69, 3) := by decide +kernel
theorem dX8_runs_43 : decode cX8_runs 43 = .ok (.iload_n 2, 1) := by decide +kernel
theorem dX8_runs_44 : decode cX8_runs 44 = .ok (.iload_n 3, 1) := by decide +kernel
theorem dX8_runs_45 : decode cX8_runs 45 = .ok (.iastore, 1) := by decide +kernel
theorem dX8_runs_46 : decode cX8_runs 46 = .ok (.aload_n 0, 1) := by decide +kernel
theorem dX8_runs_47 : decode cX8_runs 47 = .ok (.getfield 72, 3) := by decide +kernel
theorem dX8_runs_50 : decode cX8_runs 50 = .ok (.iload_n 2, 1) := by decide +kernel
theorem dX8_runs_51 : decode cX8_runs 51 = .ok (.aload_n 0, 1) := by decide +kernel
theorem dX8_runs_52 : decode cX8_runs 52 = .ok (.getfield 63, 3) := by decide +kernel
theorem dX8_runs_55 : decode cX8_runs 55 = .ok (.iload_n 3, 1) := by decide +kernel
theorem dX8_runs_56 : decode cX8_runs 56 = .ok (.iaload, 1) := by decide +kernel
theorem dX8_runs_57 : decode cX8_runs 57 = .ok (.iastore, 1) := by decide +kernel
theorem dX8_runs_58 : decode cX8_runs 58 = .ok (.iinc 2 1, 3) := by decide +kernel
theorem dX8_runs_61 : decode cX8_runs 61 = .ok (.iinc 3 1, 3) := by decide +kernel
theorem dX8_runs_64 : decode cX8_runs 64 = .ok (.goto (-55), 3) := by decide +kernel
theorem dX8_runs_67 : decode cX8_runs 67 = .ok (.aload_n 0, 1) := by decide +kernel
theorem dX8_runs_68 : decode cX8_runs 68 = .ok (.getfield 60, 3) := by decide +kernel
theorem dX8_runs_71 : decode cX8_runs 71 = .ok (.iload_n 3, 1) := by decide +kernel
theorem dX8_runs_72 : decode cX8_runs 72 = .ok (.iaload, 1) := by decide +kernel
theorem dX8_runs_73 : decode cX8_runs 73 = .ok (.bipush 10, 2) := by decide +kernel
theorem dX8_runs_75 : decode cX8_runs 75 = .ok (.if_icmp .ne 74, 3) := by decide +kernel
theorem dX8_runs_78 : decode cX8_runs 78 = .ok (.aload_n 0, 1) := by decide +kernel
theorem dX8_runs_79 : decode cX8_runs 79 = .ok (.getfield 72, 3) := by decide +kernel
theorem dX8_runs_82 : decode cX8_runs 82 = .ok (.iload_n 2, 1) := by decide +kernel
theorem dX8_runs_83 : decode cX8_runs 83 = .ok (.iconst 1, 1) := by decide +kernel
theorem dX8_runs_84 : decode cX8_runs 84 = .ok (.isub, 1) := by decide +kernel
theorem dX8_runs_85 : decode cX8_runs 85 = .ok (.dup2, 1) := by decide +kernel
theorem dX8_runs_86 : decode cX8_runs 86 = .ok (.iaload, 1) := by decide +kernel
theorem dX8_runs_87 : decode cX8_runs 87 = .ok (.iconst 1, 1) := by decide +kernel
theorem dX8_runs_88 : decode cX8_runs 88 = .ok (.isub, 1) := by decide +kernel
theorem dX8_runs_89 : decode cX8_runs 89 = .ok (.iastore, 1) := by decide +kernel
theorem dX8_runs_90 : decode cX8_runs 90 = .ok (.aload_n 0, 1) := by decide +kernel
theorem dX8_runs_91 : decode cX8_runs 91 = .ok (.getfield 72, 3) := by decide +kernel
theorem dX8_runs_94 : decode cX8_runs 94 = .ok (.iload_n 2, 1) := by decide +kernel
theorem dX8_runs_95 : decode cX8_runs 95 = .ok (.iconst 1, 1) := by decide +kernel
theorem dX8_runs_96 : decode cX8_runs 96 = .ok (.isub, 1) := by decide +kernel
theorem dX8_runs_97 : decode cX8_runs 97 = .ok (.iaload, 1) := by decide +kernel
theorem dX8_runs_98 : decode cX8_runs 98 = .ok (.ifCond .le 7, 3) := by decide +kernel
theorem dX8_runs_101 : decode cX8_runs 101 = .ok (.iconst 1, 1) := by decide +kernel
theorem dX8_runs_102 : decode cX8_runs 102 = .ok (.goto 4, 3) := by decide +kernel
theorem dX8_runs_105 : decode cX8_runs 105 = .ok (.iconst 0, 1) := by decide +kernel
theorem dX8_runs_106 : decode cX8_runs 106 = .ok (.istore 5, 2) := by decide +kernel
theorem dX8_runs_108 : decode cX8_runs 108 = .ok (.iload 5, 2) := by decide +kernel
theorem dX8_runs_110 : decode cX8_runs 110 = .ok (.ifCond .eq 16, 3) := by decide +kernel
theorem dX8_runs_113 : decode cX8_runs 113 = .ok (.aload_n 0, 1) := by decide +kernel
theorem dX8_runs_114 : decode cX8_runs 114 = .ok (.getfield 69, 3) := by decide +kernel
theorem dX8_runs_117 : decode cX8_runs 117 = .ok (.iload_n 2, 1) := by decide +kernel
theorem dX8_runs_118 : decode cX8_runs 118 = .ok (.iconst 1, 1) := by decide +kernel
theorem dX8_runs_119 : decode cX8_runs 119 = .ok (.isub, 1) := by decide +kernel
theorem dX8_runs_120 : decode cX8_runs 120 = .ok (.iaload, 1) := by decide +kernel
theorem dX8_runs_121 : decode cX8_runs 121 = .ok (.iconst 1, 1) := by decide +kernel
theorem dX8_runs_122 : decode cX8_runs 122 = .ok (.iadd, 1) := by decide +kernel
theorem dX8_runs_123 : decode cX8_runs 123 = .ok (.goto 6, 3) := by decide +kernel
theorem dX8_runs_126 : decode cX8_runs 126 = .ok (.iload_n 3, 1) := by decide +kernel
theorem dX8_runs_127 : decode cX8_runs 127 = .ok (.iconst 1, 1) := by decide +kernel
theorem dX8_runs_128 : decode cX8_runs 128 = .ok (.iadd, 1) := by decide +kernel
theorem dX8_runs_129 : decode cX8_runs 129 = .ok (.istore_n 3, 1) := by decide +kernel
theorem dX8_runs_130 : decode cX8_runs 130 = .ok (.iload_n 2, 1) := by decide +kernel
theorem dX8_runs_131 : decode cX8_runs 131 = .ok (.iload 5, 2) := by decide +kernel
theorem dX8_runs_133 : decode cX8_runs 133 = .ok (.ifCond .ne 7, 3) := by decide +kernel
theorem dX8_runs_136 : decode cX8_runs 136 = .ok (.iconst 1, 1) := by decide +kernel
theorem dX8_runs_137 : decode cX8_runs 137 = .ok (.goto 4, 3) := by decide +kernel
theorem dX8_runs_140 : decode cX8_runs 140 = .ok (.iconst 0, 1) := by decide +kernel
theorem dX8_runs_141 : decode cX8_runs 141 = .ok (.invokestatic 84, 3) := by decide +kernel
theorem dX8_runs_144 : decode cX8_runs 144 = .ok (.isub, 1) := by decide +kernel
theorem dX8_runs_145 : decode cX8_runs 145 = .ok (.istore_n 2, 1) := by decide +kernel
theorem dX8_runs_146 : decode cX8_runs 146 = .ok (.goto (-137), 3) := by decide +kernel
theorem dX8_runs_149 : decode cX8_runs 149 = .ok (.aload_n 0, 1) := by decide +kernel
theorem dX8_runs_150 : decode cX8_runs 150 = .ok (.aload_n 0, 1) := by decide +kernel
theorem dX8_runs_151 : decode cX8_runs 151 = .ok (.getfield 60, 3) := by decide +kernel
theorem dX8_runs_154 : decode cX8_runs 154 = .ok (.iload_n 3, 1) := by decide +kernel
theorem dX8_runs_155 : decode cX8_runs 155 = .ok (.iaload, 1) := by decide +kernel
theorem dX8_runs_156 : decode cX8_runs 156 = .ok (.aload_n 0, 1) := by decide +kernel
theorem dX8_runs_157 : decode cX8_runs 157 = .ok (.getfield 63, 3) := by decide +kernel
theorem dX8_runs_160 : decode cX8_runs 160 = .ok (.iload_n 3, 1) := by decide +kernel
theorem dX8_runs_161 : decode cX8_runs 161 = .ok (.iaload, 1) := by decide +kernel
theorem dX8_runs_162 : decode cX8_runs 162 = .ok (.aload_n 0, 1) := by decide +kernel
theorem dX8_runs_163 : decode cX8_runs 163 = .ok (.getfield 66, 3) := by decide +kernel
theorem dX8_runs_166 : decode cX8_runs 166 = .ok (.iload_n 3, 1) := by decide +kernel
theorem dX8_runs_167 : decode cX8_runs 167 = .ok (.iaload, 1) := by decide +kernel
theorem dX8_runs_168 : decode cX8_runs 168 = .ok (.invokevirtual 446, 3) := by decide +kernel
theorem dX8_runs_171 : decode cX8_runs 171 = .ok (.istore 4, 2) := by decide +kernel
theorem dX8_runs_173 : decode cX8_runs 173 = .ok (.iload_n 1, 1) := by decide +kernel
theorem dX8_runs_174 : decode cX8_runs 174 = .ok (.iload 4, 2) := by decide +kernel
theorem dX8_runs_176 : decode cX8_runs 176 = .ok (.invokestatic 84, 3) := by decide +kernel
theorem dX8_runs_179 : decode cX8_runs 179 = .ok (.iadd, 1) := by decide +kernel
theorem dX8_runs_180 : decode cX8_runs 180 = .ok (.istore_n 1, 1) := by decide +kernel
theorem dX8_runs_181 : decode cX8_runs 181 = .ok (.iinc 3 1, 3) := by decide +kernel
theorem dX8_runs_184 : decode cX8_runs 184 = .ok (.goto (-175), 3) := by decide +kernel
theorem dX8_runs_187 : decode cX8_runs 187 = .ok (.iload_n 1, 1) := by decide +kernel
theorem dX8_runs_188 : decode cX8_runs 188 = .ok (.ireturn, 1) := by decide +kernel
theorem dX8_tell_0 : decode cX8_tell 0 = .ok (.aload_n 0, 1) := by decide +kernel
theorem dX8_tell_1 : decode cX8_tell 1 = .ok (.getfield 75, 3) := by decide +kernel
theorem dX8_tell_4 : decode cX8_tell 4 = .ok (.aload_n 0, 1) := by decide +kernel
theorem dX8_tell_5 : decode cX8_tell 5 = .ok (.getfield 449, 3) := by decide +kernel
theorem dX8_tell_8 : decode cX8_tell 8 = .ok (.iload_n 1, 1) := by decide +kernel
theorem dX8_tell_9 : decode cX8_tell 9 = .ok (.iastore, 1) := by decide +kernel
theorem dX8_tell_10 : decode cX8_tell 10 = .ok (.aload_n 0, 1) := by decide +kernel
theorem dX8_tell_11 : decode cX8_tell 11 = .ok (.dup, 1) := by decide +kernel
theorem dX8_tell_12 : decode cX8_tell 12 = .ok (.getfield 449, 3) := by decide +kernel
theorem dX8_tell_15 : decode cX8_tell 15 = .ok (.iconst 1, 1) := by decide +kernel
theorem dX8_tell_16 : decode cX8_tell 16 = .ok (.iadd, 1) := by decide +kernel
theorem dX8_tell_17 : decode cX8_tell 17 = .ok (.putfield 449, 3) := by decide +kernel
theorem dX8_tell_20 : decode cX8_tell 20 = .ok (.return_, 1) := by decide +kernel
theorem dX8_tellName_0 : decode cX8_tellName 0 = .ok (.bipush 35, 2) := by decide +kernel
theorem dX8_tellName_2 : decode cX8_tellName 2 = .ok (.istore_n 3, 1) := by decide +kernel
theorem dX8_tellName_3 : decode cX8_tellName 3 = .ok (.iload_n 3, 1) := by decide +kernel
theorem dX8_tellName_4 : decode cX8_tellName 4 = .ok (.ifCond .lt 32, 3) := by decide +kernel
theorem dX8_tellName_7 : decode cX8_tellName 7 = .ok (.lload_n 1, 1) := by decide +kernel
theorem dX8_tellName_8 : decode cX8_tellName 8 = .ok (.iload_n 3, 1) := by decide +kernel
theorem dX8_tellName_9 : decode cX8_tellName 9 = .ok (.lshr, 1) := by decide +kernel
theorem dX8_tellName_10 : decode cX8_tellName 10 = .ok (.lconst 0, 1) := by decide +kernel
theorem dX8_tellName_11 : decode cX8_tellName 11 = .ok (.lcmp, 1) := by decide +kernel
theorem dX8_tellName_12 : decode cX8_tellName 12 = .ok (.ifCond .le 18, 3) := by decide +kernel
theorem dX8_tellName_15 : decode cX8_tellName 15 = .ok (.aload_n 0, 1) := by decide +kernel
theorem dX8_tellName_16 : decode cX8_tellName 16 = .ok (.bipush 96, 2) := by decide +kernel
theorem dX8_tellName_18 : decode cX8_tellName 18 = .ok (.lload_n 1, 1) := by decide +kernel
theorem dX8_tellName_19 : decode cX8_tellName 19 = .ok (.iload_n 3, 1) := by decide +kernel
theorem dX8_tellName_20 : decode cX8_tellName 20 = .ok (.lshr, 1) := by decide +kernel
theorem dX8_tellName_21 : decode cX8_tellName 21 = .ok (.ldc2_w 452, 3) := by decide +kernel
theorem dX8_tellName_24 : decode cX8_tellName 24 = .ok (.land, 1) := by decide +kernel
theorem dX8_tellName_25 : decode cX8_tellName 25 = .ok (.l2i, 1) := by decide +kernel
theorem dX8_tellName_26 : decode cX8_tellName 26 = .ok (.iadd, 1) := by decide +kernel
theorem dX8_tellName_27 : decode cX8_tellName 27 = .ok (.invokevirtual 454, 3) := by decide +kernel
theorem dX8_tellName_30 : decode cX8_tellName 30 = .ok (.iinc 3 (-5), 3) := by decide +kernel
theorem dX8_tellName_33 : decode cX8_tellName 33 = .ok (.goto (-30), 3) := by decide +kernel
theorem dX8_tellName_36 : decode cX8_tellName 36 = .ok (.return_, 1) := by decide +kernel
theorem dX8_report_0 : decode cX8_report 0 = .ok (.aload_n 0, 1) := by decide +kernel
theorem dX8_report_1 : decode cX8_report 1 = .ok (.iconst 0, 1) := by decide +kernel
theorem dX8_report_2 : decode cX8_report 2 = .ok (.putfield 81, 3) := by decide +kernel
theorem dX8_report_5 : decode cX8_report 5 = .ok (.aload_n 0, 1) := by decide +kernel
theorem dX8_report_6 : decode cX8_report 6 = .ok (.iconst 0, 1) := by decide +kernel
theorem dX8_report_7 : decode cX8_report 7 = .ok (.putfield 449, 3) := by decide +kernel
theorem dX8_report_10 : decode cX8_report 10 = .ok (.aload_n 0, 1) := by decide +kernel
theorem dX8_report_11 : decode cX8_report 11 = .ok (.iconst 1, 1) := by decide +kernel
theorem dX8_report_12 : decode cX8_report 12 = .ok (.putfield 457, 3) := by decide +kernel
theorem dX8_report_15 : decode cX8_report 15 = .ok (.iconst 0, 1) := by decide +kernel
theorem dX8_report_16 : decode cX8_report 16 = .ok (.istore_n 1, 1) := by decide +kernel
theorem dX8_report_17 : decode cX8_report 17 = .ok (.iload_n 1, 1) := by decide +kernel
theorem dX8_report_18 : decode cX8_report 18 = .ok (.aload_n 0, 1) := by decide +kernel
theorem dX8_report_19 : decode cX8_report 19 = .ok (.getfield 20, 3) := by decide +kernel
theorem dX8_report_22 : decode cX8_report 22 = .ok (.iconst 0, 1) := by decide +kernel
theorem dX8_report_23 : decode cX8_report 23 = .ok (.iaload, 1) := by decide +kernel
theorem dX8_report_24 : decode cX8_report 24 = .ok (.if_icmp .ge 144, 3) := by decide +kernel
theorem dX8_report_27 : decode cX8_report 27 = .ok (.aload_n 0, 1) := by decide +kernel
theorem dX8_report_28 : decode cX8_report 28 = .ok (.iload_n 1, 1) := by decide +kernel
theorem dX8_report_29 : decode cX8_report 29 = .ok (.invokevirtual 226, 3) := by decide +kernel
theorem dX8_report_32 : decode cX8_report 32 = .ok (.ifCond .eq 9, 3) := by decide +kernel
theorem dX8_report_35 : decode cX8_report 35 = .ok (.aload_n 0, 1) := by decide +kernel
theorem dX8_report_36 : decode cX8_report 36 = .ok (.bipush 45, 2) := by decide +kernel
theorem dX8_report_38 : decode cX8_report 38 = .ok (.invokevirtual 454, 3) := by decide +kernel
theorem dX8_report_41 : decode cX8_report 41 = .ok (.aload_n 0, 1) := by decide +kernel
theorem dX8_report_42 : decode cX8_report 42 = .ok (.aload_n 0, 1) := by decide +kernel
theorem dX8_report_43 : decode cX8_report 43 = .ok (.getfield 35, 3) := by decide +kernel
theorem dX8_report_46 : decode cX8_report 46 = .ok (.iload_n 1, 1) := by decide +kernel
theorem dX8_report_47 : decode cX8_report 47 = .ok (.laload, 1) := by decide +kernel
theorem dX8_report_48 : decode cX8_report 48 = .ok (.invokevirtual 460, 3) := by decide +kernel
theorem dX8_report_51 : decode cX8_report 51 = .ok (.aload_n 0, 1) := by decide +kernel
theorem dX8_report_52 : decode cX8_report 52 = .ok (.bipush 32, 2) := by decide +kernel
theorem dX8_report_54 : decode cX8_report 54 = .ok (.invokevirtual 454, 3) := by decide +kernel
theorem dX8_report_57 : decode cX8_report 57 = .ok (.aload_n 0, 1) := by decide +kernel
theorem dX8_report_58 : decode cX8_report 58 = .ok (.iload_n 1, 1) := by decide +kernel
theorem dX8_report_59 : decode cX8_report 59 = .ok (.iconst 1, 1) := by decide +kernel
theorem dX8_report_60 : decode cX8_report 60 = .ok (.invokevirtual 166, 3) := by decide +kernel
theorem dX8_report_63 : decode cX8_report 63 = .ok (.istore_n 2, 1) := by decide +kernel
theorem dX8_report_64 : decode cX8_report 64 = .ok (.iconst 0, 1) := by decide +kernel
theorem dX8_report_65 : decode cX8_report 65 = .ok (.istore_n 3, 1) := by decide +kernel
theorem dX8_report_66 : decode cX8_report 66 = .ok (.iload_n 3, 1) := by decide +kernel
theorem dX8_report_67 : decode cX8_report 67 = .ok (.aload_n 0, 1) := by decide +kernel
theorem dX8_report_68 : decode cX8_report 68 = .ok (.iload_n 1, 1) := by decide +kernel
theorem dX8_report_69 : decode cX8_report 69 = .ok (.iconst 0, 1) := by decide +kernel
theorem dX8_report_70 : decode cX8_report 70 = .ok (.invokevirtual 166, 3) := by decide +kernel
theorem dX8_report_73 : decode cX8_report 73 = .ok (.if_icmp .ge 83, 3) := by decide +kernel
theorem dX8_report_76 : decode cX8_report 76 = .ok (.iload_n 2, 1) := by decide +kernel
theorem dX8_report_77 : decode cX8_report 77 = .ok (.iconst (-1), 1) := by decide +kernel
theorem dX8_report_78 : decode cX8_report 78 = .ok (.if_icmp .eq 28, 3) := by decide +kernel
theorem dX8_report_81 : decode cX8_report 81 = .ok (.iload_n 3, 1) := by decide +kernel
theorem dX8_report_82 : decode cX8_report 82 = .ok (.i2l, 1) := by decide +kernel
theorem dX8_report_83 : decode cX8_report 83 = .ok (.iload_n 2, 1) := by decide +kernel
theorem dX8_report_84 : decode cX8_report 84 = .ok (.i2l, 1) := by decide +kernel
theorem dX8_report_85 : decode cX8_report 85 = .ok (.iload_n 2, 1) := by decide +kernel
theorem dX8_report_86 : decode cX8_report 86 = .ok (.aload_n 0, 1) := by decide +kernel
theorem dX8_report_87 : decode cX8_report 87 = .ok (.getfield 20, 3) := by decide +kernel
theorem dX8_report_90 : decode cX8_report 90 = .ok (.iconst 2, 1) := by decide +kernel
theorem dX8_report_91 : decode cX8_report 91 = .ok (.iaload, 1) := by decide +kernel
theorem dX8_report_92 : decode cX8_report 92 = .ok (.iadd, 1) := by decide +kernel
theorem dX8_report_93 : decode cX8_report 93 = .ok (.iconst 1, 1) := by decide +kernel
theorem dX8_report_94 : decode cX8_report 94 = .ok (.isub, 1) := by decide +kernel
theorem dX8_report_95 : decode cX8_report 95 = .ok (.i2l, 1) := by decide +kernel
theorem dX8_report_96 : decode cX8_report 96 = .ok (.invokestatic 99, 3) := by decide +kernel
theorem dX8_report_99 : decode cX8_report 99 = .ok (.ifCond .eq 7, 3) := by decide +kernel
theorem dX8_report_102 : decode cX8_report 102 = .ok (.iconst 1, 1) := by decide +kernel
theorem dX8_report_103 : decode cX8_report 103 = .ok (.goto 4, 3) := by decide +kernel
theorem dX8_report_106 : decode cX8_report 106 = .ok (.iconst 0, 1) := by decide +kernel
theorem dX8_report_107 : decode cX8_report 107 = .ok (.istore 4, 2) := by decide +kernel
theorem dX8_report_109 : decode cX8_report 109 = .ok (.aload_n 0, 1) := by decide +kernel
theorem dX8_report_110 : decode cX8_report 110 = .ok (.aload_n 0, 1) := by decide +kernel
theorem dX8_report_111 : decode cX8_report 111 = .ok (.iload_n 1, 1) := by decide +kernel
theorem dX8_report_112 : decode cX8_report 112 = .ok (.iconst 3, 1) := by decide +kernel
theorem dX8_report_113 : decode cX8_report 113 = .ok (.invokevirtual 166, 3) := by decide +kernel
theorem dX8_report_116 : decode cX8_report 116 = .ok (.iload_n 3, 1) := by decide +kernel
theorem dX8_report_117 : decode cX8_report 117 = .ok (.invokestatic 186, 3) := by decide +kernel
theorem dX8_report_120 : decode cX8_report 120 = .ok (.ifCond .eq 8, 3) := by decide +kernel
theorem dX8_report_123 : decode cX8_report 123 = .ok (.bipush 42, 2) := by decide +kernel
theorem dX8_report_125 : decode cX8_report 125 = .ok (.goto 22, 3) := by decide +kernel
theorem dX8_report_128 : decode cX8_report 128 = .ok (.iload 4, 2) := by decide +kernel
theorem dX8_report_130 : decode cX8_report 130 = .ok (.ifCond .eq 8, 3) := by decide +kernel
theorem dX8_report_133 : decode cX8_report 133 = .ok (.bipush 65, 2) := by decide +kernel
theorem dX8_report_135 : decode cX8_report 135 = .ok (.goto 5, 3) := by decide +kernel
theorem dX8_report_138 : decode cX8_report 138 = .ok (.bipush 97, 2) := by decide +kernel
theorem dX8_report_140 : decode cX8_report 140 = .ok (.aload_n 0, 1) := by decide +kernel
theorem dX8_report_141 : decode cX8_report 141 = .ok (.iload_n 1, 1) := by decide +kernel
theorem dX8_report_142 : decode cX8_report 142 = .ok (.iload_n 3, 1) := by decide +kernel
theorem dX8_report_143 : decode cX8_report 143 = .ok (.invokevirtual 232, 3) := by decide +kernel
theorem dX8_report_146 : decode cX8_report 146 = .ok (.iadd, 1) := by decide +kernel
theorem dX8_report_147 : decode cX8_report 147 = .ok (.invokevirtual 454, 3) := by decide +kernel
theorem dX8_report_150 : decode cX8_report 150 = .ok (.iinc 3 1, 3) := by decide +kernel
theorem dX8_report_153 : decode cX8_report 153 = .ok (.goto (-87), 3) := by decide +kernel
theorem dX8_report_156 : decode cX8_report 156 = .ok (.aload_n 0, 1) := by decide +kernel
theorem dX8_report_157 : decode cX8_report 157 = .ok (.bipush 10, 2) := by decide +kernel
theorem dX8_report_159 : decode cX8_report 159 = .ok (.invokevirtual 454, 3) := by decide +kernel
theorem dX8_report_162 : decode cX8_report 162 = .ok (.iinc 1 1, 3) := by decide +kernel
theorem dX8_report_165 : decode cX8_report 165 = .ok (.goto (-148), 3) := by decide +kernel
theorem dX8_report_168 : decode cX8_report 168 = .ok (.aload_n 0, 1) := by decide +kernel
theorem dX8_report_169 : decode cX8_report 169 = .ok (.getfield 449, 3) := by decide +kernel
theorem dX8_report_172 : decode cX8_report 172 = .ok (.ireturn, 1) := by decide +kernel
theorem dX8_reportByte_0 : decode cX8_reportByte 0 = .ok (.aload_n 0, 1) := by decide +kernel
theorem dX8_reportByte_1 : decode cX8_reportByte 1 = .ok (.aload_n 0, 1) := by decide +kernel
theorem dX8_reportByte_2 : decode cX8_reportByte 2 = .ok (.getfield 457, 3) := by decide +kernel
theorem dX8_reportByte_5 : decode cX8_reportByte 5 = .ok (.ifCond .eq 23, 3) := by decide +kernel
theorem dX8_reportByte_8 : decode cX8_reportByte 8 = .ok (.iload_n 1, 1) := by decide +kernel
theorem dX8_reportByte_9 : decode cX8_reportByte 9 = .ok (.i2l, 1) := by decide +kernel
theorem dX8_reportByte_10 : decode cX8_reportByte 10 = .ok (.lconst 0, 1) := by decide +kernel
theorem dX8_reportByte_11 : decode cX8_reportByte 11 = .ok (.aload_n 0, 1) := by decide +kernel
theorem dX8_reportByte_12 : decode cX8_reportByte 12 = .ok (.getfield 449, 3) := by decide +kernel
theorem dX8_reportByte_15 : decode cX8_reportByte 15 = .ok (.iconst 1, 1) := by decide +kernel
theorem dX8_reportByte_16 : decode cX8_reportByte 16 = .ok (.isub, 1) := by decide +kernel
theorem dX8_reportByte_17 : decode cX8_reportByte 17 = .ok (.i2l, 1) := by decide +kernel
theorem dX8_reportByte_18 : decode cX8_reportByte 18 = .ok (.invokestatic 99, 3) := by decide +kernel
theorem dX8_reportByte_21 : decode cX8_reportByte 21 = .ok (.ifCond .eq 7, 3) := by decide +kernel
theorem dX8_reportByte_24 : decode cX8_reportByte 24 = .ok (.iconst 1, 1) := by decide +kernel
theorem dX8_reportByte_25 : decode cX8_reportByte 25 = .ok (.goto 4, 3) := by decide +kernel
theorem dX8_reportByte_28 : decode cX8_reportByte 28 = .ok (.iconst 0, 1) := by decide +kernel
theorem dX8_reportByte_29 : decode cX8_reportByte 29 = .ok (.invokevirtual 91, 3) := by decide +kernel
theorem dX8_reportByte_32 : decode cX8_reportByte 32 = .ok (.ifCond .eq 12, 3) := by decide +kernel
theorem dX8_reportByte_35 : decode cX8_reportByte 35 = .ok (.aload_n 0, 1) := by decide +kernel
theorem dX8_reportByte_36 : decode cX8_reportByte 36 = .ok (.getfield 75, 3) := by decide +kernel
theorem dX8_reportByte_39 : decode cX8_reportByte 39 = .ok (.iload_n 1, 1) := by decide +kernel
theorem dX8_reportByte_40 : decode cX8_reportByte 40 = .ok (.iaload, 1) := by decide +kernel
theorem dX8_reportByte_41 : decode cX8_reportByte 41 = .ok (.goto 4, 3) := by decide +kernel
theorem dX8_reportByte_44 : decode cX8_reportByte 44 = .ok (.iconst 0, 1) := by decide +kernel
theorem dX8_reportByte_45 : decode cX8_reportByte 45 = .ok (.ireturn, 1) := by decide +kernel
