theorem dX7_init_0 : decode cX7_init 0 = .ok (.aload_n 0, 1) := by decide +kernel
theorem dX7_init_1 : decode cX7_init 1 = .ok (.invokespecial 3, 3) := by decide +kernel
theorem dX7_init_4 : decode cX7_init 4 = .ok (.aload_n 0, 1) := by decide +kernel
theorem dX7_init_5 : decode cX7_init 5 = .ok (.new 9, 3) := by decide +kernel
theorem dX7_init_8 : decode cX7_init 8 = .ok (.dup, 1) := by decide +kernel
theorem dX7_init_9 : decode cX7_init 9 = .ok (.invokespecial 11, 3) := by decide +kernel
theorem dX7_init_12 : decode cX7_init 12 = .ok (.putfield 12, 3) := by decide +kernel
theorem dX7_init_15 : decode cX7_init 15 = .ok (.aload_n 0, 1) := by decide +kernel
theorem dX7_init_16 : decode cX7_init 16 = .ok (.new 16, 3) := by decide +kernel
theorem dX7_init_19 : decode cX7_init 19 = .ok (.dup, 1) := by decide +kernel
theorem dX7_init_20 : decode cX7_init 20 = .ok (.invokespecial 18, 3) := by decide +kernel
theorem dX7_init_23 : decode cX7_init 23 = .ok (.putfield 19, 3) := by decide +kernel
theorem dX7_init_26 : decode cX7_init 26 = .ok (.aload_n 0, 1) := by decide +kernel
theorem dX7_init_27 : decode cX7_init 27 = .ok (.new 23, 3) := by decide +kernel
theorem dX7_init_30 : decode cX7_init 30 = .ok (.dup, 1) := by decide +kernel
theorem dX7_init_31 : decode cX7_init 31 = .ok (.invokespecial 25, 3) := by decide +kernel
theorem dX7_init_34 : decode cX7_init 34 = .ok (.putfield 26, 3) := by decide +kernel
theorem dX7_init_37 : decode cX7_init 37 = .ok (.aload_n 0, 1) := by decide +kernel
theorem dX7_init_38 : decode cX7_init 38 = .ok (.new 30, 3) := by decide +kernel
theorem dX7_init_41 : decode cX7_init 41 = .ok (.dup, 1) := by decide +kernel
theorem dX7_init_42 : decode cX7_init 42 = .ok (.invokespecial 32, 3) := by decide +kernel
theorem dX7_init_45 : decode cX7_init 45 = .ok (.putfield 33, 3) := by decide +kernel
theorem dX7_init_48 : decode cX7_init 48 = .ok (.aload_n 0, 1) := by decide +kernel
theorem dX7_init_49 : decode cX7_init 49 = .ok (.new 30, 3) := by decide +kernel
theorem dX7_init_52 : decode cX7_init 52 = .ok (.dup, 1) := by decide +kernel
theorem dX7_init_53 : decode cX7_init 53 = .ok (.invokespecial 32, 3) := by decide +kernel
theorem dX7_init_56 : decode cX7_init 56 = .ok (.putfield 37, 3) := by decide +kernel
theorem dX7_init_59 : decode cX7_init 59 = .ok (.aload_n 0, 1) := by decide +kernel
theorem dX7_init_60 : decode cX7_init 60 = .ok (.new 30, 3) := by decide +kernel
theorem dX7_init_63 : decode cX7_init 63 = .ok (.dup, 1) := by decide +kernel
theorem dX7_init_64 : decode cX7_init 64 = .ok (.invokespecial 32, 3) := by decide +kernel
theorem dX7_init_67 : decode cX7_init 67 = .ok (.putfield 40, 3) := by decide +kernel
theorem dX7_init_70 : decode cX7_init 70 = .ok (.aload_n 0, 1) := by decide +kernel
theorem dX7_init_71 : decode cX7_init 71 = .ok (.bipush 6, 2) := by decide +kernel
theorem dX7_init_73 : decode cX7_init 73 = .ok (.anewarray 30, 3) := by decide +kernel
theorem dX7_init_76 : decode cX7_init 76 = .ok (.putfield 43, 3) := by decide +kernel
theorem dX7_init_79 : decode cX7_init 79 = .ok (.aload_n 0, 1) := by decide +kernel
theorem dX7_init_80 : decode cX7_init 80 = .ok (.new 47, 3) := by decide +kernel
theorem dX7_init_83 : decode cX7_init 83 = .ok (.dup, 1) := by decide +kernel
theorem dX7_init_84 : decode cX7_init 84 = .ok (.invokespecial 49, 3) := by decide +kernel
theorem dX7_init_87 : decode cX7_init 87 = .ok (.putfield 50, 3) := by decide +kernel
theorem dX7_init_90 : decode cX7_init 90 = .ok (.aload_n 0, 1) := by decide +kernel
theorem dX7_init_91 : decode cX7_init 91 = .ok (.new 47, 3) := by decide +kernel
theorem dX7_init_94 : decode cX7_init 94 = .ok (.dup, 1) := by decide +kernel
theorem dX7_init_95 : decode cX7_init 95 = .ok (.invokespecial 49, 3) := by decide +kernel
theorem dX7_init_98 : decode cX7_init 98 = .ok (.putfield 54, 3) := by decide +kernel
theorem dX7_init_101 : decode cX7_init 101 = .ok (.aload_n 0, 1) := by decide +kernel
theorem dX7_init_102 : decode cX7_init 102 = .ok (.new 57, 3) := by decide +kernel
theorem dX7_init_105 : decode cX7_init 105 = .ok (.dup, 1) := by decide +kernel
theorem dX7_init_106 : decode cX7_init 106 = .ok (.invokespecial 59, 3) := by decide +kernel
theorem dX7_init_109 : decode cX7_init 109 = .ok (.putfield 60, 3) := by decide +kernel
theorem dX7_init_112 : decode cX7_init 112 = .ok (.aload_n 0, 1) := by decide +kernel
theorem dX7_init_113 : decode cX7_init 113 = .ok (.new 64, 3) := by decide +kernel
theorem dX7_init_116 : decode cX7_init 116 = .ok (.dup, 1) := by decide +kernel
theorem dX7_init_117 : decode cX7_init 117 = .ok (.invokespecial 66, 3) := by decide +kernel
theorem dX7_init_120 : decode cX7_init 120 = .ok (.putfield 67, 3) := by decide +kernel
theorem dX7_init_123 : decode cX7_init 123 = .ok (.aload_n 0, 1) := by decide +kernel
theorem dX7_init_124 : decode cX7_init 124 = .ok (.sipush 410, 3) := by decide +kernel
theorem dX7_init_127 : decode cX7_init 127 = .ok (.newarray .byte, 2) := by decide +kernel
theorem dX7_init_129 : decode cX7_init 129 = .ok (.putfield 71, 3) := by decide +kernel
theorem dX7_init_132 : decode cX7_init 132 = .ok (.iconst 0, 1) := by decide +kernel
theorem dX7_init_133 : decode cX7_init 133 = .ok (.istore_n 1, 1) := by decide +kernel
theorem dX7_init_134 : decode cX7_init 134 = .ok (.iload_n 1, 1) := by decide +kernel
theorem dX7_init_135 : decode cX7_init 135 = .ok (.aload_n 0, 1) := by decide +kernel
theorem dX7_init_136 : decode cX7_init 136 = .ok (.getfield 43, 3) := by decide +kernel
theorem dX7_init_139 : decode cX7_init 139 = .ok (.arraylength, 1) := by decide +kernel
theorem dX7_init_140 : decode cX7_init 140 = .ok (.if_icmp .ge 22, 3) := by decide +kernel
theorem dX7_init_143 : decode cX7_init 143 = .ok (.aload_n 0, 1) := by decide +kernel
theorem dX7_init_144 : decode cX7_init 144 = .ok (.getfield 43, 3) := by decide +kernel
theorem dX7_init_147 : decode cX7_init 147 = .ok (.iload_n 1, 1) := by decide +kernel
theorem dX7_init_148 : decode cX7_init 148 = .ok (.new 30, 3) := by decide +kernel
theorem dX7_init_151 : decode cX7_init 151 = .ok (.dup, 1) := by decide +kernel
theorem dX7_init_152 : decode cX7_init 152 = .ok (.invokespecial 32, 3) := by decide +kernel
theorem dX7_init_155 : decode cX7_init 155 = .ok (.aastore, 1) := by decide +kernel
theorem dX7_init_156 : decode cX7_init 156 = .ok (.iinc 1 1, 3) := by decide +kernel
theorem dX7_init_159 : decode cX7_init 159 = .ok (.goto (-25), 3) := by decide +kernel
theorem dX7_init_162 : decode cX7_init 162 = .ok (.return_, 1) := by decide +kernel
theorem dX7_feed_0 : decode cX7_feed 0 = .ok (.aload_n 0, 1) := by decide +kernel
theorem dX7_feed_1 : decode cX7_feed 1 = .ok (.getfield 12, 3) := by decide +kernel
theorem dX7_feed_4 : decode cX7_feed 4 = .ok (.getfield 75, 3) := by decide +kernel
theorem dX7_feed_7 : decode cX7_feed 7 = .ok (.sipush 580, 3) := by decide +kernel
theorem dX7_feed_10 : decode cX7_feed 10 = .ok (.if_icmp .le 13, 3) := by decide +kernel
theorem dX7_feed_13 : decode cX7_feed 13 = .ok (.new 79, 3) := by decide +kernel
theorem dX7_feed_16 : decode cX7_feed 16 = .ok (.dup, 1) := by decide +kernel
theorem dX7_feed_17 : decode cX7_feed 17 = .ok (.ldc 81, 2) := by decide +kernel
theorem dX7_feed_19 : decode cX7_feed 19 = .ok (.invokespecial 83, 3) := by decide +kernel
theorem dX7_feed_22 : decode cX7_feed 22 = .ok (.athrow, 1) := by decide +kernel
theorem dX7_feed_23 : decode cX7_feed 23 = .ok (.aload_n 0, 1) := by decide +kernel
theorem dX7_feed_24 : decode cX7_feed 24 = .ok (.getfield 12, 3) := by decide +kernel
theorem dX7_feed_27 : decode cX7_feed 27 = .ok (.iload_n 1, 1) := by decide +kernel
theorem dX7_feed_28 : decode cX7_feed 28 = .ok (.invokevirtual 86, 3) := by decide +kernel
theorem dX7_feed_31 : decode cX7_feed 31 = .ok (.aload_n 0, 1) := by decide +kernel
theorem dX7_feed_32 : decode cX7_feed 32 = .ok (.getfield 12, 3) := by decide +kernel
theorem dX7_feed_35 : decode cX7_feed 35 = .ok (.iload_n 2, 1) := by decide +kernel
theorem dX7_feed_36 : decode cX7_feed 36 = .ok (.invokevirtual 86, 3) := by decide +kernel
theorem dX7_feed_39 : decode cX7_feed 39 = .ok (.aload_n 0, 1) := by decide +kernel
theorem dX7_feed_40 : decode cX7_feed 40 = .ok (.getfield 12, 3) := by decide +kernel
theorem dX7_feed_43 : decode cX7_feed 43 = .ok (.iload_n 3, 1) := by decide +kernel
theorem dX7_feed_44 : decode cX7_feed 44 = .ok (.invokevirtual 86, 3) := by decide +kernel
theorem dX7_feed_47 : decode cX7_feed 47 = .ok (.aload_n 0, 1) := by decide +kernel
theorem dX7_feed_48 : decode cX7_feed 48 = .ok (.getfield 12, 3) := by decide +kernel
theorem dX7_feed_51 : decode cX7_feed 51 = .ok (.iload 4, 2) := by decide +kernel
theorem dX7_feed_53 : decode cX7_feed 53 = .ok (.invokevirtual 86, 3) := by decide +kernel
theorem dX7_feed_56 : decode cX7_feed 56 = .ok (.aload_n 0, 1) := by decide +kernel
theorem dX7_feed_57 : decode cX7_feed 57 = .ok (.getfield 12, 3) := by decide +kernel
theorem dX7_feed_60 : decode cX7_feed 60 = .ok (.iload 5, 2) := by decide +kernel
theorem dX7_feed_62 : decode cX7_feed 62 = .ok (.invokevirtual 86, 3) := by decide +kernel
theorem dX7_feed_65 : decode cX7_feed 65 = .ok (.aload_n 0, 1) := by decide +kernel
theorem dX7_feed_66 : decode cX7_feed 66 = .ok (.getfield 12, 3) := by decide +kernel
theorem dX7_feed_69 : decode cX7_feed 69 = .ok (.getfield 75, 3) := by decide +kernel
theorem dX7_feed_72 : decode cX7_feed 72 = .ok (.ireturn, 1) := by decide +kernel
theorem dX7_truncate_0 : decode cX7_truncate 0 = .ok (.iload_n 1, 1) := by decide +kernel
theorem dX7_truncate_1 : decode cX7_truncate 1 = .ok (.ifCond .lt 14, 3) := by decide +kernel
theorem dX7_truncate_4 : decode cX7_truncate 4 = .ok (.iload_n 1, 1) := by decide +kernel
theorem dX7_truncate_5 : decode cX7_truncate 5 = .ok (.aload_n 0, 1) := by decide +kernel
theorem dX7_truncate_6 : decode cX7_truncate 6 = .ok (.getfield 12, 3) := by decide +kernel
theorem dX7_truncate_9 : decode cX7_truncate 9 = .ok (.getfield 75, 3) := by decide +kernel
theorem dX7_truncate_12 : decode cX7_truncate 12 = .ok (.if_icmp .le 13, 3) := by decide +kernel
theorem dX7_truncate_15 : decode cX7_truncate 15 = .ok (.new 90, 3) := by decide +kernel
theorem dX7_truncate_18 : decode cX7_truncate 18 = .ok (.dup, 1) := by decide +kernel
theorem dX7_truncate_19 : decode cX7_truncate 19 = .ok (.ldc 92, 2) := by decide +kernel
theorem dX7_truncate_21 : decode cX7_truncate 21 = .ok (.invokespecial 94, 3) := by decide +kernel
theorem dX7_truncate_24 : decode cX7_truncate 24 = .ok (.athrow, 1) := by decide +kernel
theorem dX7_truncate_25 : decode cX7_truncate 25 = .ok (.aload_n 0, 1) := by decide +kernel
theorem dX7_truncate_26 : decode cX7_truncate 26 = .ok (.getfield 12, 3) := by decide +kernel
theorem dX7_truncate_29 : decode cX7_truncate 29 = .ok (.iload_n 1, 1) := by decide +kernel
theorem dX7_truncate_30 : decode cX7_truncate 30 = .ok (.putfield 75, 3) := by decide +kernel
theorem dX7_truncate_33 : decode cX7_truncate 33 = .ok (.iload_n 1, 1) := by decide +kernel
theorem dX7_truncate_34 : decode cX7_truncate 34 = .ok (.ireturn, 1) := by decide +kernel
theorem dX7_readText_0 : decode cX7_readText 0 = .ok (.aload_n 0, 1) := by decide +kernel
theorem dX7_readText_1 : decode cX7_readText 1 = .ok (.getfield 19, 3) := by decide +kernel
theorem dX7_readText_4 : decode cX7_readText 4 = .ok (.aload_n 0, 1) := by decide +kernel
theorem dX7_readText_5 : decode cX7_readText 5 = .ok (.getfield 12, 3) := by decide +kernel
theorem dX7_readText_8 : decode cX7_readText 8 = .ok (.aload_n 0, 1) := by decide +kernel
theorem dX7_readText_9 : decode cX7_readText 9 = .ok (.getfield 40, 3) := by decide +kernel
theorem dX7_readText_12 : decode cX7_readText 12 = .ok (.invokevirtual 95, 3) := by decide +kernel
theorem dX7_readText_15 : decode cX7_readText 15 = .ok (.istore_n 1, 1) := by decide +kernel
theorem dX7_readText_16 : decode cX7_readText 16 = .ok (.aload_n 0, 1) := by decide +kernel
theorem dX7_readText_17 : decode cX7_readText 17 = .ok (.getfield 12, 3) := by decide +kernel
theorem dX7_readText_20 : decode cX7_readText 20 = .ok (.iconst 0, 1) := by decide +kernel
theorem dX7_readText_21 : decode cX7_readText 21 = .ok (.putfield 75, 3) := by decide +kernel
theorem dX7_readText_24 : decode cX7_readText 24 = .ok (.iload_n 1, 1) := by decide +kernel
theorem dX7_readText_25 : decode cX7_readText 25 = .ok (.ifCond .ne 13, 3) := by decide +kernel
theorem dX7_readText_28 : decode cX7_readText 28 = .ok (.new 90, 3) := by decide +kernel
theorem dX7_readText_31 : decode cX7_readText 31 = .ok (.dup, 1) := by decide +kernel
theorem dX7_readText_32 : decode cX7_readText 32 = .ok (.ldc 99, 2) := by decide +kernel
theorem dX7_readText_34 : decode cX7_readText 34 = .ok (.invokespecial 94, 3) := by decide +kernel
theorem dX7_readText_37 : decode cX7_readText 37 = .ok (.athrow, 1) := by decide +kernel
theorem dX7_readText_38 : decode cX7_readText 38 = .ok (.aload_n 0, 1) := by decide +kernel
theorem dX7_readText_39 : decode cX7_readText 39 = .ok (.aload_n 0, 1) := by decide +kernel
theorem dX7_readText_40 : decode cX7_readText 40 = .ok (.getfield 40, 3) := by decide +kernel
theorem dX7_readText_43 : decode cX7_readText 43 = .ok (.invokevirtual 101, 3) := by decide +kernel
theorem dX7_readText_46 : decode cX7_readText 46 = .ok (.aload_n 0, 1) := by decide +kernel
theorem dX7_readText_47 : decode cX7_readText 47 = .ok (.iconst 0, 1) := by decide +kernel
theorem dX7_readText_48 : decode cX7_readText 48 = .ok (.putfield 105, 3) := by decide +kernel
theorem dX7_readText_51 : decode cX7_readText 51 = .ok (.aload_n 0, 1) := by decide +kernel
theorem dX7_readText_52 : decode cX7_readText 52 = .ok (.getfield 33, 3) := by decide +kernel
theorem dX7_readText_55 : decode cX7_readText 55 = .ok (.getfield 108, 3) := by decide +kernel
theorem dX7_readText_58 : decode cX7_readText 58 = .ok (.ireturn, 1) := by decide +kernel
theorem dX7_runScript_0 : decode cX7_runScript 0 = .ok (.aload_n 0, 1) := by decide +kernel
theorem dX7_runScript_1 : decode cX7_runScript 1 = .ok (.getfield 26, 3) := by decide +kernel
theorem dX7_runScript_4 : decode cX7_runScript 4 = .ok (.aload_n 0, 1) := by decide +kernel
theorem dX7_runScript_5 : decode cX7_runScript 5 = .ok (.getfield 12, 3) := by decide +kernel
theorem dX7_runScript_8 : decode cX7_runScript 8 = .ok (.aload_n 0, 1) := by decide +kernel
theorem dX7_runScript_9 : decode cX7_runScript 9 = .ok (.getfield 33, 3) := by decide +kernel
theorem dX7_runScript_12 : decode cX7_runScript 12 = .ok (.invokevirtual 111, 3) := by decide +kernel
theorem dX7_runScript_15 : decode cX7_runScript 15 = .ok (.istore_n 1, 1) := by decide +kernel
theorem dX7_runScript_16 : decode cX7_runScript 16 = .ok (.aload_n 0, 1) := by decide +kernel
theorem dX7_runScript_17 : decode cX7_runScript 17 = .ok (.getfield 12, 3) := by decide +kernel
theorem dX7_runScript_20 : decode cX7_runScript 20 = .ok (.iconst 0, 1) := by decide +kernel
theorem dX7_runScript_21 : decode cX7_runScript 21 = .ok (.putfield 75, 3) := by decide +kernel
theorem dX7_runScript_24 : decode cX7_runScript 24 = .ok (.iload_n 1, 1) := by decide +kernel
theorem dX7_runScript_25 : decode cX7_runScript 25 = .ok (.ifCond .ne 13, 3) := by decide +kernel
theorem dX7_runScript_28 : decode cX7_runScript 28 = .ok (.new 90, 3) := by decide +kernel
theorem dX7_runScript_31 : decode cX7_runScript 31 = .ok (.dup, 1) := by decide +kernel
theorem dX7_runScript_32 : decode cX7_runScript 32 = .ok (.ldc 112, 2) := by decide +kernel
theorem dX7_runScript_34 : decode cX7_runScript 34 = .ok (.invokespecial 94, 3) := by decide +kernel
theorem dX7_runScript_37 : decode cX7_runScript 37 = .ok (.athrow, 1) := by decide +kernel
theorem dX7_runScript_38 : decode cX7_runScript 38 = .ok (.aload_n 0, 1) := by decide +kernel
theorem dX7_runScript_39 : decode cX7_runScript 39 = .ok (.invokevirtual 114, 3) := by decide +kernel
theorem dX7_runScript_42 : decode cX7_runScript 42 = .ok (.aload_n 0, 1) := by decide +kernel
theorem dX7_runScript_43 : decode cX7_runScript 43 = .ok (.iconst 0, 1) := by decide +kernel
theorem dX7_runScript_44 : decode cX7_runScript 44 = .ok (.putfield 117, 3) := by decide +kernel
theorem dX7_runScript_47 : decode cX7_runScript 47 = .ok (.aload_n 0, 1) := by decide +kernel
theorem dX7_runScript_48 : decode cX7_runScript 48 = .ok (.iconst 0, 1) := by decide +kernel
theorem dX7_runScript_49 : decode cX7_runScript 49 = .ok (.aload_n 0, 1) := by decide +kernel
theorem dX7_runScript_50 : decode cX7_runScript 50 = .ok (.getfield 26, 3) := by decide +kernel
theorem dX7_runScript_53 : decode cX7_runScript 53 = .ok (.getfield 120, 3) := by decide +kernel
theorem dX7_runScript_56 : decode cX7_runScript 56 = .ok (.iconst 0, 1) := by decide +kernel
theorem dX7_runScript_57 : decode cX7_runScript 57 = .ok (.invokevirtual 121, 3) := by decide +kernel
theorem dX7_runScript_60 : decode cX7_runScript 60 = .ok (.pop, 1) := by decide +kernel
theorem dX7_runScript_61 : decode cX7_runScript 61 = .ok (.aload_n 0, 1) := by decide +kernel
theorem dX7_runScript_62 : decode cX7_runScript 62 = .ok (.getfield 117, 3) := by decide +kernel
theorem dX7_runScript_65 : decode cX7_runScript 65 = .ok (.ireturn, 1) := by decide +kernel
theorem dX7_errorCode_0 : decode cX7_errorCode 0 = .ok (.aload_n 0, 1) := by decide +kernel
theorem dX7_errorCode_1 : decode cX7_errorCode 1 = .ok (.getfield 12, 3) := by decide +kernel
theorem dX7_errorCode_4 : decode cX7_errorCode 4 = .ok (.getfield 125, 3) := by decide +kernel
theorem dX7_errorCode_7 : decode cX7_errorCode 7 = .ok (.ireturn, 1) := by decide +kernel
theorem dX7_errorPosition_0 : decode cX7_errorPosition 0 = .ok (.aload_n 0, 1) := by decide +kernel
theorem dX7_errorPosition_1 : decode cX7_errorPosition 1 = .ok (.getfield 12, 3) := by decide +kernel
theorem dX7_errorPosition_4 : decode cX7_errorPosition 4 = .ok (.getfield 128, 3) := by decide +kernel
theorem dX7_errorPosition_7 : decode cX7_errorPosition 7 = .ok (.ireturn, 1) := by decide +kernel
theorem dX7_setting_0 : decode cX7_setting 0 = .ok (.iload_n 1, 1) := by decide +kernel
theorem dX7_setting_1 : decode cX7_setting 1 = .ok (.tableswitch 138 0 9 #[55, 63, 71, 79, 87, 95, 103, 114, 122, 130], 55) := by decide +kernel
theorem dX7_setting_56 : decode cX7_setting 56 = .ok (.aload_n 0, 1) := by decide +kernel
theorem dX7_setting_57 : decode cX7_setting 57 = .ok (.getfield 33, 3) := by decide +kernel
theorem dX7_setting_60 : decode cX7_setting 60 = .ok (.getfield 108, 3) := by decide +kernel
theorem dX7_setting_63 : decode cX7_setting 63 = .ok (.ireturn, 1) := by decide +kernel
theorem dX7_setting_64 : decode cX7_setting 64 = .ok (.aload_n 0, 1) := by decide +kernel
theorem dX7_setting_65 : decode cX7_setting 65 = .ok (.getfield 33, 3) := by decide +kernel
theorem dX7_setting_68 : decode cX7_setting 68 = .ok (.getfield 131, 3) := by decide +kernel
theorem dX7_setting_71 : decode cX7_setting 71 = .ok (.ireturn, 1) := by decide +kernel
theorem dX7_setting_72 : decode cX7_setting 72 = .ok (.aload_n 0, 1) := by decide +kernel
theorem dX7_setting_73 : decode cX7_setting 73 = .ok (.getfield 33, 3) := by decide +kernel
theorem dX7_setting_76 : decode cX7_setting 76 = .ok (.getfield 134, 3) := by decide +kernel
theorem dX7_setting_79 : decode cX7_setting 79 = .ok (.ireturn, 1) := by decide +kernel
theorem dX7_setting_80 : decode cX7_setting 80 = .ok (.aload_n 0, 1) := by decide +kernel
theorem dX7_setting_81 : decode cX7_setting 81 = .ok (.getfield 33, 3) := by decide +kernel
theorem dX7_setting_84 : decode cX7_setting 84 = .ok (.getfield 137, 3) := by decide +kernel
theorem dX7_setting_87 : decode cX7_setting 87 = .ok (.ireturn, 1) := by decide +kernel
theorem dX7_setting_88 : decode cX7_setting 88 = .ok (.aload_n 0, 1) := by decide +kernel
theorem dX7_setting_89 : decode cX7_setting 89 = .ok (.getfield 33, 3) := by decide +kernel
theorem dX7_setting_92 : decode cX7_setting 92 = .ok (.invokevirtual 140, 3) := by decide +kernel
theorem dX7_setting_95 : decode cX7_setting 95 = .ok (.ireturn, 1) := by decide +kernel
theorem dX7_setting_96 : decode cX7_setting 96 = .ok (.aload_n 0, 1) := by decide +kernel
theorem dX7_setting_97 : decode cX7_setting 97 = .ok (.getfield 33, 3) := by decide +kernel
theorem dX7_setting_100 : decode cX7_setting 100 = .ok (.invokevirtual 144, 3) := by decide +kernel
theorem dX7_setting_103 : decode cX7_setting 103 = .ok (.ireturn, 1) := by decide +kernel
theorem dX7_setting_104 : decode cX7_setting 104 = .ok (.aload_n 0, 1) := by decide +kernel
theorem dX7_setting_105 : decode cX7_setting 105 = .ok (.getfield 33, 3) := by decide +kernel
theorem dX7_setting_108 : decode cX7_setting 108 = .ok (.getfield 147, 3) := by decide +kernel
theorem dX7_setting_111 : decode cX7_setting 111 = .ok (.invokestatic 150, 3) := by decide +kernel
theorem dX7_setting_114 : decode cX7_setting 114 = .ok (.ireturn, 1) := by decide +kernel
theorem dX7_setting_115 : decode cX7_setting 115 = .ok (.aload_n 0, 1) := by decide +kernel
theorem dX7_setting_116 : decode cX7_setting 116 = .ok (.getfield 33, 3) := by decide +kernel
theorem dX7_setting_119 : decode cX7_setting 119 = .ok (.invokevirtual 156, 3) := by decide +kernel
theorem dX7_setting_122 : decode cX7_setting 122 = .ok (.ireturn, 1) := by decide +kernel
theorem dX7_setting_123 : decode cX7_setting 123 = .ok (.aload_n 0, 1) := by decide +kernel
theorem dX7_setting_124 : decode cX7_setting 124 = .ok (.getfield 33, 3) := by decide +kernel
theorem dX7_setting_127 : decode cX7_setting 127 = .ok (.getfield 159, 3) := by decide +kernel
theorem dX7_setting_130 : decode cX7_setting 130 = .ok (.ireturn, 1) := by decide +kernel
theorem dX7_setting_131 : decode cX7_setting 131 = .ok (.aload_n 0, 1) := by decide +kernel
theorem dX7_setting_132 : decode cX7_setting 132 = .ok (.getfield 33, 3) := by decide +kernel
theorem dX7_setting_135 : decode cX7_setting 135 = .ok (.invokevirtual 162, 3) := by decide +kernel
theorem dX7_setting_138 : decode cX7_setting 138 = .ok (.ireturn, 1) := by decide +kernel
theorem dX7_setting_139 : decode cX7_setting 139 = .ok (.new 90, 3) := by decide +kernel
theorem dX7_setting_142 : decode cX7_setting 142 = .ok (.dup, 1) := by decide +kernel
theorem dX7_setting_143 : decode cX7_setting 143 = .ok (.ldc 165, 2) := by decide +kernel
theorem dX7_setting_145 : decode cX7_setting 145 = .ok (.invokespecial 94, 3) := by decide +kernel
theorem dX7_setting_148 : decode cX7_setting 148 = .ok (.athrow, 1) := by decide +kernel
theorem dX7_row_0 : decode cX7_row 0 = .ok (.aload_n 0, 1) := by decide +kernel
theorem dX7_row_1 : decode cX7_row 1 = .ok (.iload_n 1, 1) := by decide +kernel
theorem dX7_row_2 : decode cX7_row 2 = .ok (.invokevirtual 167, 3) := by decide +kernel
theorem dX7_row_5 : decode cX7_row 5 = .ok (.iload_n 2, 1) := by decide +kernel
theorem dX7_row_6 : decode cX7_row 6 = .ok (.tableswitch 90 0 4 #[34, 44, 53, 63, 80], 34) := by decide +kernel
theorem dX7_row_40 : decode cX7_row 40 = .ok (.aload_n 0, 1) := by decide +kernel
theorem dX7_row_41 : decode cX7_row 41 = .ok (.getfield 33, 3) := by decide +kernel
theorem dX7_row_44 : decode cX7_row 44 = .ok (.getfield 170, 3) := by decide +kernel
theorem dX7_row_47 : decode cX7_row 47 = .ok (.iload_n 1, 1) := by decide +kernel
theorem dX7_row_48 : decode cX7_row 48 = .ok (.iaload, 1) := by decide +kernel
theorem dX7_row_49 : decode cX7_row 49 = .ok (.ireturn, 1) := by decide +kernel
theorem dX7_row_50 : decode cX7_row 50 = .ok (.aload_n 0, 1) := by decide +kernel
theorem dX7_row_51 : decode cX7_row 51 = .ok (.getfield 33, 3) := by decide +kernel
theorem dX7_row_54 : decode cX7_row 54 = .ok (.iload_n 1, 1) := by decide +kernel
theorem dX7_row_55 : decode cX7_row 55 = .ok (.invokevirtual 174, 3) := by decide +kernel
theorem dX7_row_58 : decode cX7_row 58 = .ok (.ireturn, 1) := by decide +kernel
theorem dX7_row_59 : decode cX7_row 59 = .ok (.aload_n 0, 1) := by decide +kernel
theorem dX7_row_60 : decode cX7_row 60 = .ok (.getfield 33, 3) := by decide +kernel
theorem dX7_row_63 : decode cX7_row 63 = .ok (.getfield 177, 3) := by decide +kernel
theorem dX7_row_66 : decode cX7_row 66 = .ok (.iload_n 1, 1) := by decide +kernel
theorem dX7_row_67 : decode cX7_row 67 = .ok (.iaload, 1) := by decide +kernel
theorem dX7_row_68 : decode cX7_row 68 = .ok (.ireturn, 1) := by decide +kernel
theorem dX7_row_69 : decode cX7_row 69 = .ok (.aload_n 0, 1) := by decide +kernel
theorem dX7_row_70 : decode cX7_row 70 = .ok (.getfield 33, 3) := by decide +kernel
theorem dX7_row_73 : decode cX7_row 73 = .ok (.iload_n 1, 1) := by decide +kernel
theorem dX7_row_74 : decode cX7_row 74 = .ok (.invokevirtual 180, 3) := by decide +kernel
theorem dX7_row_77 : decode cX7_row 77 = .ok (.ifCond .eq 7, 3) := by decide +kernel
theorem dX7_row_80 : decode cX7_row 80 = .ok (.iconst 1, 1) := by decide +kernel
theorem dX7_row_81 : decode cX7_row 81 = .ok (.goto 4, 3) := by decide +kernel
theorem dX7_row_84 : decode cX7_row 84 = .ok (.iconst 0, 1) := by decide +kernel
theorem dX7_row_85 : decode cX7_row 85 = .ok (.ireturn, 1) := by decide +kernel
theorem dX7_row_86 : decode cX7_row 86 = .ok (.aload_n 0, 1) := by decide +kernel
theorem dX7_row_87 : decode cX7_row 87 = .ok (.getfield 33, 3) := by decide +kernel
theorem dX7_row_90 : decode cX7_row 90 = .ok (.getfield 184, 3) := by decide +kernel
theorem dX7_row_93 : decode cX7_row 93 = .ok (.iload_n 1, 1) := by decide +kernel
theorem dX7_row_94 : decode cX7_row 94 = .ok (.iaload, 1) := by decide +kernel
theorem dX7_row_95 : decode cX7_row 95 = .ok (.ireturn, 1) := by decide +kernel
theorem dX7_row_96 : decode cX7_row 96 = .ok (.new 90, 3) := by decide +kernel
theorem dX7_row_99 : decode cX7_row 99 = .ok (.dup, 1) := by decide +kernel
theorem dX7_row_100 : decode cX7_row 100 = .ok (.ldc 187, 2) := by decide +kernel
theorem dX7_row_102 : decode cX7_row 102 = .ok (.invokespecial 94, 3) := by decide +kernel
theorem dX7_row_105 : decode cX7_row 105 = .ok (.athrow, 1) := by decide +kernel
theorem dX7_letter_0 : decode cX7_letter 0 = .ok (.aload_n 0, 1) := by decide +kernel
theorem dX7_letter_1 : decode cX7_letter 1 = .ok (.iload_n 1, 1) := by decide +kernel
theorem dX7_letter_2 : decode cX7_letter 2 = .ok (.invokevirtual 167, 3) := by decide +kernel
theorem dX7_letter_5 : decode cX7_letter 5 = .ok (.iload_n 2, 1) := by decide +kernel
theorem dX7_letter_6 : decode cX7_letter 6 = .ok (.ifCond .lt 16, 3) := by decide +kernel
theorem dX7_letter_9 : decode cX7_letter 9 = .ok (.iload_n 2, 1) := by decide +kernel
theorem dX7_letter_10 : decode cX7_letter 10 = .ok (.aload_n 0, 1) := by decide +kernel
theorem dX7_letter_11 : decode cX7_letter 11 = .ok (.getfield 33, 3) := by decide +kernel
theorem dX7_letter_14 : decode cX7_letter 14 = .ok (.getfield 170, 3) := by decide +kernel
theorem dX7_letter_17 : decode cX7_letter 17 = .ok (.iload_n 1, 1) := by decide +kernel
theorem dX7_letter_18 : decode cX7_letter 18 = .ok (.iaload, 1) := by decide +kernel
theorem dX7_letter_19 : decode cX7_letter 19 = .ok (.if_icmp .lt 13, 3) := by decide +kernel
theorem dX7_letter_22 : decode cX7_letter 22 = .ok (.new 189, 3) := by decide +kernel
theorem dX7_letter_25 : decode cX7_letter 25 = .ok (.dup, 1) := by decide +kernel
theorem dX7_letter_26 : decode cX7_letter 26 = .ok (.ldc 191, 2) := by decide +kernel
theorem dX7_letter_28 : decode cX7_letter 28 = .ok (.invokespecial 193, 3) := by decide +kernel
theorem dX7_letter_31 : decode cX7_letter 31 = .ok (.athrow, 1) := by decide +kernel
theorem dX7_letter_32 : decode cX7_letter 32 = .ok (.aload_n 0, 1) := by decide +kernel
theorem dX7_letter_33 : decode cX7_letter 33 = .ok (.getfield 33, 3) := by decide +kernel
theorem dX7_letter_36 : decode cX7_letter 36 = .ok (.iload_n 1, 1) := by decide +kernel
theorem dX7_letter_37 : decode cX7_letter 37 = .ok (.iload_n 2, 1) := by decide +kernel
theorem dX7_letter_38 : decode cX7_letter 38 = .ok (.invokevirtual 194, 3) := by decide +kernel
theorem dX7_letter_41 : decode cX7_letter 41 = .ok (.ireturn, 1) := by decide +kernel
theorem dX7_wordAt_0 : decode cX7_wordAt 0 = .ok (.aload_n 0, 1) := by decide +kernel
theorem dX7_wordAt_1 : decode cX7_wordAt 1 = .ok (.iload_n 1, 1) := by decide +kernel
theorem dX7_wordAt_2 : decode cX7_wordAt 2 = .ok (.invokevirtual 167, 3) := by decide +kernel
theorem dX7_wordAt_5 : decode cX7_wordAt 5 = .ok (.aload_n 0, 1) := by decide +kernel
theorem dX7_wordAt_6 : decode cX7_wordAt 6 = .ok (.getfield 33, 3) := by decide +kernel
theorem dX7_wordAt_9 : decode cX7_wordAt 9 = .ok (.iload_n 1, 1) := by decide +kernel
theorem dX7_wordAt_10 : decode cX7_wordAt 10 = .ok (.iload_n 2, 1) := by decide +kernel
theorem dX7_wordAt_11 : decode cX7_wordAt 11 = .ok (.invokevirtual 198, 3) := by decide +kernel
theorem dX7_wordAt_14 : decode cX7_wordAt 14 = .ok (.ifCond .eq 22, 3) := by decide +kernel
theorem dX7_wordAt_17 : decode cX7_wordAt 17 = .ok (.aload_n 0, 1) := by decide +kernel
theorem dX7_wordAt_18 : decode cX7_wordAt 18 = .ok (.getfield 33, 3) := by decide +kernel
theorem dX7_wordAt_21 : decode cX7_wordAt 21 = .ok (.aload_n 0, 1) := by decide +kernel
theorem dX7_wordAt_22 : decode cX7_wordAt 22 = .ok (.getfield 33, 3) := by decide +kernel
theorem dX7_wordAt_25 : decode cX7_wordAt 25 = .ok (.iload_n 1, 1) := by decide +kernel
theorem dX7_wordAt_26 : decode cX7_wordAt 26 = .ok (.iload_n 2, 1) := by decide +kernel
theorem dX7_wordAt_27 : decode cX7_wordAt 27 = .ok (.invokevirtual 202, 3) := by decide +kernel
theorem dX7_wordAt_30 : decode cX7_wordAt 30 = .ok (.invokevirtual 205, 3) := by decide +kernel
theorem dX7_wordAt_33 : decode cX7_wordAt 33 = .ok (.goto 4, 3) := by decide +kernel
theorem dX7_wordAt_36 : decode cX7_wordAt 36 = .ok (.iconst (-1), 1) := by decide +kernel
theorem dX7_wordAt_37 : decode cX7_wordAt 37 = .ok (.ireturn, 1) := by decide +kernel
theorem dX7_differ_0 : decode cX7_differ 0 = .ok (.aload_n 0, 1) := by decide +kernel
theorem dX7_differ_1 : decode cX7_differ 1 = .ok (.iload_n 1, 1) := by decide +kernel
theorem dX7_differ_2 : decode cX7_differ 2 = .ok (.invokevirtual 208, 3) := by decide +kernel
theorem dX7_differ_5 : decode cX7_differ 5 = .ok (.aload_n 0, 1) := by decide +kernel
theorem dX7_differ_6 : decode cX7_differ 6 = .ok (.iload_n 2, 1) := by decide +kernel
theorem dX7_differ_7 : decode cX7_differ 7 = .ok (.invokevirtual 208, 3) := by decide +kernel
theorem dX7_differ_10 : decode cX7_differ 10 = .ok (.aload_n 0, 1) := by decide +kernel
theorem dX7_differ_11 : decode cX7_differ 11 = .ok (.getfield 33, 3) := by decide +kernel
theorem dX7_differ_14 : decode cX7_differ 14 = .ok (.iload_n 1, 1) := by decide +kernel
theorem dX7_differ_15 : decode cX7_differ 15 = .ok (.invokevirtual 211, 3) := by decide +kernel
theorem dX7_differ_18 : decode cX7_differ 18 = .ok (.aload_n 0, 1) := by decide +kernel
theorem dX7_differ_19 : decode cX7_differ 19 = .ok (.getfield 33, 3) := by decide +kernel
theorem dX7_differ_22 : decode cX7_differ 22 = .ok (.iload_n 2, 1) := by decide +kernel
theorem dX7_differ_23 : decode cX7_differ 23 = .ok (.invokevirtual 211, 3) := by decide +kernel
theorem dX7_differ_26 : decode cX7_differ 26 = .ok (.aload_n 0, 1) := by decide +kernel
theorem dX7_differ_27 : decode cX7_differ 27 = .ok (.getfield 33, 3) := by decide +kernel
theorem dX7_differ_30 : decode cX7_differ 30 = .ok (.getfield 134, 3) := by decide +kernel
theorem dX7_differ_33 : decode cX7_differ 33 = .ok (.invokestatic 214, 3) := by decide +kernel
theorem dX7_differ_36 : decode cX7_differ 36 = .ok (.ireturn, 1) := by decide +kernel
theorem dX7_distance_0 : decode cX7_distance 0 = .ok (.aload_n 0, 1) := by decide +kernel
theorem dX7_distance_1 : decode cX7_distance 1 = .ok (.iload_n 1, 1) := by decide +kernel
theorem dX7_distance_2 : decode cX7_distance 2 = .ok (.invokevirtual 167, 3) := by decide +kernel
theorem dX7_distance_5 : decode cX7_distance 5 = .ok (.aload_n 0, 1) := by decide +kernel
theorem dX7_distance_6 : decode cX7_distance 6 = .ok (.iload_n 2, 1) := by decide +kernel
theorem dX7_distance_7 : decode cX7_distance 7 = .ok (.invokevirtual 208, 3) := by decide +kernel
theorem dX7_distance_10 : decode cX7_distance 10 = .ok (.aload_n 0, 1) := by decide +kernel
theorem dX7_distance_11 : decode cX7_distance 11 = .ok (.getfield 33, 3) := by decide +kernel
theorem dX7_distance_14 : decode cX7_distance 14 = .ok (.iload_n 1, 1) := by decide +kernel
theorem dX7_distance_15 : decode cX7_distance 15 = .ok (.invokevirtual 180, 3) := by decide +kernel
theorem dX7_distance_18 : decode cX7_distance 18 = .ok (.ifCond .eq 7, 3) := by decide +kernel
theorem dX7_distance_21 : decode cX7_distance 21 = .ok (.iconst (-1), 1) := by decide +kernel
theorem dX7_distance_22 : decode cX7_distance 22 = .ok (.goto 26, 3) := by decide +kernel
theorem dX7_distance_25 : decode cX7_distance 25 = .ok (.aload_n 0, 1) := by decide +kernel
theorem dX7_distance_26 : decode cX7_distance 26 = .ok (.getfield 33, 3) := by decide +kernel
theorem dX7_distance_29 : decode cX7_distance 29 = .ok (.iload_n 1, 1) := by decide +kernel
theorem dX7_distance_30 : decode cX7_distance 30 = .ok (.aload_n 0, 1) := by decide +kernel
theorem dX7_distance_31 : decode cX7_distance 31 = .ok (.getfield 33, 3) := by decide +kernel
theorem dX7_distance_34 : decode cX7_distance 34 = .ok (.iload_n 2, 1) := by decide +kernel
theorem dX7_distance_35 : decode cX7_distance 35 = .ok (.invokevirtual 211, 3) := by decide +kernel
theorem dX7_distance_38 : decode cX7_distance 38 = .ok (.aload_n 0, 1) := by decide +kernel
theorem dX7_distance_39 : decode cX7_distance 39 = .ok (.getfield 33, 3) := by decide +kernel
theorem dX7_distance_42 : decode cX7_distance 42 = .ok (.getfield 134, 3) := by decide +kernel
theorem dX7_distance_45 : decode cX7_distance 45 = .ok (.invokevirtual 218, 3) := by decide +kernel
theorem dX7_distance_48 : decode cX7_distance 48 = .ok (.ireturn, 1) := by decide +kernel
theorem dX7_score_0 : decode cX7_score 0 = .ok (.aload_n 0, 1) := by decide +kernel
theorem dX7_score_1 : decode cX7_score 1 = .ok (.iload_n 1, 1) := by decide +kernel
theorem dX7_score_2 : decode cX7_score 2 = .ok (.invokevirtual 208, 3) := by decide +kernel
theorem dX7_score_5 : decode cX7_score 5 = .ok (.aload_n 0, 1) := by decide +kernel
theorem dX7_score_6 : decode cX7_score 6 = .ok (.getfield 33, 3) := by decide +kernel
theorem dX7_score_9 : decode cX7_score 9 = .ok (.aload_n 0, 1) := by decide +kernel
theorem dX7_score_10 : decode cX7_score 10 = .ok (.getfield 33, 3) := by decide +kernel
theorem dX7_score_13 : decode cX7_score 13 = .ok (.iload_n 1, 1) := by decide +kernel
theorem dX7_score_14 : decode cX7_score 14 = .ok (.invokevirtual 211, 3) := by decide +kernel
theorem dX7_score_17 : decode cX7_score 17 = .ok (.aload_n 0, 1) := by decide +kernel
theorem dX7_score_18 : decode cX7_score 18 = .ok (.getfield 33, 3) := by decide +kernel
theorem dX7_score_21 : decode cX7_score 21 = .ok (.getfield 134, 3) := by decide +kernel
theorem dX7_score_24 : decode cX7_score 24 = .ok (.invokevirtual 221, 3) := by decide +kernel
theorem dX7_score_27 : decode cX7_score 27 = .ok (.ireturn, 1) := by decide +kernel
theorem dX7_having_0 : decode cX7_having 0 = .ok (.aload_n 0, 1) := by decide +kernel
theorem dX7_having_1 : decode cX7_having 1 = .ok (.iload_n 1, 1) := by decide +kernel
theorem dX7_having_2 : decode cX7_having 2 = .ok (.invokevirtual 208, 3) := by decide +kernel
theorem dX7_having_5 : decode cX7_having 5 = .ok (.aload_n 0, 1) := by decide +kernel
theorem dX7_having_6 : decode cX7_having 6 = .ok (.getfield 33, 3) := by decide +kernel
theorem dX7_having_9 : decode cX7_having 9 = .ok (.aload_n 0, 1) := by decide +kernel
theorem dX7_having_10 : decode cX7_having 10 = .ok (.getfield 33, 3) := by decide +kernel
theorem dX7_having_13 : decode cX7_having 13 = .ok (.iload_n 1, 1) := by decide +kernel
theorem dX7_having_14 : decode cX7_having 14 = .ok (.invokevirtual 211, 3) := by decide +kernel
theorem dX7_having_17 : decode cX7_having 17 = .ok (.invokevirtual 224, 3) := by decide +kernel
theorem dX7_having_20 : decode cX7_having 20 = .ok (.ireturn, 1) := by decide +kernel
theorem dX7_closest_0 : decode cX7_closest 0 = .ok (.aload_n 0, 1) := by decide +kernel
theorem dX7_closest_1 : decode cX7_closest 1 = .ok (.iload_n 1, 1) := by decide +kernel
theorem dX7_closest_2 : decode cX7_closest 2 = .ok (.invokevirtual 167, 3) := by decide +kernel
theorem dX7_closest_5 : decode cX7_closest 5 = .ok (.aload_n 0, 1) := by decide +kernel
theorem dX7_closest_6 : decode cX7_closest 6 = .ok (.iload_n 2, 1) := by decide +kernel
theorem dX7_closest_7 : decode cX7_closest 7 = .ok (.invokevirtual 208, 3) := by decide +kernel
theorem dX7_closest_10 : decode cX7_closest 10 = .ok (.aload_n 0, 1) := by decide +kernel
theorem dX7_closest_11 : decode cX7_closest 11 = .ok (.getfield 33, 3) := by decide +kernel
theorem dX7_closest_14 : decode cX7_closest 14 = .ok (.iload_n 1, 1) := by decide +kernel
theorem dX7_closest_15 : decode cX7_closest 15 = .ok (.aload_n 0, 1) := by decide +kernel
theorem dX7_closest_16 : decode cX7_closest 16 = .ok (.getfield 33, 3) := by decide +kernel
theorem dX7_closest_19 : decode cX7_closest 19 = .ok (.iload_n 2, 1) := by decide +kernel
theorem dX7_closest_20 : decode cX7_closest 20 = .ok (.invokevirtual 211, 3) := by decide +kernel
theorem dX7_closest_23 : decode cX7_closest 23 = .ok (.invokevirtual 227, 3) := by decide +kernel
theorem dX7_closest_26 : decode cX7_closest 26 = .ok (.ireturn, 1) := by decide +kernel
theorem dX7_spread_0 : decode cX7_spread 0 = .ok (.aload_n 0, 1) := by decide +kernel
theorem dX7_spread_1 : decode cX7_spread 1 = .ok (.iload_n 1, 1) := by decide +kernel
theorem dX7_spread_2 : decode cX7_spread 2 = .ok (.invokevirtual 208, 3) := by decide +kernel
theorem dX7_spread_5 : decode cX7_spread 5 = .ok (.aload_n 0, 1) := by decide +kernel
theorem dX7_spread_6 : decode cX7_spread 6 = .ok (.getfield 33, 3) := by decide +kernel
theorem dX7_spread_9 : decode cX7_spread 9 = .ok (.iload_n 1, 1) := by decide +kernel
theorem dX7_spread_10 : decode cX7_spread 10 = .ok (.invokevirtual 211, 3) := by decide +kernel
theorem dX7_spread_13 : decode cX7_spread 13 = .ok (.istore_n 2, 1) := by decide +kernel
theorem dX7_spread_14 : decode cX7_spread 14 = .ok (.iconst (-1), 1) := by decide +kernel
theorem dX7_spread_15 : decode cX7_spread 15 = .ok (.istore_n 3, 1) := by decide +kernel
theorem dX7_spread_16 : decode cX7_spread 16 = .ok (.iconst 0, 1) := by decide +kernel
theorem dX7_spread_17 : decode cX7_spread 17 = .ok (.istore 4, 2) := by decide +kernel
theorem dX7_spread_19 : decode cX7_spread 19 = .ok (.iload 4, 2) := by decide +kernel
theorem dX7_spread_21 : decode cX7_spread 21 = .ok (.aload_n 0, 1) := by decide +kernel
theorem dX7_spread_22 : decode cX7_spread 22 = .ok (.getfield 33, 3) := by decide +kernel
theorem dX7_spread_25 : decode cX7_spread 25 = .ok (.getfield 108, 3) := by decide +kernel
theorem dX7_spread_28 : decode cX7_spread 28 = .ok (.if_icmp .ge 43, 3) := by decide +kernel
theorem dX7_spread_31 : decode cX7_spread 31 = .ok (.aload_n 0, 1) := by decide +kernel
theorem dX7_spread_32 : decode cX7_spread 32 = .ok (.getfield 33, 3) := by decide +kernel
theorem dX7_spread_35 : decode cX7_spread 35 = .ok (.iload 4, 2) := by decide +kernel
theorem dX7_spread_37 : decode cX7_spread 37 = .ok (.invokevirtual 180, 3) := by decide +kernel
theorem dX7_spread_40 : decode cX7_spread 40 = .ok (.ifCond .ne 25, 3) := by decide +kernel
theorem dX7_spread_43 : decode cX7_spread 43 = .ok (.iload_n 3, 1) := by decide +kernel
theorem dX7_spread_44 : decode cX7_spread 44 = .ok (.aload_n 0, 1) := by decide +kernel
theorem dX7_spread_45 : decode cX7_spread 45 = .ok (.getfield 33, 3) := by decide +kernel
theorem dX7_spread_48 : decode cX7_spread 48 = .ok (.iload 4, 2) := by decide +kernel
theorem dX7_spread_50 : decode cX7_spread 50 = .ok (.iload_n 2, 1) := by decide +kernel
theorem dX7_spread_51 : decode cX7_spread 51 = .ok (.aload_n 0, 1) := by decide +kernel
theorem dX7_spread_52 : decode cX7_spread 52 = .ok (.getfield 33, 3) := by decide +kernel
theorem dX7_spread_55 : decode cX7_spread 55 = .ok (.getfield 134, 3) := by decide +kernel
theorem dX7_spread_58 : decode cX7_spread 58 = .ok (.invokevirtual 218, 3) := by decide +kernel
theorem dX7_spread_61 : decode cX7_spread 61 = .ok (.invokestatic 230, 3) := by decide +kernel
theorem dX7_spread_64 : decode cX7_spread 64 = .ok (.istore_n 3, 1) := by decide +kernel
theorem dX7_spread_65 : decode cX7_spread 65 = .ok (.iinc 4 1, 3) := by decide +kernel
theorem dX7_spread_68 : decode cX7_spread 68 = .ok (.goto (-49), 3) := by decide +kernel
theorem dX7_spread_71 : decode cX7_spread 71 = .ok (.iload_n 3, 1) := by decide +kernel
theorem dX7_spread_72 : decode cX7_spread 72 = .ok (.ireturn, 1) := by decide +kernel
theorem dX7_shared_0 : decode cX7_shared 0 = .ok (.aload_n 0, 1) := by decide +kernel
theorem dX7_shared_1 : decode cX7_shared 1 = .ok (.iload_n 1, 1) := by decide +kernel
theorem dX7_shared_2 : decode cX7_shared 2 = .ok (.invokevirtual 167, 3) := by decide +kernel
theorem dX7_shared_5 : decode cX7_shared 5 = .ok (.aload_n 0, 1) := by decide +kernel
theorem dX7_shared_6 : decode cX7_shared 6 = .ok (.iload_n 2, 1) := by decide +kernel
theorem dX7_shared_7 : decode cX7_shared 7 = .ok (.invokevirtual 167, 3) := by decide +kernel
theorem dX7_shared_10 : decode cX7_shared 10 = .ok (.aload_n 0, 1) := by decide +kernel
theorem dX7_shared_11 : decode cX7_shared 11 = .ok (.getfield 67, 3) := by decide +kernel
theorem dX7_shared_14 : decode cX7_shared 14 = .ok (.aload_n 0, 1) := by decide +kernel
theorem dX7_shared_15 : decode cX7_shared 15 = .ok (.getfield 33, 3) := by decide +kernel
theorem dX7_shared_18 : decode cX7_shared 18 = .ok (.iload_n 1, 1) := by decide +kernel
theorem dX7_shared_19 : decode cX7_shared 19 = .ok (.iload_n 2, 1) := by decide +kernel
theorem dX7_shared_20 : decode cX7_shared 20 = .ok (.invokevirtual 235, 3) := by decide +kernel
theorem dX7_shared_23 : decode cX7_shared 23 = .ok (.aload_n 0, 1) := by decide +kernel
theorem dX7_shared_24 : decode cX7_shared 24 = .ok (.getfield 67, 3) := by decide +kernel
theorem dX7_shared_27 : decode cX7_shared 27 = .ok (.invokevirtual 239, 3) := by decide +kernel
theorem dX7_shared_30 : decode cX7_shared 30 = .ok (.ireturn, 1) := by decide +kernel
theorem dX7_sharedAt_0 : decode cX7_sharedAt 0 = .ok (.aload_n 0, 1) := by decide +kernel
theorem dX7_sharedAt_1 : decode cX7_sharedAt 1 = .ok (.iload_n 1, 1) := by decide +kernel
theorem dX7_sharedAt_2 : decode cX7_sharedAt 2 = .ok (.invokevirtual 167, 3) := by decide +kernel
theorem dX7_sharedAt_5 : decode cX7_sharedAt 5 = .ok (.aload_n 0, 1) := by decide +kernel
theorem dX7_sharedAt_6 : decode cX7_sharedAt 6 = .ok (.iload_n 2, 1) := by decide +kernel
theorem dX7_sharedAt_7 : decode cX7_sharedAt 7 = .ok (.invokevirtual 167, 3) := by decide +kernel
theorem dX7_sharedAt_10 : decode cX7_sharedAt 10 = .ok (.aload_n 0, 1) := by decide +kernel
theorem dX7_sharedAt_11 : decode cX7_sharedAt 11 = .ok (.getfield 67, 3) := by decide +kernel
theorem dX7_sharedAt_14 : decode cX7_sharedAt 14 = .ok (.aload_n 0, 1) := by decide +kernel
theorem dX7_sharedAt_15 : decode cX7_sharedAt 15 = .ok (.getfield 33, 3) := by decide +kernel
theorem dX7_sharedAt_18 : decode cX7_sharedAt 18 = .ok (.iload_n 1, 1) := by decide +kernel
theorem dX7_sharedAt_19 : decode cX7_sharedAt 19 = .ok (.iload_n 2, 1) := by decide +kernel
theorem dX7_sharedAt_20 : decode cX7_sharedAt 20 = .ok (.invokevirtual 235, 3) := by decide +kernel
theorem dX7_sharedAt_23 : decode cX7_sharedAt 23 = .ok (.aload_n 0, 1) := by decide +kernel
theorem dX7_sharedAt_24 : decode cX7_sharedAt 24 = .ok (.getfield 67, 3) := by decide +kernel
theorem dX7_sharedAt_27 : decode cX7_sharedAt 27 = .ok (.iload_n 3, 1) := by decide +kernel
theorem dX7_sharedAt_28 : decode cX7_sharedAt 28 = .ok (.invokevirtual 242, 3) := by decide +kernel
theorem dX7_sharedAt_31 : decode cX7_sharedAt 31 = .ok (.ireturn, 1) := by decide +kernel
theorem dX7_hits_0 : decode cX7_hits 0 = .ok (.aload_n 0, 1) := by decide +kernel
theorem dX7_hits_1 : decode cX7_hits 1 = .ok (.iload_n 1, 1) := by decide +kernel
theorem dX7_hits_2 : decode cX7_hits 2 = .ok (.invokevirtual 208, 3) := by decide +kernel
theorem dX7_hits_5 : decode cX7_hits 5 = .ok (.aload_n 0, 1) := by decide +kernel
theorem dX7_hits_6 : decode cX7_hits 6 = .ok (.getfield 33, 3) := by decide +kernel
theorem dX7_hits_9 : decode cX7_hits 9 = .ok (.iload_n 1, 1) := by decide +kernel
theorem dX7_hits_10 : decode cX7_hits 10 = .ok (.invokevirtual 211, 3) := by decide +kernel
theorem dX7_hits_13 : decode cX7_hits 13 = .ok (.istore_n 2, 1) := by decide +kernel
theorem dX7_hits_14 : decode cX7_hits 14 = .ok (.iconst 0, 1) := by decide +kernel
theorem dX7_hits_15 : decode cX7_hits 15 = .ok (.istore_n 3, 1) := by decide +kernel
theorem dX7_hits_16 : decode cX7_hits 16 = .ok (.iconst 0, 1) := by decide +kernel
theorem dX7_hits_17 : decode cX7_hits 17 = .ok (.istore 4, 2) := by decide +kernel
theorem dX7_hits_19 : decode cX7_hits 19 = .ok (.iload 4, 2) := by decide +kernel
theorem dX7_hits_21 : decode cX7_hits 21 = .ok (.aload_n 0, 1) := by decide +kernel
theorem dX7_hits_22 : decode cX7_hits 22 = .ok (.getfield 33, 3) := by decide +kernel
theorem dX7_hits_25 : decode cX7_hits 25 = .ok (.getfield 108, 3) := by decide +kernel
theorem dX7_hits_28 : decode cX7_hits 28 = .ok (.if_icmp .ge 50, 3) := by decide +kernel
theorem dX7_hits_31 : decode cX7_hits 31 = .ok (.iconst 0, 1) := by decide +kernel
theorem dX7_hits_32 : decode cX7_hits 32 = .ok (.istore 5, 2) := by decide +kernel
theorem dX7_hits_34 : decode cX7_hits 34 = .ok (.iload 5, 2) := by decide +kernel
theorem dX7_hits_36 : decode cX7_hits 36 = .ok (.aload_n 0, 1) := by decide +kernel
theorem dX7_hits_37 : decode cX7_hits 37 = .ok (.getfield 33, 3) := by decide +kernel
theorem dX7_hits_40 : decode cX7_hits 40 = .ok (.iload 4, 2) := by decide +kernel
theorem dX7_hits_42 : decode cX7_hits 42 = .ok (.invokevirtual 245, 3) := by decide +kernel
theorem dX7_hits_45 : decode cX7_hits 45 = .ok (.if_icmp .gt 27, 3) := by decide +kernel
theorem dX7_hits_48 : decode cX7_hits 48 = .ok (.aload_n 0, 1) := by decide +kernel
theorem dX7_hits_49 : decode cX7_hits 49 = .ok (.getfield 33, 3) := by decide +kernel
theorem dX7_hits_52 : decode cX7_hits 52 = .ok (.iload 4, 2) := by decide +kernel
theorem dX7_hits_54 : decode cX7_hits 54 = .ok (.iload 5, 2) := by decide +kernel
theorem dX7_hits_56 : decode cX7_hits 56 = .ok (.iload_n 2, 1) := by decide +kernel
theorem dX7_hits_57 : decode cX7_hits 57 = .ok (.invokevirtual 248, 3) := by decide +kernel
theorem dX7_hits_60 : decode cX7_hits 60 = .ok (.ifCond .eq 6, 3) := by decide +kernel
theorem dX7_hits_63 : decode cX7_hits 63 = .ok (.iinc 3 1, 3) := by decide +kernel
theorem dX7_hits_66 : decode cX7_hits 66 = .ok (.iinc 5 1, 3) := by decide +kernel
theorem dX7_hits_69 : decode cX7_hits 69 = .ok (.goto (-35), 3) := by decide +kernel
theorem dX7_hits_72 : decode cX7_hits 72 = .ok (.iinc 4 1, 3) := by decide +kernel
theorem dX7_hits_75 : decode cX7_hits 75 = .ok (.goto (-56), 3) := by decide +kernel
theorem dX7_hits_78 : decode cX7_hits 78 = .ok (.iload_n 3, 1) := by decide +kernel
theorem dX7_hits_79 : decode cX7_hits 79 = .ok (.ireturn, 1) := by decide +kernel
theorem dX7_hit_0 : decode cX7_hit 0 = .ok (.aload_n 0, 1) := by decide +kernel
theorem dX7_hit_1 : decode cX7_hit 1 = .ok (.iload_n 1, 1) := by decide +kernel
theorem dX7_hit_2 : decode cX7_hit 2 = .ok (.invokevirtual 208, 3) := by decide +kernel
theorem dX7_hit_5 : decode cX7_hit 5 = .ok (.aload_n 0, 1) := by decide +kernel
theorem dX7_hit_6 : decode cX7_hit 6 = .ok (.getfield 33, 3) := by decide +kernel
theorem dX7_hit_9 : decode cX7_hit 9 = .ok (.iload_n 1, 1) := by decide +kernel
theorem dX7_hit_10 : decode cX7_hit 10 = .ok (.invokevirtual 211, 3) := by decide +kernel
theorem dX7_hit_13 : decode cX7_hit 13 = .ok (.istore 4, 2) := by decide +kernel
theorem dX7_hit_15 : decode cX7_hit 15 = .ok (.aload_n 0, 1) := by decide +kernel
theorem dX7_hit_16 : decode cX7_hit 16 = .ok (.getfield 33, 3) := by decide +kernel
theorem dX7_hit_19 : decode cX7_hit 19 = .ok (.iload 4, 2) := by decide +kernel
theorem dX7_hit_21 : decode cX7_hit 21 = .ok (.iload_n 2, 1) := by decide +kernel
theorem dX7_hit_22 : decode cX7_hit 22 = .ok (.invokevirtual 251, 3) := by decide +kernel
theorem dX7_hit_25 : decode cX7_hit 25 = .ok (.istore 5, 2) := by decide +kernel
theorem dX7_hit_27 : decode cX7_hit 27 = .ok (.iload 5, 2) := by decide +kernel
theorem dX7_hit_29 : decode cX7_hit 29 = .ok (.iconst (-1), 1) := by decide +kernel
theorem dX7_hit_30 : decode cX7_hit 30 = .ok (.if_icmp .ne 13, 3) := by decide +kernel
theorem dX7_hit_33 : decode cX7_hit 33 = .ok (.new 189, 3) := by decide +kernel
theorem dX7_hit_36 : decode cX7_hit 36 = .ok (.dup, 1) := by decide +kernel
theorem dX7_hit_37 : decode cX7_hit 37 = .ok (.ldc 254, 2) := by decide +kernel
theorem dX7_hit_39 : decode cX7_hit 39 = .ok (.invokespecial 193, 3) := by decide +kernel
theorem dX7_hit_42 : decode cX7_hit 42 = .ok (.athrow, 1) := by decide +kernel
theorem dX7_hit_43 : decode cX7_hit 43 = .ok (.iload 5, 2) := by decide +kernel
theorem dX7_hit_45 : decode cX7_hit 45 = .ok (.bipush 30, 2) := by decide +kernel
theorem dX7_hit_47 : decode cX7_hit 47 = .ok (.idiv, 1) := by decide +kernel
theorem dX7_hit_48 : decode cX7_hit 48 = .ok (.istore 6, 2) := by decide +kernel
theorem dX7_hit_50 : decode cX7_hit 50 = .ok (.iload 5, 2) := by decide +kernel
theorem dX7_hit_52 : decode cX7_hit 52 = .ok (.bipush 30, 2) := by decide +kernel
theorem dX7_hit_54 : decode cX7_hit 54 = .ok (.irem, 1) := by decide +kernel
theorem dX7_hit_55 : decode cX7_hit 55 = .ok (.istore 7, 2) := by decide +kernel
theorem dX7_hit_57 : decode cX7_hit 57 = .ok (.iload_n 3, 1) := by decide +kernel
theorem dX7_hit_58 : decode cX7_hit 58 = .ok (.tableswitch 56 0 2 #[26, 29, 32], 26) := by decide +kernel
theorem dX7_hit_84 : decode cX7_hit 84 = .ok (.iload 6, 2) := by decide +kernel
theorem dX7_hit_86 : decode cX7_hit 86 = .ok (.ireturn, 1) := by decide +kernel
theorem dX7_hit_87 : decode cX7_hit 87 = .ok (.iload 7, 2) := by decide +kernel
theorem dX7_hit_89 : decode cX7_hit 89 = .ok (.ireturn, 1) := by decide +kernel
theorem dX7_hit_90 : decode cX7_hit 90 = .ok (.aload_n 0, 1) := by decide +kernel
theorem dX7_hit_91 : decode cX7_hit 91 = .ok (.getfield 33, 3) := by decide +kernel
theorem dX7_hit_94 : decode cX7_hit 94 = .ok (.iload 6, 2) := by decide +kernel
theorem dX7_hit_96 : decode cX7_hit 96 = .ok (.iload 7, 2) := by decide +kernel
theorem dX7_hit_98 : decode cX7_hit 98 = .ok (.invokevirtual 202, 3) := by decide +kernel
theorem dX7_hit_101 : decode cX7_hit 101 = .ok (.iload 4, 2) := by decide +kernel
theorem dX7_hit_103 : decode cX7_hit 103 = .ok (.aload_n 0, 1) := by decide +kernel
theorem dX7_hit_104 : decode cX7_hit 104 = .ok (.getfield 33, 3) := by decide +kernel
theorem dX7_hit_107 : decode cX7_hit 107 = .ok (.getfield 134, 3) := by decide +kernel
theorem dX7_hit_110 : decode cX7_hit 110 = .ok (.invokestatic 214, 3) := by decide +kernel
theorem dX7_hit_113 : decode cX7_hit 113 = .ok (.ireturn, 1) := by decide +kernel
theorem dX7_hit_114 : decode cX7_hit 114 = .ok (.new 90, 3) := by decide +kernel
theorem dX7_hit_117 : decode cX7_hit 117 = .ok (.dup, 1) := by decide +kernel
theorem dX7_hit_118 : decode cX7_hit 118 = .ok (.ldc_w 256, 3) := by decide +kernel
theorem dX7_hit_121 : decode cX7_hit 121 = .ok (.invokespecial 94, 3) := by decide +kernel
theorem dX7_hit_124 : decode cX7_hit 124 = .ok (.athrow, 1) := by decide +kernel
theorem dX7_kinds_0 : decode cX7_kinds 0 = .ok (.aload_n 0, 1) := by decide +kernel
theorem dX7_kinds_1 : decode cX7_kinds 1 = .ok (.getfield 67, 3) := by decide +kernel
theorem dX7_kinds_4 : decode cX7_kinds 4 = .ok (.aload_n 0, 1) := by decide +kernel
theorem dX7_kinds_5 : decode cX7_kinds 5 = .ok (.getfield 33, 3) := by decide +kernel
theorem dX7_kinds_8 : decode cX7_kinds 8 = .ok (.invokevirtual 258, 3) := by decide +kernel
theorem dX7_kinds_11 : decode cX7_kinds 11 = .ok (.aload_n 0, 1) := by decide +kernel
theorem dX7_kinds_12 : decode cX7_kinds 12 = .ok (.getfield 67, 3) := by decide +kernel
theorem dX7_kinds_15 : decode cX7_kinds 15 = .ok (.invokevirtual 239, 3) := by decide +kernel
theorem dX7_kinds_18 : decode cX7_kinds 18 = .ok (.ireturn, 1) := by decide +kernel
theorem dX7_timesOf_0 : decode cX7_timesOf 0 = .ok (.aload_n 0, 1) := by decide +kernel
theorem dX7_timesOf_1 : decode cX7_timesOf 1 = .ok (.iload_n 1, 1) := by decide +kernel
theorem dX7_timesOf_2 : decode cX7_timesOf 2 = .ok (.invokevirtual 208, 3) := by decide +kernel
theorem dX7_timesOf_5 : decode cX7_timesOf 5 = .ok (.aload_n 0, 1) := by decide +kernel
theorem dX7_timesOf_6 : decode cX7_timesOf 6 = .ok (.getfield 67, 3) := by decide +kernel
theorem dX7_timesOf_9 : decode cX7_timesOf 9 = .ok (.aload_n 0, 1) := by decide +kernel
theorem dX7_timesOf_10 : decode cX7_timesOf 10 = .ok (.getfield 33, 3) := by decide +kernel
theorem dX7_timesOf_13 : decode cX7_timesOf 13 = .ok (.invokevirtual 258, 3) := by decide +kernel
theorem dX7_timesOf_16 : decode cX7_timesOf 16 = .ok (.aload_n 0, 1) := by decide +kernel
theorem dX7_timesOf_17 : decode cX7_timesOf 17 = .ok (.getfield 67, 3) := by decide +kernel
theorem dX7_timesOf_20 : decode cX7_timesOf 20 = .ok (.iload_n 1, 1) := by decide +kernel
theorem dX7_timesOf_21 : decode cX7_timesOf 21 = .ok (.invokevirtual 261, 3) := by decide +kernel
theorem dX7_timesOf_24 : decode cX7_timesOf 24 = .ok (.ireturn, 1) := by decide +kernel
theorem dX7_commonest_0 : decode cX7_commonest 0 = .ok (.aload_n 0, 1) := by decide +kernel
theorem dX7_commonest_1 : decode cX7_commonest 1 = .ok (.getfield 67, 3) := by decide +kernel
theorem dX7_commonest_4 : decode cX7_commonest 4 = .ok (.aload_n 0, 1) := by decide +kernel
theorem dX7_commonest_5 : decode cX7_commonest 5 = .ok (.getfield 33, 3) := by decide +kernel
theorem dX7_commonest_8 : decode cX7_commonest 8 = .ok (.invokevirtual 258, 3) := by decide +kernel
theorem dX7_commonest_11 : decode cX7_commonest 11 = .ok (.aload_n 0, 1) := by decide +kernel
theorem dX7_commonest_12 : decode cX7_commonest 12 = .ok (.getfield 67, 3) := by decide +kernel
theorem dX7_commonest_15 : decode cX7_commonest 15 = .ok (.invokevirtual 264, 3) := by decide +kernel
theorem dX7_commonest_18 : decode cX7_commonest 18 = .ok (.ireturn, 1) := by decide +kernel
theorem dX7_best_0 : decode cX7_best 0 = .ok (.iload_n 1, 1) := by decide +kernel
theorem dX7_best_1 : decode cX7_best 1 = .ok (.tableswitch 63 0 3 #[31, 39, 47, 55], 31) := by decide +kernel
theorem dX7_best_32 : decode cX7_best 32 = .ok (.aload_n 0, 1) := by decide +kernel
theorem dX7_best_33 : decode cX7_best 33 = .ok (.invokevirtual 267, 3) := by decide +kernel
theorem dX7_best_36 : decode cX7_best 36 = .ok (.getfield 271, 3) := by decide +kernel
theorem dX7_best_39 : decode cX7_best 39 = .ok (.ireturn, 1) := by decide +kernel
theorem dX7_best_40 : decode cX7_best 40 = .ok (.aload_n 0, 1) := by decide +kernel
theorem dX7_best_41 : decode cX7_best 41 = .ok (.invokevirtual 267, 3) := by decide +kernel
theorem dX7_best_44 : decode cX7_best 44 = .ok (.getfield 274, 3) := by decide +kernel
theorem dX7_best_47 : decode cX7_best 47 = .ok (.ireturn, 1) := by decide +kernel
theorem dX7_best_48 : decode cX7_best 48 = .ok (.aload_n 0, 1) := by decide +kernel
theorem dX7_best_49 : decode cX7_best 49 = .ok (.invokevirtual 267, 3) := by decide +kernel
theorem dX7_best_52 : decode cX7_best 52 = .ok (.getfield 277, 3) := by decide +kernel
theorem dX7_best_55 : decode cX7_best 55 = .ok (.ireturn, 1) := by decide +kernel
theorem dX7_best_56 : decode cX7_best 56 = .ok (.aload_n 0, 1) := by decide +kernel
theorem dX7_best_57 : decode cX7_best 57 = .ok (.invokevirtual 267, 3) := by decide +kernel
theorem dX7_best_60 : decode cX7_best 60 = .ok (.getfield 280, 3) := by decide +kernel
theorem dX7_best_63 : decode cX7_best 63 = .ok (.ireturn, 1) := by decide +kernel
theorem dX7_best_64 : decode cX7_best 64 = .ok (.new 90, 3) := by decide +kernel
theorem dX7_best_67 : decode cX7_best 67 = .ok (.dup, 1) := by decide +kernel
theorem dX7_best_68 : decode cX7_best 68 = .ok (.ldc_w 283, 3) := by decide +kernel
theorem dX7_best_71 : decode cX7_best 71 = .ok (.invokespecial 94, 3) := by decide +kernel
theorem dX7_best_74 : decode cX7_best 74 = .ok (.athrow, 1) := by decide +kernel
theorem dX7_bound_0 : decode cX7_bound 0 = .ok (.aload_n 0, 1) := by decide +kernel
theorem dX7_bound_1 : decode cX7_bound 1 = .ok (.iload_n 1, 1) := by decide +kernel
theorem dX7_bound_2 : decode cX7_bound 2 = .ok (.invokevirtual 208, 3) := by decide +kernel
theorem dX7_bound_5 : decode cX7_bound 5 = .ok (.iload_n 2, 1) := by decide +kernel
theorem dX7_bound_6 : decode cX7_bound 6 = .ok (.iconst 1, 1) := by decide +kernel
theorem dX7_bound_7 : decode cX7_bound 7 = .ok (.if_icmp .lt 14, 3) := by decide +kernel
theorem dX7_bound_10 : decode cX7_bound 10 = .ok (.iload_n 2, 1) := by decide +kernel
theorem dX7_bound_11 : decode cX7_bound 11 = .ok (.aload_n 0, 1) := by decide +kernel
theorem dX7_bound_12 : decode cX7_bound 12 = .ok (.getfield 33, 3) := by decide +kernel
theorem dX7_bound_15 : decode cX7_bound 15 = .ok (.getfield 134, 3) := by decide +kernel
theorem dX7_bound_18 : decode cX7_bound 18 = .ok (.if_icmp .le 14, 3) := by decide +kernel
theorem dX7_bound_21 : decode cX7_bound 21 = .ok (.new 90, 3) := by decide +kernel
theorem dX7_bound_24 : decode cX7_bound 24 = .ok (.dup, 1) := by decide +kernel
theorem dX7_bound_25 : decode cX7_bound 25 = .ok (.ldc_w 285, 3) := by decide +kernel
theorem dX7_bound_28 : decode cX7_bound 28 = .ok (.invokespecial 94, 3) := by decide +kernel
theorem dX7_bound_31 : decode cX7_bound 31 = .ok (.athrow, 1) := by decide +kernel
theorem dX7_bound_32 : decode cX7_bound 32 = .ok (.aload_n 0, 1) := by decide +kernel
theorem dX7_bound_33 : decode cX7_bound 33 = .ok (.getfield 33, 3) := by decide +kernel
theorem dX7_bound_36 : decode cX7_bound 36 = .ok (.aload_n 0, 1) := by decide +kernel
theorem dX7_bound_37 : decode cX7_bound 37 = .ok (.getfield 33, 3) := by decide +kernel
theorem dX7_bound_40 : decode cX7_bound 40 = .ok (.iload_n 1, 1) := by decide +kernel
theorem dX7_bound_41 : decode cX7_bound 41 = .ok (.invokevirtual 211, 3) := by decide +kernel
theorem dX7_bound_44 : decode cX7_bound 44 = .ok (.iload_n 2, 1) := by decide +kernel
theorem dX7_bound_45 : decode cX7_bound 45 = .ok (.invokevirtual 221, 3) := by decide +kernel
theorem dX7_bound_48 : decode cX7_bound 48 = .ok (.ireturn, 1) := by decide +kernel
theorem dX7_mostHad_0 : decode cX7_mostHad 0 = .ok (.iload_n 1, 1) := by decide +kernel
theorem dX7_mostHad_1 : decode cX7_mostHad 1 = .ok (.ifCond .lt 8, 3) := by decide +kernel
theorem dX7_mostHad_4 : decode cX7_mostHad 4 = .ok (.iload_n 1, 1) := by decide +kernel
theorem dX7_mostHad_5 : decode cX7_mostHad 5 = .ok (.iconst 1, 1) := by decide +kernel
theorem dX7_mostHad_6 : decode cX7_mostHad 6 = .ok (.if_icmp .le 14, 3) := by decide +kernel
theorem dX7_mostHad_9 : decode cX7_mostHad 9 = .ok (.new 90, 3) := by decide +kernel
theorem dX7_mostHad_12 : decode cX7_mostHad 12 = .ok (.dup, 1) := by decide +kernel
theorem dX7_mostHad_13 : decode cX7_mostHad 13 = .ok (.ldc_w 287, 3) := by decide +kernel
theorem dX7_mostHad_16 : decode cX7_mostHad 16 = .ok (.invokespecial 94, 3) := by decide +kernel
theorem dX7_mostHad_19 : decode cX7_mostHad 19 = .ok (.athrow, 1) := by decide +kernel
theorem dX7_mostHad_20 : decode cX7_mostHad 20 = .ok (.aload_n 0, 1) := by decide +kernel
theorem dX7_mostHad_21 : decode cX7_mostHad 21 = .ok (.invokevirtual 267, 3) := by decide +kernel
theorem dX7_mostHad_24 : decode cX7_mostHad 24 = .ok (.invokevirtual 289, 3) := by decide +kernel
theorem dX7_mostHad_27 : decode cX7_mostHad 27 = .ok (.istore_n 2, 1) := by decide +kernel
theorem dX7_mostHad_28 : decode cX7_mostHad 28 = .ok (.iload_n 1, 1) := by decide +kernel
theorem dX7_mostHad_29 : decode cX7_mostHad 29 = .ok (.ifCond .ne 7, 3) := by decide +kernel
theorem dX7_mostHad_32 : decode cX7_mostHad 32 = .ok (.iload_n 2, 1) := by decide +kernel
theorem dX7_mostHad_33 : decode cX7_mostHad 33 = .ok (.goto 21, 3) := by decide +kernel
theorem dX7_mostHad_36 : decode cX7_mostHad 36 = .ok (.aload_n 0, 1) := by decide +kernel
theorem dX7_mostHad_37 : decode cX7_mostHad 37 = .ok (.getfield 33, 3) := by decide +kernel
theorem dX7_mostHad_40 : decode cX7_mostHad 40 = .ok (.aload_n 0, 1) := by decide +kernel
theorem dX7_mostHad_41 : decode cX7_mostHad 41 = .ok (.getfield 33, 3) := by decide +kernel
theorem dX7_mostHad_44 : decode cX7_mostHad 44 = .ok (.iload_n 2, 1) := by decide +kernel
theorem dX7_mostHad_45 : decode cX7_mostHad 45 = .ok (.invokevirtual 211, 3) := by decide +kernel
theorem dX7_mostHad_48 : decode cX7_mostHad 48 = .ok (.invokevirtual 224, 3) := by decide +kernel
theorem dX7_mostHad_51 : decode cX7_mostHad 51 = .ok (.invokestatic 150, 3) := by decide +kernel
theorem dX7_mostHad_54 : decode cX7_mostHad 54 = .ok (.ireturn, 1) := by decide +kernel
theorem dX7_scoreWithout_0 : decode cX7_scoreWithout 0 = .ok (.aload_n 0, 1) := by decide +kernel
theorem dX7_scoreWithout_1 : decode cX7_scoreWithout 1 = .ok (.iload_n 1, 1) := by decide +kernel
theorem dX7_scoreWithout_2 : decode cX7_scoreWithout 2 = .ok (.invokevirtual 167, 3) := by decide +kernel
theorem dX7_scoreWithout_5 : decode cX7_scoreWithout 5 = .ok (.aload_n 0, 1) := by decide +kernel
theorem dX7_scoreWithout_6 : decode cX7_scoreWithout 6 = .ok (.getfield 33, 3) := by decide +kernel
theorem dX7_scoreWithout_9 : decode cX7_scoreWithout 9 = .ok (.iload_n 1, 1) := by decide +kernel
theorem dX7_scoreWithout_10 : decode cX7_scoreWithout 10 = .ok (.invokevirtual 180, 3) := by decide +kernel
theorem dX7_scoreWithout_13 : decode cX7_scoreWithout 13 = .ok (.ifCond .eq 13, 3) := by decide +kernel
theorem dX7_scoreWithout_16 : decode cX7_scoreWithout 16 = .ok (.aload_n 0, 1) := by decide +kernel
theorem dX7_scoreWithout_17 : decode cX7_scoreWithout 17 = .ok (.invokevirtual 267, 3) := by decide +kernel
theorem dX7_scoreWithout_20 : decode cX7_scoreWithout 20 = .ok (.getfield 274, 3) := by decide +kernel
theorem dX7_scoreWithout_23 : decode cX7_scoreWithout 23 = .ok (.goto 15, 3) := by decide +kernel
theorem dX7_scoreWithout_26 : decode cX7_scoreWithout 26 = .ok (.aload_n 0, 1) := by decide +kernel
theorem dX7_scoreWithout_27 : decode cX7_scoreWithout 27 = .ok (.invokevirtual 267, 3) := by decide +kernel
theorem dX7_scoreWithout_30 : decode cX7_scoreWithout 30 = .ok (.aload_n 0, 1) := by decide +kernel
theorem dX7_scoreWithout_31 : decode cX7_scoreWithout 31 = .ok (.getfield 33, 3) := by decide +kernel
theorem dX7_scoreWithout_34 : decode cX7_scoreWithout 34 = .ok (.iload_n 1, 1) := by decide +kernel
theorem dX7_scoreWithout_35 : decode cX7_scoreWithout 35 = .ok (.invokevirtual 292, 3) := by decide +kernel
theorem dX7_scoreWithout_38 : decode cX7_scoreWithout 38 = .ok (.ireturn, 1) := by decide +kernel
theorem dX7_outlier_0 : decode cX7_outlier 0 = .ok (.iconst (-1), 1) := by decide +kernel
theorem dX7_outlier_1 : decode cX7_outlier 1 = .ok (.istore_n 1, 1) := by decide +kernel
theorem dX7_outlier_2 : decode cX7_outlier 2 = .ok (.iconst 0, 1) := by decide +kernel
theorem dX7_outlier_3 : decode cX7_outlier 3 = .ok (.istore_n 2, 1) := by decide +kernel
theorem dX7_outlier_4 : decode cX7_outlier 4 = .ok (.iconst 0, 1) := by decide +kernel
theorem dX7_outlier_5 : decode cX7_outlier 5 = .ok (.istore_n 3, 1) := by decide +kernel
theorem dX7_outlier_6 : decode cX7_outlier 6 = .ok (.iload_n 3, 1) := by decide +kernel
theorem dX7_outlier_7 : decode cX7_outlier 7 = .ok (.aload_n 0, 1) := by decide +kernel
theorem dX7_outlier_8 : decode cX7_outlier 8 = .ok (.getfield 33, 3) := by decide +kernel
theorem dX7_outlier_11 : decode cX7_outlier 11 = .ok (.getfield 108, 3) := by decide +kernel
theorem dX7_outlier_14 : decode cX7_outlier 14 = .ok (.if_icmp .ge 50, 3) := by decide +kernel
theorem dX7_outlier_17 : decode cX7_outlier 17 = .ok (.aload_n 0, 1) := by decide +kernel
theorem dX7_outlier_18 : decode cX7_outlier 18 = .ok (.getfield 33, 3) := by decide +kernel
theorem dX7_outlier_21 : decode cX7_outlier 21 = .ok (.iload_n 3, 1) := by decide +kernel
theorem dX7_outlier_22 : decode cX7_outlier 22 = .ok (.invokevirtual 180, 3) := by decide +kernel
theorem dX7_outlier_25 : decode cX7_outlier 25 = .ok (.ifCond .ne 33, 3) := by decide +kernel
theorem dX7_outlier_28 : decode cX7_outlier 28 = .ok (.aload_n 0, 1) := by decide +kernel
theorem dX7_outlier_29 : decode cX7_outlier 29 = .ok (.invokevirtual 267, 3) := by decide +kernel
theorem dX7_outlier_32 : decode cX7_outlier 32 = .ok (.aload_n 0, 1) := by decide +kernel
theorem dX7_outlier_33 : decode cX7_outlier 33 = .ok (.getfield 33, 3) := by decide +kernel
theorem dX7_outlier_36 : decode cX7_outlier 36 = .ok (.iload_n 3, 1) := by decide +kernel
theorem dX7_outlier_37 : decode cX7_outlier 37 = .ok (.invokevirtual 292, 3) := by decide +kernel
theorem dX7_outlier_40 : decode cX7_outlier 40 = .ok (.istore 4, 2) := by decide +kernel
theorem dX7_outlier_42 : decode cX7_outlier 42 = .ok (.iload_n 1, 1) := by decide +kernel
theorem dX7_outlier_43 : decode cX7_outlier 43 = .ok (.iconst (-1), 1) := by decide +kernel
theorem dX7_outlier_44 : decode cX7_outlier 44 = .ok (.if_icmp .eq 9, 3) := by decide +kernel
theorem dX7_outlier_47 : decode cX7_outlier 47 = .ok (.iload 4, 2) := by decide +kernel
theorem dX7_outlier_49 : decode cX7_outlier 49 = .ok (.iload_n 2, 1) := by decide +kernel
theorem dX7_outlier_50 : decode cX7_outlier 50 = .ok (.if_icmp .ge 8, 3) := by decide +kernel
theorem dX7_outlier_53 : decode cX7_outlier 53 = .ok (.iload_n 3, 1) := by decide +kernel
theorem dX7_outlier_54 : decode cX7_outlier 54 = .ok (.istore_n 1, 1) := by decide +kernel
theorem dX7_outlier_55 : decode cX7_outlier 55 = .ok (.iload 4, 2) := by decide +kernel
theorem dX7_outlier_57 : decode cX7_outlier 57 = .ok (.istore_n 2, 1) := by decide +kernel
theorem dX7_outlier_58 : decode cX7_outlier 58 = .ok (.iinc 3 1, 3) := by decide +kernel
theorem dX7_outlier_61 : decode cX7_outlier 61 = .ok (.goto (-55), 3) := by decide +kernel
theorem dX7_outlier_64 : decode cX7_outlier 64 = .ok (.iload_n 1, 1) := by decide +kernel
theorem dX7_outlier_65 : decode cX7_outlier 65 = .ok (.ireturn, 1) := by decide +kernel
theorem dX7_ranked_0 : decode cX7_ranked 0 = .ok (.aload_n 0, 1) := by decide +kernel
theorem dX7_ranked_1 : decode cX7_ranked 1 = .ok (.invokevirtual 267, 3) := by decide +kernel
theorem dX7_ranked_4 : decode cX7_ranked 4 = .ok (.iload_n 1, 1) := by decide +kernel
theorem dX7_ranked_5 : decode cX7_ranked 5 = .ok (.invokevirtual 296, 3) := by decide +kernel
theorem dX7_ranked_8 : decode cX7_ranked 8 = .ok (.ireturn, 1) := by decide +kernel
theorem dX7_rankOf_0 : decode cX7_rankOf 0 = .ok (.aload_n 0, 1) := by decide +kernel
theorem dX7_rankOf_1 : decode cX7_rankOf 1 = .ok (.iload_n 1, 1) := by decide +kernel
theorem dX7_rankOf_2 : decode cX7_rankOf 2 = .ok (.invokevirtual 208, 3) := by decide +kernel
theorem dX7_rankOf_5 : decode cX7_rankOf 5 = .ok (.aload_n 0, 1) := by decide +kernel
theorem dX7_rankOf_6 : decode cX7_rankOf 6 = .ok (.invokevirtual 267, 3) := by decide +kernel
theorem dX7_rankOf_9 : decode cX7_rankOf 9 = .ok (.iload_n 1, 1) := by decide +kernel
theorem dX7_rankOf_10 : decode cX7_rankOf 10 = .ok (.invokevirtual 299, 3) := by decide +kernel
theorem dX7_rankOf_13 : decode cX7_rankOf 13 = .ok (.ireturn, 1) := by decide +kernel
theorem dX7_second_0 : decode cX7_second 0 = .ok (.iload_n 1, 1) := by decide +kernel
theorem dX7_second_1 : decode cX7_second 1 = .ok (.ifCond .lt 8, 3) := by decide +kernel
theorem dX7_second_4 : decode cX7_second 4 = .ok (.iload_n 1, 1) := by decide +kernel
theorem dX7_second_5 : decode cX7_second 5 = .ok (.iconst 1, 1) := by decide +kernel
theorem dX7_second_6 : decode cX7_second 6 = .ok (.if_icmp .le 14, 3) := by decide +kernel
theorem dX7_second_9 : decode cX7_second 9 = .ok (.new 90, 3) := by decide +kernel
theorem dX7_second_12 : decode cX7_second 12 = .ok (.dup, 1) := by decide +kernel
theorem dX7_second_13 : decode cX7_second 13 = .ok (.ldc_w 287, 3) := by decide +kernel
theorem dX7_second_16 : decode cX7_second 16 = .ok (.invokespecial 94, 3) := by decide +kernel
theorem dX7_second_19 : decode cX7_second 19 = .ok (.athrow, 1) := by decide +kernel
theorem dX7_second_20 : decode cX7_second 20 = .ok (.aload_n 0, 1) := by decide +kernel
theorem dX7_second_21 : decode cX7_second 21 = .ok (.invokevirtual 267, 3) := by decide +kernel
theorem dX7_second_24 : decode cX7_second 24 = .ok (.getfield 271, 3) := by decide +kernel
theorem dX7_second_27 : decode cX7_second 27 = .ok (.istore_n 2, 1) := by decide +kernel
theorem dX7_second_28 : decode cX7_second 28 = .ok (.aload_n 0, 1) := by decide +kernel
theorem dX7_second_29 : decode cX7_second 29 = .ok (.getfield 33, 3) := by decide +kernel
theorem dX7_second_32 : decode cX7_second 32 = .ok (.iload_n 2, 1) := by decide +kernel
theorem dX7_second_33 : decode cX7_second 33 = .ok (.invokevirtual 302, 3) := by decide +kernel
theorem dX7_second_36 : decode cX7_second 36 = .ok (.ifCond .eq 5, 3) := by decide +kernel
theorem dX7_second_39 : decode cX7_second 39 = .ok (.iconst (-1), 1) := by decide +kernel
theorem dX7_second_40 : decode cX7_second 40 = .ok (.ireturn, 1) := by decide +kernel
theorem dX7_second_41 : decode cX7_second 41 = .ok (.aload_n 0, 1) := by decide +kernel
theorem dX7_second_42 : decode cX7_second 42 = .ok (.getfield 40, 3) := by decide +kernel
theorem dX7_second_45 : decode cX7_second 45 = .ok (.aload_n 0, 1) := by decide +kernel
theorem dX7_second_46 : decode cX7_second 46 = .ok (.getfield 33, 3) := by decide +kernel
theorem dX7_second_49 : decode cX7_second 49 = .ok (.invokevirtual 305, 3) := by decide +kernel
theorem dX7_second_52 : decode cX7_second 52 = .ok (.aload_n 0, 1) := by decide +kernel
theorem dX7_second_53 : decode cX7_second 53 = .ok (.getfield 40, 3) := by decide +kernel
theorem dX7_second_56 : decode cX7_second 56 = .ok (.iload_n 2, 1) := by decide +kernel
theorem dX7_second_57 : decode cX7_second 57 = .ok (.invokevirtual 308, 3) := by decide +kernel
theorem dX7_second_60 : decode cX7_second 60 = .ok (.pop, 1) := by decide +kernel
theorem dX7_second_61 : decode cX7_second 61 = .ok (.aload_n 0, 1) := by decide +kernel
theorem dX7_second_62 : decode cX7_second 62 = .ok (.getfield 54, 3) := by decide +kernel
theorem dX7_second_65 : decode cX7_second 65 = .ok (.aload_n 0, 1) := by decide +kernel
theorem dX7_second_66 : decode cX7_second 66 = .ok (.getfield 40, 3) := by decide +kernel
theorem dX7_second_69 : decode cX7_second 69 = .ok (.invokevirtual 311, 3) := by decide +kernel
theorem dX7_second_72 : decode cX7_second 72 = .ok (.iload_n 1, 1) := by decide +kernel
theorem dX7_second_73 : decode cX7_second 73 = .ok (.ifCond .ne 13, 3) := by decide +kernel
theorem dX7_second_76 : decode cX7_second 76 = .ok (.aload_n 0, 1) := by decide +kernel
theorem dX7_second_77 : decode cX7_second 77 = .ok (.getfield 54, 3) := by decide +kernel
theorem dX7_second_80 : decode cX7_second 80 = .ok (.getfield 271, 3) := by decide +kernel
theorem dX7_second_83 : decode cX7_second 83 = .ok (.goto 10, 3) := by decide +kernel
theorem dX7_second_86 : decode cX7_second 86 = .ok (.aload_n 0, 1) := by decide +kernel
theorem dX7_second_87 : decode cX7_second 87 = .ok (.getfield 54, 3) := by decide +kernel
theorem dX7_second_90 : decode cX7_second 90 = .ok (.getfield 274, 3) := by decide +kernel
theorem dX7_second_93 : decode cX7_second 93 = .ok (.ireturn, 1) := by decide +kernel
theorem dX7_count_0 : decode cX7_count 0 = .ok (.iload_n 1, 1) := by decide +kernel
theorem dX7_count_1 : decode cX7_count 1 = .ok (.ifCond .lt 29, 3) := by decide +kernel
theorem dX7_count_4 : decode cX7_count 4 = .ok (.iload_n 1, 1) := by decide +kernel
theorem dX7_count_5 : decode cX7_count 5 = .ok (.aload_n 0, 1) := by decide +kernel
theorem dX7_count_6 : decode cX7_count 6 = .ok (.getfield 33, 3) := by decide +kernel
theorem dX7_count_9 : decode cX7_count 9 = .ok (.getfield 134, 3) := by decide +kernel
theorem dX7_count_12 : decode cX7_count 12 = .ok (.if_icmp .ge 18, 3) := by decide +kernel
theorem dX7_count_15 : decode cX7_count 15 = .ok (.iload_n 2, 1) := by decide +kernel
theorem dX7_count_16 : decode cX7_count 16 = .ok (.ifCond .lt 14, 3) := by decide +kernel
theorem dX7_count_19 : decode cX7_count 19 = .ok (.iload_n 2, 1) := by decide +kernel
theorem dX7_count_20 : decode cX7_count 20 = .ok (.aload_n 0, 1) := by decide +kernel
theorem dX7_count_21 : decode cX7_count 21 = .ok (.getfield 33, 3) := by decide +kernel
theorem dX7_count_24 : decode cX7_count 24 = .ok (.getfield 131, 3) := by decide +kernel
theorem dX7_count_27 : decode cX7_count 27 = .ok (.if_icmp .lt 14, 3) := by decide +kernel
theorem dX7_count_30 : decode cX7_count 30 = .ok (.new 189, 3) := by decide +kernel
theorem dX7_count_33 : decode cX7_count 33 = .ok (.dup, 1) := by decide +kernel
theorem dX7_count_34 : decode cX7_count 34 = .ok (.ldc_w 314, 3) := by decide +kernel
theorem dX7_count_37 : decode cX7_count 37 = .ok (.invokespecial 193, 3) := by decide +kernel
theorem dX7_count_40 : decode cX7_count 40 = .ok (.athrow, 1) := by decide +kernel
theorem dX7_count_41 : decode cX7_count 41 = .ok (.aload_n 0, 1) := by decide +kernel
theorem dX7_count_42 : decode cX7_count 42 = .ok (.getfield 60, 3) := by decide +kernel
theorem dX7_count_45 : decode cX7_count 45 = .ok (.aload_n 0, 1) := by decide +kernel
theorem dX7_count_46 : decode cX7_count 46 = .ok (.getfield 33, 3) := by decide +kernel
theorem dX7_count_49 : decode cX7_count 49 = .ok (.iconst (-1), 1) := by decide +kernel
theorem dX7_count_50 : decode cX7_count 50 = .ok (.invokevirtual 316, 3) := by decide +kernel
theorem dX7_count_53 : decode cX7_count 53 = .ok (.aload_n 0, 1) := by decide +kernel
theorem dX7_count_54 : decode cX7_count 54 = .ok (.getfield 60, 3) := by decide +kernel
theorem dX7_count_57 : decode cX7_count 57 = .ok (.iload_n 1, 1) := by decide +kernel
theorem dX7_count_58 : decode cX7_count 58 = .ok (.iload_n 2, 1) := by decide +kernel
theorem dX7_count_59 : decode cX7_count 59 = .ok (.invokevirtual 320, 3) := by decide +kernel
theorem dX7_count_62 : decode cX7_count 62 = .ok (.ireturn, 1) := by decide +kernel
theorem dX7_common_0 : decode cX7_common 0 = .ok (.aload_n 0, 1) := by decide +kernel
theorem dX7_common_1 : decode cX7_common 1 = .ok (.getfield 33, 3) := by decide +kernel
theorem dX7_common_4 : decode cX7_common 4 = .ok (.invokevirtual 162, 3) := by decide +kernel
theorem dX7_common_7 : decode cX7_common 7 = .ok (.ifCond .ne 5, 3) := by decide +kernel
theorem dX7_common_10 : decode cX7_common 10 = .ok (.iconst (-1), 1) := by decide +kernel
theorem dX7_common_11 : decode cX7_common 11 = .ok (.ireturn, 1) := by decide +kernel
theorem dX7_common_12 : decode cX7_common 12 = .ok (.aload_n 0, 1) := by decide +kernel
theorem dX7_common_13 : decode cX7_common 13 = .ok (.getfield 60, 3) := by decide +kernel
theorem dX7_common_16 : decode cX7_common 16 = .ok (.aload_n 0, 1) := by decide +kernel
theorem dX7_common_17 : decode cX7_common 17 = .ok (.getfield 33, 3) := by decide +kernel
theorem dX7_common_20 : decode cX7_common 20 = .ok (.iconst (-1), 1) := by decide +kernel
theorem dX7_common_21 : decode cX7_common 21 = .ok (.invokevirtual 316, 3) := by decide +kernel
theorem dX7_common_24 : decode cX7_common 24 = .ok (.aload_n 0, 1) := by decide +kernel
theorem dX7_common_25 : decode cX7_common 25 = .ok (.getfield 33, 3) := by decide +kernel
theorem dX7_common_28 : decode cX7_common 28 = .ok (.aload_n 0, 1) := by decide +kernel
theorem dX7_common_29 : decode cX7_common 29 = .ok (.getfield 60, 3) := by decide +kernel
theorem dX7_common_32 : decode cX7_common 32 = .ok (.invokevirtual 323, 3) := by decide +kernel
theorem dX7_common_35 : decode cX7_common 35 = .ok (.invokevirtual 205, 3) := by decide +kernel
theorem dX7_common_38 : decode cX7_common 38 = .ok (.ireturn, 1) := by decide +kernel
theorem dX7_agreement_0 : decode cX7_agreement 0 = .ok (.aload_n 0, 1) := by decide +kernel
theorem dX7_agreement_1 : decode cX7_agreement 1 = .ok (.getfield 60, 3) := by decide +kernel
theorem dX7_agreement_4 : decode cX7_agreement 4 = .ok (.aload_n 0, 1) := by decide +kernel
theorem dX7_agreement_5 : decode cX7_agreement 5 = .ok (.getfield 33, 3) := by decide +kernel
theorem dX7_agreement_8 : decode cX7_agreement 8 = .ok (.invokevirtual 326, 3) := by decide +kernel
theorem dX7_agreement_11 : decode cX7_agreement 11 = .ok (.ireturn, 1) := by decide +kernel
theorem dX7_weight_0 : decode cX7_weight 0 = .ok (.aload_n 0, 1) := by decide +kernel
theorem dX7_weight_1 : decode cX7_weight 1 = .ok (.iload_n 1, 1) := by decide +kernel
theorem dX7_weight_2 : decode cX7_weight 2 = .ok (.invokevirtual 167, 3) := by decide +kernel
theorem dX7_weight_5 : decode cX7_weight 5 = .ok (.aload_n 0, 1) := by decide +kernel
theorem dX7_weight_6 : decode cX7_weight 6 = .ok (.getfield 33, 3) := by decide +kernel
theorem dX7_weight_9 : decode cX7_weight 9 = .ok (.iload_n 1, 1) := by decide +kernel
theorem dX7_weight_10 : decode cX7_weight 10 = .ok (.iload_n 2, 1) := by decide +kernel
theorem dX7_weight_11 : decode cX7_weight 11 = .ok (.invokevirtual 198, 3) := by decide +kernel
theorem dX7_weight_14 : decode cX7_weight 14 = .ok (.ifCond .ne 5, 3) := by decide +kernel
theorem dX7_weight_17 : decode cX7_weight 17 = .ok (.iconst 0, 1) := by decide +kernel
theorem dX7_weight_18 : decode cX7_weight 18 = .ok (.ireturn, 1) := by decide +kernel
theorem dX7_weight_19 : decode cX7_weight 19 = .ok (.aload_n 0, 1) := by decide +kernel
theorem dX7_weight_20 : decode cX7_weight 20 = .ok (.getfield 60, 3) := by decide +kernel
theorem dX7_weight_23 : decode cX7_weight 23 = .ok (.aload_n 0, 1) := by decide +kernel
theorem dX7_weight_24 : decode cX7_weight 24 = .ok (.getfield 33, 3) := by decide +kernel
theorem dX7_weight_27 : decode cX7_weight 27 = .ok (.iload_n 1, 1) := by decide +kernel
theorem dX7_weight_28 : decode cX7_weight 28 = .ok (.invokevirtual 316, 3) := by decide +kernel
theorem dX7_weight_31 : decode cX7_weight 31 = .ok (.aload_n 0, 1) := by decide +kernel
theorem dX7_weight_32 : decode cX7_weight 32 = .ok (.getfield 60, 3) := by decide +kernel
theorem dX7_weight_35 : decode cX7_weight 35 = .ok (.aload_n 0, 1) := by decide +kernel
theorem dX7_weight_36 : decode cX7_weight 36 = .ok (.getfield 33, 3) := by decide +kernel
theorem dX7_weight_39 : decode cX7_weight 39 = .ok (.iload_n 1, 1) := by decide +kernel
theorem dX7_weight_40 : decode cX7_weight 40 = .ok (.iload_n 2, 1) := by decide +kernel
theorem dX7_weight_41 : decode cX7_weight 41 = .ok (.invokevirtual 202, 3) := by decide +kernel
theorem dX7_weight_44 : decode cX7_weight 44 = .ok (.invokevirtual 330, 3) := by decide +kernel
theorem dX7_weight_47 : decode cX7_weight 47 = .ok (.ireturn, 1) := by decide +kernel
theorem dX7_tryFrom_0 : decode cX7_tryFrom 0 = .ok (.aload_n 0, 1) := by decide +kernel
theorem dX7_tryFrom_1 : decode cX7_tryFrom 1 = .ok (.iload_n 1, 1) := by decide +kernel
theorem dX7_tryFrom_2 : decode cX7_tryFrom 2 = .ok (.invokevirtual 167, 3) := by decide +kernel
theorem dX7_tryFrom_5 : decode cX7_tryFrom 5 = .ok (.aload_n 0, 1) := by decide +kernel
theorem dX7_tryFrom_6 : decode cX7_tryFrom 6 = .ok (.getfield 33, 3) := by decide +kernel
theorem dX7_tryFrom_9 : decode cX7_tryFrom 9 = .ok (.iload_n 1, 1) := by decide +kernel
theorem dX7_tryFrom_10 : decode cX7_tryFrom 10 = .ok (.iload_n 2, 1) := by decide +kernel
theorem dX7_tryFrom_11 : decode cX7_tryFrom 11 = .ok (.invokevirtual 198, 3) := by decide +kernel
theorem dX7_tryFrom_14 : decode cX7_tryFrom 14 = .ok (.ifCond .eq 12, 3) := by decide +kernel
theorem dX7_tryFrom_17 : decode cX7_tryFrom 17 = .ok (.aload_n 0, 1) := by decide +kernel
theorem dX7_tryFrom_18 : decode cX7_tryFrom 18 = .ok (.iload_n 1, 1) := by decide +kernel
theorem dX7_tryFrom_19 : decode cX7_tryFrom 19 = .ok (.iload_n 2, 1) := by decide +kernel
theorem dX7_tryFrom_20 : decode cX7_tryFrom 20 = .ok (.invokevirtual 333, 3) := by decide +kernel
theorem dX7_tryFrom_23 : decode cX7_tryFrom 23 = .ok (.goto 4, 3) := by decide +kernel
theorem dX7_tryFrom_26 : decode cX7_tryFrom 26 = .ok (.iconst (-1), 1) := by decide +kernel
theorem dX7_tryFrom_27 : decode cX7_tryFrom 27 = .ok (.ireturn, 1) := by decide +kernel
theorem dX7_bestStart_0 : decode cX7_bestStart 0 = .ok (.aload_n 0, 1) := by decide +kernel
theorem dX7_bestStart_1 : decode cX7_bestStart 1 = .ok (.iload_n 1, 1) := by decide +kernel
theorem dX7_bestStart_2 : decode cX7_bestStart 2 = .ok (.invokevirtual 167, 3) := by decide +kernel
theorem dX7_bestStart_5 : decode cX7_bestStart 5 = .ok (.iconst (-1), 1) := by decide +kernel
theorem dX7_bestStart_6 : decode cX7_bestStart 6 = .ok (.istore_n 2, 1) := by decide +kernel
theorem dX7_bestStart_7 : decode cX7_bestStart 7 = .ok (.iconst (-1), 1) := by decide +kernel
theorem dX7_bestStart_8 : decode cX7_bestStart 8 = .ok (.istore_n 3, 1) := by decide +kernel
theorem dX7_bestStart_9 : decode cX7_bestStart 9 = .ok (.iconst 0, 1) := by decide +kernel
theorem dX7_bestStart_10 : decode cX7_bestStart 10 = .ok (.istore 4, 2) := by decide +kernel
theorem dX7_bestStart_12 : decode cX7_bestStart 12 = .ok (.iload 4, 2) := by decide +kernel
theorem dX7_bestStart_14 : decode cX7_bestStart 14 = .ok (.aload_n 0, 1) := by decide +kernel
theorem dX7_bestStart_15 : decode cX7_bestStart 15 = .ok (.getfield 33, 3) := by decide +kernel
theorem dX7_bestStart_18 : decode cX7_bestStart 18 = .ok (.iload_n 1, 1) := by decide +kernel
theorem dX7_bestStart_19 : decode cX7_bestStart 19 = .ok (.invokevirtual 245, 3) := by decide +kernel
theorem dX7_bestStart_22 : decode cX7_bestStart 22 = .ok (.if_icmp .gt 43, 3) := by decide +kernel
theorem dX7_bestStart_25 : decode cX7_bestStart 25 = .ok (.aload_n 0, 1) := by decide +kernel
theorem dX7_bestStart_26 : decode cX7_bestStart 26 = .ok (.getfield 33, 3) := by decide +kernel
theorem dX7_bestStart_29 : decode cX7_bestStart 29 = .ok (.iload_n 1, 1) := by decide +kernel
theorem dX7_bestStart_30 : decode cX7_bestStart 30 = .ok (.iload 4, 2) := by decide +kernel
theorem dX7_bestStart_32 : decode cX7_bestStart 32 = .ok (.invokevirtual 198, 3) := by decide +kernel
theorem dX7_bestStart_35 : decode cX7_bestStart 35 = .ok (.ifCond .eq 24, 3) := by decide +kernel
theorem dX7_bestStart_38 : decode cX7_bestStart 38 = .ok (.aload_n 0, 1) := by decide +kernel
theorem dX7_bestStart_39 : decode cX7_bestStart 39 = .ok (.iload_n 1, 1) := by decide +kernel
theorem dX7_bestStart_40 : decode cX7_bestStart 40 = .ok (.iload 4, 2) := by decide +kernel
theorem dX7_bestStart_42 : decode cX7_bestStart 42 = .ok (.invokevirtual 333, 3) := by decide +kernel
theorem dX7_bestStart_45 : decode cX7_bestStart 45 = .ok (.istore 5, 2) := by decide +kernel
theorem dX7_bestStart_47 : decode cX7_bestStart 47 = .ok (.iload 5, 2) := by decide +kernel
theorem dX7_bestStart_49 : decode cX7_bestStart 49 = .ok (.iload_n 3, 1) := by decide +kernel
theorem dX7_bestStart_50 : decode cX7_bestStart 50 = .ok (.if_icmp .le 9, 3) := by decide +kernel
theorem dX7_bestStart_53 : decode cX7_bestStart 53 = .ok (.iload 4, 2) := by decide +kernel
theorem dX7_bestStart_55 : decode cX7_bestStart 55 = .ok (.istore_n 2, 1) := by decide +kernel
theorem dX7_bestStart_56 : decode cX7_bestStart 56 = .ok (.iload 5, 2) := by decide +kernel
theorem dX7_bestStart_58 : decode cX7_bestStart 58 = .ok (.istore_n 3, 1) := by decide +kernel
theorem dX7_bestStart_59 : decode cX7_bestStart 59 = .ok (.iinc 4 1, 3) := by decide +kernel
theorem dX7_bestStart_62 : decode cX7_bestStart 62 = .ok (.goto (-50), 3) := by decide +kernel
theorem dX7_bestStart_65 : decode cX7_bestStart 65 = .ok (.iload_n 2, 1) := by decide +kernel
theorem dX7_bestStart_66 : decode cX7_bestStart 66 = .ok (.ireturn, 1) := by decide +kernel
theorem dX7_agreementShare_0 : decode cX7_agreementShare 0 = .ok (.aload_n 0, 1) := by decide +kernel
theorem dX7_agreementShare_1 : decode cX7_agreementShare 1 = .ok (.getfield 33, 3) := by decide +kernel
theorem dX7_agreementShare_4 : decode cX7_agreementShare 4 = .ok (.getfield 134, 3) := by decide +kernel
theorem dX7_agreementShare_7 : decode cX7_agreementShare 7 = .ok (.aload_n 0, 1) := by decide +kernel
theorem dX7_agreementShare_8 : decode cX7_agreementShare 8 = .ok (.getfield 33, 3) := by decide +kernel
theorem dX7_agreementShare_11 : decode cX7_agreementShare 11 = .ok (.invokevirtual 162, 3) := by decide +kernel
theorem dX7_agreementShare_14 : decode cX7_agreementShare 14 = .ok (.imul, 1) := by decide +kernel
theorem dX7_agreementShare_15 : decode cX7_agreementShare 15 = .ok (.istore_n 1, 1) := by decide +kernel
theorem dX7_agreementShare_16 : decode cX7_agreementShare 16 = .ok (.iload_n 1, 1) := by decide +kernel
theorem dX7_agreementShare_17 : decode cX7_agreementShare 17 = .ok (.ifCond .le 14, 3) := by decide +kernel
theorem dX7_agreementShare_20 : decode cX7_agreementShare 20 = .ok (.aload_n 0, 1) := by decide +kernel
theorem dX7_agreementShare_21 : decode cX7_agreementShare 21 = .ok (.invokevirtual 336, 3) := by decide +kernel
theorem dX7_agreementShare_24 : decode cX7_agreementShare 24 = .ok (.i2f, 1) := by decide +kernel
theorem dX7_agreementShare_25 : decode cX7_agreementShare 25 = .ok (.iload_n 1, 1) := by decide +kernel
theorem dX7_agreementShare_26 : decode cX7_agreementShare 26 = .ok (.i2f, 1) := by decide +kernel
theorem dX7_agreementShare_27 : decode cX7_agreementShare 27 = .ok (.fdiv, 1) := by decide +kernel
theorem dX7_agreementShare_28 : decode cX7_agreementShare 28 = .ok (.goto 4, 3) := by decide +kernel
theorem dX7_agreementShare_31 : decode cX7_agreementShare 31 = .ok (.fconst 0, 1) := by decide +kernel
theorem dX7_agreementShare_32 : decode cX7_agreementShare 32 = .ok (.freturn, 1) := by decide +kernel
theorem dX7_meanDistance_0 : decode cX7_meanDistance 0 = .ok (.aload_n 0, 1) := by decide +kernel
theorem dX7_meanDistance_1 : decode cX7_meanDistance 1 = .ok (.getfield 33, 3) := by decide +kernel
theorem dX7_meanDistance_4 : decode cX7_meanDistance 4 = .ok (.getfield 108, 3) := by decide +kernel
theorem dX7_meanDistance_7 : decode cX7_meanDistance 7 = .ok (.aload_n 0, 1) := by decide +kernel
theorem dX7_meanDistance_8 : decode cX7_meanDistance 8 = .ok (.getfield 33, 3) := by decide +kernel
theorem dX7_meanDistance_11 : decode cX7_meanDistance 11 = .ok (.getfield 147, 3) := by decide +kernel
theorem dX7_meanDistance_14 : decode cX7_meanDistance 14 = .ok (.invokestatic 150, 3) := by decide +kernel
theorem dX7_meanDistance_17 : decode cX7_meanDistance 17 = .ok (.isub, 1) := by decide +kernel
theorem dX7_meanDistance_18 : decode cX7_meanDistance 18 = .ok (.istore_n 1, 1) := by decide +kernel
theorem dX7_meanDistance_19 : decode cX7_meanDistance 19 = .ok (.iload_n 1, 1) := by decide +kernel
theorem dX7_meanDistance_20 : decode cX7_meanDistance 20 = .ok (.ifCond .le 17, 3) := by decide +kernel
theorem dX7_meanDistance_23 : decode cX7_meanDistance 23 = .ok (.aload_n 0, 1) := by decide +kernel
theorem dX7_meanDistance_24 : decode cX7_meanDistance 24 = .ok (.invokevirtual 267, 3) := by decide +kernel
theorem dX7_meanDistance_27 : decode cX7_meanDistance 27 = .ok (.getfield 274, 3) := by decide +kernel
theorem dX7_meanDistance_30 : decode cX7_meanDistance 30 = .ok (.i2d, 1) := by decide +kernel
theorem dX7_meanDistance_31 : decode cX7_meanDistance 31 = .ok (.iload_n 1, 1) := by decide +kernel
theorem dX7_meanDistance_32 : decode cX7_meanDistance 32 = .ok (.i2d, 1) := by decide +kernel
theorem dX7_meanDistance_33 : decode cX7_meanDistance 33 = .ok (.ddiv, 1) := by decide +kernel
theorem dX7_meanDistance_34 : decode cX7_meanDistance 34 = .ok (.goto 4, 3) := by decide +kernel
theorem dX7_meanDistance_37 : decode cX7_meanDistance 37 = .ok (.dconst 0, 1) := by decide +kernel
theorem dX7_meanDistance_38 : decode cX7_meanDistance 38 = .ok (.dreturn, 1) := by decide +kernel
theorem dX7_improvesToEnd_0 : decode cX7_improvesToEnd 0 = .ok (.iload_n 1, 1) := by decide +kernel
theorem dX7_improvesToEnd_1 : decode cX7_improvesToEnd 1 = .ok (.ifCond .lt 9, 3) := by decide +kernel
theorem dX7_improvesToEnd_4 : decode cX7_improvesToEnd 4 = .ok (.iload_n 1, 1) := by decide +kernel
theorem dX7_improvesToEnd_5 : decode cX7_improvesToEnd 5 = .ok (.bipush 50, 2) := by decide +kernel
theorem dX7_improvesToEnd_7 : decode cX7_improvesToEnd 7 = .ok (.if_icmp .le 14, 3) := by decide +kernel
theorem dX7_improvesToEnd_10 : decode cX7_improvesToEnd 10 = .ok (.new 90, 3) := by decide +kernel
theorem dX7_improvesToEnd_13 : decode cX7_improvesToEnd 13 = .ok (.dup, 1) := by decide +kernel
theorem dX7_improvesToEnd_14 : decode cX7_improvesToEnd 14 = .ok (.ldc_w 339, 3) := by decide +kernel
theorem dX7_improvesToEnd_17 : decode cX7_improvesToEnd 17 = .ok (.invokespecial 94, 3) := by decide +kernel
theorem dX7_improvesToEnd_20 : decode cX7_improvesToEnd 20 = .ok (.athrow, 1) := by decide +kernel
theorem dX7_improvesToEnd_21 : decode cX7_improvesToEnd 21 = .ok (.aload_n 0, 1) := by decide +kernel
theorem dX7_improvesToEnd_22 : decode cX7_improvesToEnd 22 = .ok (.getfield 40, 3) := by decide +kernel
theorem dX7_improvesToEnd_25 : decode cX7_improvesToEnd 25 = .ok (.aload_n 0, 1) := by decide +kernel
theorem dX7_improvesToEnd_26 : decode cX7_improvesToEnd 26 = .ok (.getfield 33, 3) := by decide +kernel
theorem dX7_improvesToEnd_29 : decode cX7_improvesToEnd 29 = .ok (.invokevirtual 305, 3) := by decide +kernel
theorem dX7_improvesToEnd_32 : decode cX7_improvesToEnd 32 = .ok (.iconst 0, 1) := by decide +kernel
theorem dX7_improvesToEnd_33 : decode cX7_improvesToEnd 33 = .ok (.istore_n 2, 1) := by decide +kernel
theorem dX7_improvesToEnd_34 : decode cX7_improvesToEnd 34 = .ok (.iload_n 2, 1) := by decide +kernel
theorem dX7_improvesToEnd_35 : decode cX7_improvesToEnd 35 = .ok (.iload_n 1, 1) := by decide +kernel
theorem dX7_improvesToEnd_36 : decode cX7_improvesToEnd 36 = .ok (.if_icmp .gt 25, 3) := by decide +kernel
theorem dX7_improvesToEnd_39 : decode cX7_improvesToEnd 39 = .ok (.aload_n 0, 1) := by decide +kernel
theorem dX7_improvesToEnd_40 : decode cX7_improvesToEnd 40 = .ok (.getfield 60, 3) := by decide +kernel
theorem dX7_improvesToEnd_43 : decode cX7_improvesToEnd 43 = .ok (.aload_n 0, 1) := by decide +kernel
theorem dX7_improvesToEnd_44 : decode cX7_improvesToEnd 44 = .ok (.getfield 40, 3) := by decide +kernel
theorem dX7_improvesToEnd_47 : decode cX7_improvesToEnd 47 = .ok (.invokevirtual 341, 3) := by decide +kernel
theorem dX7_improvesToEnd_50 : decode cX7_improvesToEnd 50 = .ok (.ifCond .ne 5, 3) := by decide +kernel
theorem dX7_improvesToEnd_53 : decode cX7_improvesToEnd 53 = .ok (.iload_n 2, 1) := by decide +kernel
theorem dX7_improvesToEnd_54 : decode cX7_improvesToEnd 54 = .ok (.ireturn, 1) := by decide +kernel
theorem dX7_improvesToEnd_55 : decode cX7_improvesToEnd 55 = .ok (.iinc 2 1, 3) := by decide +kernel
theorem dX7_improvesToEnd_58 : decode cX7_improvesToEnd 58 = .ok (.goto (-24), 3) := by decide +kernel
theorem dX7_improvesToEnd_61 : decode cX7_improvesToEnd 61 = .ok (.iconst (-1), 1) := by decide +kernel
theorem dX7_improvesToEnd_62 : decode cX7_improvesToEnd 62 = .ok (.ireturn, 1) := by decide +kernel
theorem dX7_choose_0 : decode cX7_choose 0 = .ok (.aload_n 0, 1) := by decide +kernel
theorem dX7_choose_1 : decode cX7_choose 1 = .ok (.iload_n 1, 1) := by decide +kernel
theorem dX7_choose_2 : decode cX7_choose 2 = .ok (.invokevirtual 167, 3) := by decide +kernel
theorem dX7_choose_5 : decode cX7_choose 5 = .ok (.aload_n 0, 1) := by decide +kernel
theorem dX7_choose_6 : decode cX7_choose 6 = .ok (.getfield 33, 3) := by decide +kernel
theorem dX7_choose_9 : decode cX7_choose 9 = .ok (.iload_n 1, 1) := by decide +kernel
theorem dX7_choose_10 : decode cX7_choose 10 = .ok (.iload_n 2, 1) := by decide +kernel
theorem dX7_choose_11 : decode cX7_choose 11 = .ok (.invokevirtual 198, 3) := by decide +kernel
theorem dX7_choose_14 : decode cX7_choose 14 = .ok (.ifCond .ne 14, 3) := by decide +kernel
theorem dX7_choose_17 : decode cX7_choose 17 = .ok (.new 90, 3) := by decide +kernel
theorem dX7_choose_20 : decode cX7_choose 20 = .ok (.dup, 1) := by decide +kernel
theorem dX7_choose_21 : decode cX7_choose 21 = .ok (.ldc_w 345, 3) := by decide +kernel
theorem dX7_choose_24 : decode cX7_choose 24 = .ok (.invokespecial 94, 3) := by decide +kernel
theorem dX7_choose_27 : decode cX7_choose 27 = .ok (.athrow, 1) := by decide +kernel
theorem dX7_choose_28 : decode cX7_choose 28 = .ok (.aload_n 0, 1) := by decide +kernel
theorem dX7_choose_29 : decode cX7_choose 29 = .ok (.invokevirtual 114, 3) := by decide +kernel
theorem dX7_choose_32 : decode cX7_choose 32 = .ok (.aload_n 0, 1) := by decide +kernel
theorem dX7_choose_33 : decode cX7_choose 33 = .ok (.getfield 33, 3) := by decide +kernel
theorem dX7_choose_36 : decode cX7_choose 36 = .ok (.getfield 177, 3) := by decide +kernel
theorem dX7_choose_39 : decode cX7_choose 39 = .ok (.iload_n 1, 1) := by decide +kernel
theorem dX7_choose_40 : decode cX7_choose 40 = .ok (.iload_n 2, 1) := by decide +kernel
theorem dX7_choose_41 : decode cX7_choose 41 = .ok (.iastore, 1) := by decide +kernel
theorem dX7_choose_42 : decode cX7_choose 42 = .ok (.aload_n 0, 1) := by decide +kernel
theorem dX7_choose_43 : decode cX7_choose 43 = .ok (.invokevirtual 336, 3) := by decide +kernel
theorem dX7_choose_46 : decode cX7_choose 46 = .ok (.ireturn, 1) := by decide +kernel
theorem dX7_clear_0 : decode cX7_clear 0 = .ok (.aload_n 0, 1) := by decide +kernel
theorem dX7_clear_1 : decode cX7_clear 1 = .ok (.iload_n 1, 1) := by decide +kernel
theorem dX7_clear_2 : decode cX7_clear 2 = .ok (.invokevirtual 167, 3) := by decide +kernel
theorem dX7_clear_5 : decode cX7_clear 5 = .ok (.aload_n 0, 1) := by decide +kernel
theorem dX7_clear_6 : decode cX7_clear 6 = .ok (.getfield 33, 3) := by decide +kernel
theorem dX7_clear_9 : decode cX7_clear 9 = .ok (.getfield 177, 3) := by decide +kernel
theorem dX7_clear_12 : decode cX7_clear 12 = .ok (.iload_n 1, 1) := by decide +kernel
theorem dX7_clear_13 : decode cX7_clear 13 = .ok (.iaload, 1) := by decide +kernel
theorem dX7_clear_14 : decode cX7_clear 14 = .ok (.istore_n 2, 1) := by decide +kernel
theorem dX7_clear_15 : decode cX7_clear 15 = .ok (.iload_n 2, 1) := by decide +kernel
theorem dX7_clear_16 : decode cX7_clear 16 = .ok (.iconst (-1), 1) := by decide +kernel
theorem dX7_clear_17 : decode cX7_clear 17 = .ok (.if_icmp .ne 14, 3) := by decide +kernel
theorem dX7_clear_20 : decode cX7_clear 20 = .ok (.new 79, 3) := by decide +kernel
theorem dX7_clear_23 : decode cX7_clear 23 = .ok (.dup, 1) := by decide +kernel
theorem dX7_clear_24 : decode cX7_clear 24 = .ok (.ldc_w 347, 3) := by decide +kernel
theorem dX7_clear_27 : decode cX7_clear 27 = .ok (.invokespecial 83, 3) := by decide +kernel
theorem dX7_clear_30 : decode cX7_clear 30 = .ok (.athrow, 1) := by decide +kernel
theorem dX7_clear_31 : decode cX7_clear 31 = .ok (.aload_n 0, 1) := by decide +kernel
theorem dX7_clear_32 : decode cX7_clear 32 = .ok (.invokevirtual 114, 3) := by decide +kernel
theorem dX7_clear_35 : decode cX7_clear 35 = .ok (.aload_n 0, 1) := by decide +kernel
theorem dX7_clear_36 : decode cX7_clear 36 = .ok (.getfield 33, 3) := by decide +kernel
theorem dX7_clear_39 : decode cX7_clear 39 = .ok (.getfield 177, 3) := by decide +kernel
theorem dX7_clear_42 : decode cX7_clear 42 = .ok (.iload_n 1, 1) := by decide +kernel
theorem dX7_clear_43 : decode cX7_clear 43 = .ok (.iconst (-1), 1) := by decide +kernel
theorem dX7_clear_44 : decode cX7_clear 44 = .ok (.iastore, 1) := by decide +kernel
theorem dX7_clear_45 : decode cX7_clear 45 = .ok (.iload_n 2, 1) := by decide +kernel
theorem dX7_clear_46 : decode cX7_clear 46 = .ok (.ireturn, 1) := by decide +kernel
theorem dX7_better_0 : decode cX7_better 0 = .ok (.aload_n 0, 1) := by decide +kernel
theorem dX7_better_1 : decode cX7_better 1 = .ok (.iload_n 1, 1) := by decide +kernel
theorem dX7_better_2 : decode cX7_better 2 = .ok (.invokevirtual 167, 3) := by decide +kernel
theorem dX7_better_5 : decode cX7_better 5 = .ok (.aload_n 0, 1) := by decide +kernel
theorem dX7_better_6 : decode cX7_better 6 = .ok (.getfield 33, 3) := by decide +kernel
theorem dX7_better_9 : decode cX7_better 9 = .ok (.iload_n 1, 1) := by decide +kernel
theorem dX7_better_10 : decode cX7_better 10 = .ok (.invokevirtual 180, 3) := by decide +kernel
theorem dX7_better_13 : decode cX7_better 13 = .ok (.ifCond .eq 14, 3) := by decide +kernel
theorem dX7_better_16 : decode cX7_better 16 = .ok (.new 79, 3) := by decide +kernel
theorem dX7_better_19 : decode cX7_better 19 = .ok (.dup, 1) := by decide +kernel
theorem dX7_better_20 : decode cX7_better 20 = .ok (.ldc_w 349, 3) := by decide +kernel
theorem dX7_better_23 : decode cX7_better 23 = .ok (.invokespecial 83, 3) := by decide +kernel
theorem dX7_better_26 : decode cX7_better 26 = .ok (.athrow, 1) := by decide +kernel
theorem dX7_better_27 : decode cX7_better 27 = .ok (.aload_n 0, 1) := by decide +kernel
theorem dX7_better_28 : decode cX7_better 28 = .ok (.invokevirtual 114, 3) := by decide +kernel
theorem dX7_better_31 : decode cX7_better 31 = .ok (.aload_n 0, 1) := by decide +kernel
theorem dX7_better_32 : decode cX7_better 32 = .ok (.getfield 60, 3) := by decide +kernel
theorem dX7_better_35 : decode cX7_better 35 = .ok (.aload_n 0, 1) := by decide +kernel
theorem dX7_better_36 : decode cX7_better 36 = .ok (.getfield 33, 3) := by decide +kernel
theorem dX7_better_39 : decode cX7_better 39 = .ok (.iload_n 1, 1) := by decide +kernel
theorem dX7_better_40 : decode cX7_better 40 = .ok (.invokevirtual 351, 3) := by decide +kernel
theorem dX7_better_43 : decode cX7_better 43 = .ok (.pop, 1) := by decide +kernel
theorem dX7_better_44 : decode cX7_better 44 = .ok (.aload_n 0, 1) := by decide +kernel
theorem dX7_better_45 : decode cX7_better 45 = .ok (.getfield 33, 3) := by decide +kernel
theorem dX7_better_48 : decode cX7_better 48 = .ok (.getfield 177, 3) := by decide +kernel
theorem dX7_better_51 : decode cX7_better 51 = .ok (.iload_n 1, 1) := by decide +kernel
theorem dX7_better_52 : decode cX7_better 52 = .ok (.iaload, 1) := by decide +kernel
theorem dX7_better_53 : decode cX7_better 53 = .ok (.ireturn, 1) := by decide +kernel
theorem dX7_improve_0 : decode cX7_improve 0 = .ok (.iload_n 1, 1) := by decide +kernel
theorem dX7_improve_1 : decode cX7_improve 1 = .ok (.invokestatic 355, 3) := by decide +kernel
theorem dX7_improve_4 : decode cX7_improve 4 = .ok (.ifCond .ne 14, 3) := by decide +kernel
theorem dX7_improve_7 : decode cX7_improve 7 = .ok (.new 90, 3) := by decide +kernel
theorem dX7_improve_10 : decode cX7_improve 10 = .ok (.dup, 1) := by decide +kernel
theorem dX7_improve_11 : decode cX7_improve 11 = .ok (.ldc_w 358, 3) := by decide +kernel
theorem dX7_improve_14 : decode cX7_improve 14 = .ok (.invokespecial 94, 3) := by decide +kernel
theorem dX7_improve_17 : decode cX7_improve 17 = .ok (.athrow, 1) := by decide +kernel
theorem dX7_improve_18 : decode cX7_improve 18 = .ok (.aload_n 0, 1) := by decide +kernel
theorem dX7_improve_19 : decode cX7_improve 19 = .ok (.invokevirtual 114, 3) := by decide +kernel
theorem dX7_improve_22 : decode cX7_improve 22 = .ok (.aload_n 0, 1) := by decide +kernel
theorem dX7_improve_23 : decode cX7_improve 23 = .ok (.getfield 60, 3) := by decide +kernel
theorem dX7_improve_26 : decode cX7_improve 26 = .ok (.aload_n 0, 1) := by decide +kernel
theorem dX7_improve_27 : decode cX7_improve 27 = .ok (.getfield 33, 3) := by decide +kernel
theorem dX7_improve_30 : decode cX7_improve 30 = .ok (.iload_n 1, 1) := by decide +kernel
theorem dX7_improve_31 : decode cX7_improve 31 = .ok (.invokevirtual 360, 3) := by decide +kernel
theorem dX7_improve_34 : decode cX7_improve 34 = .ok (.ireturn, 1) := by decide +kernel
theorem dX7_take_0 : decode cX7_take 0 = .ok (.aload_n 0, 1) := by decide +kernel
theorem dX7_take_1 : decode cX7_take 1 = .ok (.iload_n 1, 1) := by decide +kernel
theorem dX7_take_2 : decode cX7_take 2 = .ok (.invokevirtual 208, 3) := by decide +kernel
theorem dX7_take_5 : decode cX7_take 5 = .ok (.aload_n 0, 1) := by decide +kernel
theorem dX7_take_6 : decode cX7_take 6 = .ok (.getfield 33, 3) := by decide +kernel
theorem dX7_take_9 : decode cX7_take 9 = .ok (.iload_n 1, 1) := by decide +kernel
theorem dX7_take_10 : decode cX7_take 10 = .ok (.invokevirtual 302, 3) := by decide +kernel
theorem dX7_take_13 : decode cX7_take 13 = .ok (.ifCond .eq 14, 3) := by decide +kernel
theorem dX7_take_16 : decode cX7_take 16 = .ok (.new 79, 3) := by decide +kernel
theorem dX7_take_19 : decode cX7_take 19 = .ok (.dup, 1) := by decide +kernel
theorem dX7_take_20 : decode cX7_take 20 = .ok (.ldc_w 363, 3) := by decide +kernel
theorem dX7_take_23 : decode cX7_take 23 = .ok (.invokespecial 83, 3) := by decide +kernel
theorem dX7_take_26 : decode cX7_take 26 = .ok (.athrow, 1) := by decide +kernel
theorem dX7_take_27 : decode cX7_take 27 = .ok (.aload_n 0, 1) := by decide +kernel
theorem dX7_take_28 : decode cX7_take 28 = .ok (.invokevirtual 114, 3) := by decide +kernel
theorem dX7_take_31 : decode cX7_take 31 = .ok (.aload_n 0, 1) := by decide +kernel
theorem dX7_take_32 : decode cX7_take 32 = .ok (.invokevirtual 365, 3) := by decide +kernel
theorem dX7_take_35 : decode cX7_take 35 = .ok (.aload_n 0, 1) := by decide +kernel
theorem dX7_take_36 : decode cX7_take 36 = .ok (.getfield 33, 3) := by decide +kernel
theorem dX7_take_39 : decode cX7_take 39 = .ok (.iload_n 1, 1) := by decide +kernel
theorem dX7_take_40 : decode cX7_take 40 = .ok (.invokevirtual 308, 3) := by decide +kernel
theorem dX7_take_43 : decode cX7_take 43 = .ok (.ireturn, 1) := by decide +kernel
theorem dX7_takeBest_0 : decode cX7_takeBest 0 = .ok (.aload_n 0, 1) := by decide +kernel
theorem dX7_takeBest_1 : decode cX7_takeBest 1 = .ok (.invokevirtual 267, 3) := by decide +kernel
theorem dX7_takeBest_4 : decode cX7_takeBest 4 = .ok (.getfield 271, 3) := by decide +kernel
theorem dX7_takeBest_7 : decode cX7_takeBest 7 = .ok (.istore_n 1, 1) := by decide +kernel
theorem dX7_takeBest_8 : decode cX7_takeBest 8 = .ok (.aload_n 0, 1) := by decide +kernel
theorem dX7_takeBest_9 : decode cX7_takeBest 9 = .ok (.getfield 33, 3) := by decide +kernel
theorem dX7_takeBest_12 : decode cX7_takeBest 12 = .ok (.iload_n 1, 1) := by decide +kernel
theorem dX7_takeBest_13 : decode cX7_takeBest 13 = .ok (.invokevirtual 302, 3) := by decide +kernel
theorem dX7_takeBest_16 : decode cX7_takeBest 16 = .ok (.ifCond .eq 14, 3) := by decide +kernel
theorem dX7_takeBest_19 : decode cX7_takeBest 19 = .ok (.new 79, 3) := by decide +kernel
theorem dX7_takeBest_22 : decode cX7_takeBest 22 = .ok (.dup, 1) := by decide +kernel
theorem dX7_takeBest_23 : decode cX7_takeBest 23 = .ok (.ldc_w 368, 3) := by decide +kernel
theorem dX7_takeBest_26 : decode cX7_takeBest 26 = .ok (.invokespecial 83, 3) := by decide +kernel
theorem dX7_takeBest_29 : decode cX7_takeBest 29 = .ok (.athrow, 1) := by decide +kernel
theorem dX7_takeBest_30 : decode cX7_takeBest 30 = .ok (.aload_n 0, 1) := by decide +kernel
theorem dX7_takeBest_31 : decode cX7_takeBest 31 = .ok (.invokevirtual 114, 3) := by decide +kernel
theorem dX7_takeBest_34 : decode cX7_takeBest 34 = .ok (.aload_n 0, 1) := by decide +kernel
theorem dX7_takeBest_35 : decode cX7_takeBest 35 = .ok (.invokevirtual 365, 3) := by decide +kernel
theorem dX7_takeBest_38 : decode cX7_takeBest 38 = .ok (.aload_n 0, 1) := by decide +kernel
theorem dX7_takeBest_39 : decode cX7_takeBest 39 = .ok (.getfield 33, 3) := by decide +kernel
theorem dX7_takeBest_42 : decode cX7_takeBest 42 = .ok (.iload_n 1, 1) := by decide +kernel
theorem dX7_takeBest_43 : decode cX7_takeBest 43 = .ok (.invokevirtual 308, 3) := by decide +kernel
theorem dX7_takeBest_46 : decode cX7_takeBest 46 = .ok (.pop, 1) := by decide +kernel
theorem dX7_takeBest_47 : decode cX7_takeBest 47 = .ok (.iload_n 1, 1) := by decide +kernel
theorem dX7_takeBest_48 : decode cX7_takeBest 48 = .ok (.ireturn, 1) := by decide +kernel
theorem dX7_whyNotTake_0 : decode cX7_whyNotTake 0 = .ok (.aload_n 0, 1) := by decide +kernel
theorem dX7_whyNotTake_1 : decode cX7_whyNotTake 1 = .ok (.iload_n 1, 1) := by decide +kernel
theorem dX7_whyNotTake_2 : decode cX7_whyNotTake 2 = .ok (.invokevirtual 208, 3) := by decide +kernel
theorem dX7_whyNotTake_5 : decode cX7_whyNotTake 5 = .ok (.aload_n 0, 1) := by decide +kernel
theorem dX7_whyNotTake_6 : decode cX7_whyNotTake 6 = .ok (.getfield 33, 3) := by decide +kernel
theorem dX7_whyNotTake_9 : decode cX7_whyNotTake 9 = .ok (.iload_n 1, 1) := by decide +kernel
theorem dX7_whyNotTake_10 : decode cX7_whyNotTake 10 = .ok (.invokevirtual 302, 3) := by decide +kernel
theorem dX7_whyNotTake_13 : decode cX7_whyNotTake 13 = .ok (.ireturn, 1) := by decide +kernel
theorem dX7_taken_0 : decode cX7_taken 0 = .ok (.iload_n 1, 1) := by decide +kernel
theorem dX7_taken_1 : decode cX7_taken 1 = .ok (.ifCond .lt 26, 3) := by decide +kernel
theorem dX7_taken_4 : decode cX7_taken 4 = .ok (.iload_n 1, 1) := by decide +kernel
theorem dX7_taken_5 : decode cX7_taken 5 = .ok (.aload_n 0, 1) := by decide +kernel
theorem dX7_taken_6 : decode cX7_taken 6 = .ok (.getfield 33, 3) := by decide +kernel
theorem dX7_taken_9 : decode cX7_taken 9 = .ok (.getfield 159, 3) := by decide +kernel
theorem dX7_taken_12 : decode cX7_taken 12 = .ok (.if_icmp .ge 15, 3) := by decide +kernel
theorem dX7_taken_15 : decode cX7_taken 15 = .ok (.aload_n 0, 1) := by decide +kernel
theorem dX7_taken_16 : decode cX7_taken 16 = .ok (.getfield 33, 3) := by decide +kernel
theorem dX7_taken_19 : decode cX7_taken 19 = .ok (.getfield 370, 3) := by decide +kernel
theorem dX7_taken_22 : decode cX7_taken 22 = .ok (.iload_n 1, 1) := by decide +kernel
theorem dX7_taken_23 : decode cX7_taken 23 = .ok (.iaload, 1) := by decide +kernel
theorem dX7_taken_24 : decode cX7_taken 24 = .ok (.goto 4, 3) := by decide +kernel
theorem dX7_taken_27 : decode cX7_taken 27 = .ok (.iconst (-1), 1) := by decide +kernel
theorem dX7_taken_28 : decode cX7_taken 28 = .ok (.ireturn, 1) := by decide +kernel
theorem dX7_setOut_0 : decode cX7_setOut 0 = .ok (.aload_n 0, 1) := by decide +kernel
theorem dX7_setOut_1 : decode cX7_setOut 1 = .ok (.iload_n 1, 1) := by decide +kernel
theorem dX7_setOut_2 : decode cX7_setOut 2 = .ok (.invokevirtual 167, 3) := by decide +kernel
theorem dX7_setOut_5 : decode cX7_setOut 5 = .ok (.aload_n 0, 1) := by decide +kernel
theorem dX7_setOut_6 : decode cX7_setOut 6 = .ok (.getfield 33, 3) := by decide +kernel
theorem dX7_setOut_9 : decode cX7_setOut 9 = .ok (.iload_n 1, 1) := by decide +kernel
theorem dX7_setOut_10 : decode cX7_setOut 10 = .ok (.invokevirtual 180, 3) := by decide +kernel
theorem dX7_setOut_13 : decode cX7_setOut 13 = .ok (.iload_n 2, 1) := by decide +kernel
theorem dX7_setOut_14 : decode cX7_setOut 14 = .ok (.if_icmp .ne 14, 3) := by decide +kernel
theorem dX7_setOut_17 : decode cX7_setOut 17 = .ok (.new 79, 3) := by decide +kernel
theorem dX7_setOut_20 : decode cX7_setOut 20 = .ok (.dup, 1) := by decide +kernel
theorem dX7_setOut_21 : decode cX7_setOut 21 = .ok (.ldc_w 373, 3) := by decide +kernel
theorem dX7_setOut_24 : decode cX7_setOut 24 = .ok (.invokespecial 83, 3) := by decide +kernel
theorem dX7_setOut_27 : decode cX7_setOut 27 = .ok (.athrow, 1) := by decide +kernel
theorem dX7_setOut_28 : decode cX7_setOut 28 = .ok (.aload_n 0, 1) := by decide +kernel
theorem dX7_setOut_29 : decode cX7_setOut 29 = .ok (.invokevirtual 114, 3) := by decide +kernel
theorem dX7_setOut_32 : decode cX7_setOut 32 = .ok (.aload_n 0, 1) := by decide +kernel
theorem dX7_setOut_33 : decode cX7_setOut 33 = .ok (.iload_n 1, 1) := by decide +kernel
theorem dX7_setOut_34 : decode cX7_setOut 34 = .ok (.iload_n 2, 1) := by decide +kernel
theorem dX7_setOut_35 : decode cX7_setOut 35 = .ok (.invokevirtual 375, 3) := by decide +kernel
theorem dX7_setOut_38 : decode cX7_setOut 38 = .ok (.aload_n 0, 1) := by decide +kernel
theorem dX7_setOut_39 : decode cX7_setOut 39 = .ok (.getfield 33, 3) := by decide +kernel
theorem dX7_setOut_42 : decode cX7_setOut 42 = .ok (.getfield 147, 3) := by decide +kernel
theorem dX7_setOut_45 : decode cX7_setOut 45 = .ok (.invokestatic 150, 3) := by decide +kernel
theorem dX7_setOut_48 : decode cX7_setOut 48 = .ok (.ireturn, 1) := by decide +kernel
theorem dX7_setChanges_0 : decode cX7_setChanges 0 = .ok (.iload_n 1, 1) := by decide +kernel
theorem dX7_setChanges_1 : decode cX7_setChanges 1 = .ok (.invokestatic 379, 3) := by decide +kernel
theorem dX7_setChanges_4 : decode cX7_setChanges 4 = .ok (.ifCond .ne 14, 3) := by decide +kernel
theorem dX7_setChanges_7 : decode cX7_setChanges 7 = .ok (.new 90, 3) := by decide +kernel
theorem dX7_setChanges_10 : decode cX7_setChanges 10 = .ok (.dup, 1) := by decide +kernel
theorem dX7_setChanges_11 : decode cX7_setChanges 11 = .ok (.ldc_w 382, 3) := by decide +kernel
theorem dX7_setChanges_14 : decode cX7_setChanges 14 = .ok (.invokespecial 94, 3) := by decide +kernel
theorem dX7_setChanges_17 : decode cX7_setChanges 17 = .ok (.athrow, 1) := by decide +kernel
theorem dX7_setChanges_18 : decode cX7_setChanges 18 = .ok (.aload_n 0, 1) := by decide +kernel
theorem dX7_setChanges_19 : decode cX7_setChanges 19 = .ok (.invokevirtual 114, 3) := by decide +kernel
theorem dX7_setChanges_22 : decode cX7_setChanges 22 = .ok (.aload_n 0, 1) := by decide +kernel
theorem dX7_setChanges_23 : decode cX7_setChanges 23 = .ok (.getfield 33, 3) := by decide +kernel
theorem dX7_setChanges_26 : decode cX7_setChanges 26 = .ok (.getfield 137, 3) := by decide +kernel
theorem dX7_setChanges_29 : decode cX7_setChanges 29 = .ok (.istore_n 2, 1) := by decide +kernel
theorem dX7_setChanges_30 : decode cX7_setChanges 30 = .ok (.aload_n 0, 1) := by decide +kernel
theorem dX7_setChanges_31 : decode cX7_setChanges 31 = .ok (.iload_n 1, 1) := by decide +kernel
theorem dX7_setChanges_32 : decode cX7_setChanges 32 = .ok (.invokevirtual 384, 3) := by decide +kernel
theorem dX7_setChanges_35 : decode cX7_setChanges 35 = .ok (.iload_n 2, 1) := by decide +kernel
theorem dX7_setChanges_36 : decode cX7_setChanges 36 = .ok (.ireturn, 1) := by decide +kernel
theorem dX7_report_0 : decode cX7_report 0 = .ok (.aload_n 0, 1) := by decide +kernel
theorem dX7_report_1 : decode cX7_report 1 = .ok (.iconst 0, 1) := by decide +kernel
theorem dX7_report_2 : decode cX7_report 2 = .ok (.putfield 387, 3) := by decide +kernel
theorem dX7_report_5 : decode cX7_report 5 = .ok (.iconst 0, 1) := by decide +kernel
theorem dX7_report_6 : decode cX7_report 6 = .ok (.istore_n 1, 1) := by decide +kernel
theorem dX7_report_7 : decode cX7_report 7 = .ok (.iload_n 1, 1) := by decide +kernel
theorem dX7_report_8 : decode cX7_report 8 = .ok (.aload_n 0, 1) := by decide +kernel
theorem dX7_report_9 : decode cX7_report 9 = .ok (.getfield 33, 3) := by decide +kernel
theorem dX7_report_12 : decode cX7_report 12 = .ok (.getfield 108, 3) := by decide +kernel
theorem dX7_report_15 : decode cX7_report 15 = .ok (.if_icmp .ge 82, 3) := by decide +kernel
theorem dX7_report_18 : decode cX7_report 18 = .ok (.aload_n 0, 1) := by decide +kernel
theorem dX7_report_19 : decode cX7_report 19 = .ok (.getfield 33, 3) := by decide +kernel
theorem dX7_report_22 : decode cX7_report 22 = .ok (.iload_n 1, 1) := by decide +kernel
theorem dX7_report_23 : decode cX7_report 23 = .ok (.invokevirtual 180, 3) := by decide +kernel
theorem dX7_report_26 : decode cX7_report 26 = .ok (.ifCond .eq 9, 3) := by decide +kernel
theorem dX7_report_29 : decode cX7_report 29 = .ok (.aload_n 0, 1) := by decide +kernel
theorem dX7_report_30 : decode cX7_report 30 = .ok (.bipush 45, 2) := by decide +kernel
theorem dX7_report_32 : decode cX7_report 32 = .ok (.invokevirtual 390, 3) := by decide +kernel
theorem dX7_report_35 : decode cX7_report 35 = .ok (.aload_n 0, 1) := by decide +kernel
theorem dX7_report_36 : decode cX7_report 36 = .ok (.aload_n 0, 1) := by decide +kernel
theorem dX7_report_37 : decode cX7_report 37 = .ok (.getfield 33, 3) := by decide +kernel
theorem dX7_report_40 : decode cX7_report 40 = .ok (.getfield 393, 3) := by decide +kernel
theorem dX7_report_43 : decode cX7_report 43 = .ok (.iload_n 1, 1) := by decide +kernel
theorem dX7_report_44 : decode cX7_report 44 = .ok (.laload, 1) := by decide +kernel
theorem dX7_report_45 : decode cX7_report 45 = .ok (.invokevirtual 397, 3) := by decide +kernel
theorem dX7_report_48 : decode cX7_report 48 = .ok (.aload_n 0, 1) := by decide +kernel
theorem dX7_report_49 : decode cX7_report 49 = .ok (.bipush 32, 2) := by decide +kernel
theorem dX7_report_51 : decode cX7_report 51 = .ok (.invokevirtual 390, 3) := by decide +kernel
theorem dX7_report_54 : decode cX7_report 54 = .ok (.iconst 0, 1) := by decide +kernel
theorem dX7_report_55 : decode cX7_report 55 = .ok (.istore_n 2, 1) := by decide +kernel
theorem dX7_report_56 : decode cX7_report 56 = .ok (.iload_n 2, 1) := by decide +kernel
theorem dX7_report_57 : decode cX7_report 57 = .ok (.aload_n 0, 1) := by decide +kernel
theorem dX7_report_58 : decode cX7_report 58 = .ok (.getfield 33, 3) := by decide +kernel
theorem dX7_report_61 : decode cX7_report 61 = .ok (.getfield 170, 3) := by decide +kernel
theorem dX7_report_64 : decode cX7_report 64 = .ok (.iload_n 1, 1) := by decide +kernel
theorem dX7_report_65 : decode cX7_report 65 = .ok (.iaload, 1) := by decide +kernel
theorem dX7_report_66 : decode cX7_report 66 = .ok (.if_icmp .ge 19, 3) := by decide +kernel
theorem dX7_report_69 : decode cX7_report 69 = .ok (.aload_n 0, 1) := by decide +kernel
theorem dX7_report_70 : decode cX7_report 70 = .ok (.aload_n 0, 1) := by decide +kernel
theorem dX7_report_71 : decode cX7_report 71 = .ok (.iload_n 1, 1) := by decide +kernel
theorem dX7_report_72 : decode cX7_report 72 = .ok (.iload_n 2, 1) := by decide +kernel
theorem dX7_report_73 : decode cX7_report 73 = .ok (.invokevirtual 401, 3) := by decide +kernel
theorem dX7_report_76 : decode cX7_report 76 = .ok (.invokevirtual 390, 3) := by decide +kernel
theorem dX7_report_79 : decode cX7_report 79 = .ok (.iinc 2 1, 3) := by decide +kernel
theorem dX7_report_82 : decode cX7_report 82 = .ok (.goto (-26), 3) := by decide +kernel
theorem dX7_report_85 : decode cX7_report 85 = .ok (.aload_n 0, 1) := by decide +kernel
theorem dX7_report_86 : decode cX7_report 86 = .ok (.bipush 10, 2) := by decide +kernel
theorem dX7_report_88 : decode cX7_report 88 = .ok (.invokevirtual 390, 3) := by decide +kernel
theorem dX7_report_91 : decode cX7_report 91 = .ok (.iinc 1 1, 3) := by decide +kernel
theorem dX7_report_94 : decode cX7_report 94 = .ok (.goto (-87), 3) := by decide +kernel
theorem dX7_report_97 : decode cX7_report 97 = .ok (.aload_n 0, 1) := by decide +kernel
theorem dX7_report_98 : decode cX7_report 98 = .ok (.getfield 387, 3) := by decide +kernel
theorem dX7_report_101 : decode cX7_report 101 = .ok (.ireturn, 1) := by decide +kernel
theorem dX7_reportByte_0 : decode cX7_reportByte 0 = .ok (.iload_n 1, 1) := by decide +kernel
theorem dX7_reportByte_1 : decode cX7_reportByte 1 = .ok (.ifCond .lt 11, 3) := by decide +kernel
theorem dX7_reportByte_4 : decode cX7_reportByte 4 = .ok (.iload_n 1, 1) := by decide +kernel
theorem dX7_reportByte_5 : decode cX7_reportByte 5 = .ok (.aload_n 0, 1) := by decide +kernel
theorem dX7_reportByte_6 : decode cX7_reportByte 6 = .ok (.getfield 387, 3) := by decide +kernel
theorem dX7_reportByte_9 : decode cX7_reportByte 9 = .ok (.if_icmp .lt 14, 3) := by decide +kernel
theorem dX7_reportByte_12 : decode cX7_reportByte 12 = .ok (.new 189, 3) := by decide +kernel
theorem dX7_reportByte_15 : decode cX7_reportByte 15 = .ok (.dup, 1) := by decide +kernel
theorem dX7_reportByte_16 : decode cX7_reportByte 16 = .ok (.ldc_w 404, 3) := by decide +kernel
theorem dX7_reportByte_19 : decode cX7_reportByte 19 = .ok (.invokespecial 193, 3) := by decide +kernel
theorem dX7_reportByte_22 : decode cX7_reportByte 22 = .ok (.athrow, 1) := by decide +kernel
theorem dX7_reportByte_23 : decode cX7_reportByte 23 = .ok (.aload_n 0, 1) := by decide +kernel
theorem dX7_reportByte_24 : decode cX7_reportByte 24 = .ok (.getfield 71, 3) := by decide +kernel
theorem dX7_reportByte_27 : decode cX7_reportByte 27 = .ok (.iload_n 1, 1) := by decide +kernel
theorem dX7_reportByte_28 : decode cX7_reportByte 28 = .ok (.baload, 1) := by decide +kernel
theorem dX7_reportByte_29 : decode cX7_reportByte 29 = .ok (.ireturn, 1) := by decide +kernel
theorem dX7_undo_0 : decode cX7_undo 0 = .ok (.aload_n 0, 1) := by decide +kernel
theorem dX7_undo_1 : decode cX7_undo 1 = .ok (.getfield 105, 3) := by decide +kernel
theorem dX7_undo_4 : decode cX7_undo 4 = .ok (.ifCond .ne 5, 3) := by decide +kernel
theorem dX7_undo_7 : decode cX7_undo 7 = .ok (.iconst (-1), 1) := by decide +kernel
theorem dX7_undo_8 : decode cX7_undo 8 = .ok (.ireturn, 1) := by decide +kernel
theorem dX7_undo_9 : decode cX7_undo 9 = .ok (.aload_n 0, 1) := by decide +kernel
theorem dX7_undo_10 : decode cX7_undo 10 = .ok (.dup, 1) := by decide +kernel
theorem dX7_undo_11 : decode cX7_undo 11 = .ok (.getfield 105, 3) := by decide +kernel
theorem dX7_undo_14 : decode cX7_undo 14 = .ok (.iconst 1, 1) := by decide +kernel
theorem dX7_undo_15 : decode cX7_undo 15 = .ok (.isub, 1) := by decide +kernel
theorem dX7_undo_16 : decode cX7_undo 16 = .ok (.putfield 105, 3) := by decide +kernel
theorem dX7_undo_19 : decode cX7_undo 19 = .ok (.aload_n 0, 1) := by decide +kernel
theorem dX7_undo_20 : decode cX7_undo 20 = .ok (.aload_n 0, 1) := by decide +kernel
theorem dX7_undo_21 : decode cX7_undo 21 = .ok (.getfield 43, 3) := by decide +kernel
theorem dX7_undo_24 : decode cX7_undo 24 = .ok (.aload_n 0, 1) := by decide +kernel
theorem dX7_undo_25 : decode cX7_undo 25 = .ok (.getfield 105, 3) := by decide +kernel
theorem dX7_undo_28 : decode cX7_undo 28 = .ok (.aaload, 1) := by decide +kernel
theorem dX7_undo_29 : decode cX7_undo 29 = .ok (.invokevirtual 101, 3) := by decide +kernel
theorem dX7_undo_32 : decode cX7_undo 32 = .ok (.aload_n 0, 1) := by decide +kernel
theorem dX7_undo_33 : decode cX7_undo 33 = .ok (.getfield 105, 3) := by decide +kernel
theorem dX7_undo_36 : decode cX7_undo 36 = .ok (.ireturn, 1) := by decide +kernel
theorem dX7_save_0 : decode cX7_save 0 = .ok (.aload_n 0, 1) := by decide +kernel
theorem dX7_save_1 : decode cX7_save 1 = .ok (.getfield 37, 3) := by decide +kernel
theorem dX7_save_4 : decode cX7_save 4 = .ok (.aload_n 0, 1) := by decide +kernel
theorem dX7_save_5 : decode cX7_save 5 = .ok (.getfield 33, 3) := by decide +kernel
theorem dX7_save_8 : decode cX7_save 8 = .ok (.invokevirtual 305, 3) := by decide +kernel
theorem dX7_save_11 : decode cX7_save 11 = .ok (.aload_n 0, 1) := by decide +kernel
theorem dX7_save_12 : decode cX7_save 12 = .ok (.iconst 1, 1) := by decide +kernel
theorem dX7_save_13 : decode cX7_save 13 = .ok (.putfield 406, 3) := by decide +kernel
theorem dX7_save_16 : decode cX7_save 16 = .ok (.aload_n 0, 1) := by decide +kernel
theorem dX7_save_17 : decode cX7_save 17 = .ok (.getfield 33, 3) := by decide +kernel
theorem dX7_save_20 : decode cX7_save 20 = .ok (.getfield 108, 3) := by decide +kernel
theorem dX7_save_23 : decode cX7_save 23 = .ok (.ireturn, 1) := by decide +kernel
theorem dX7_restore_0 : decode cX7_restore 0 = .ok (.aload_n 0, 1) := by decide +kernel
theorem dX7_restore_1 : decode cX7_restore 1 = .ok (.getfield 406, 3) := by decide +kernel
theorem dX7_restore_4 : decode cX7_restore 4 = .ok (.ifCond .ne 14, 3) := by decide +kernel
theorem dX7_restore_7 : decode cX7_restore 7 = .ok (.new 79, 3) := by decide +kernel
theorem dX7_restore_10 : decode cX7_restore 10 = .ok (.dup, 1) := by decide +kernel
theorem dX7_restore_11 : decode cX7_restore 11 = .ok (.ldc_w 410, 3) := by decide +kernel
theorem dX7_restore_14 : decode cX7_restore 14 = .ok (.invokespecial 83, 3) := by decide +kernel
theorem dX7_restore_17 : decode cX7_restore 17 = .ok (.athrow, 1) := by decide +kernel
theorem dX7_restore_18 : decode cX7_restore 18 = .ok (.aload_n 0, 1) := by decide +kernel
theorem dX7_restore_19 : decode cX7_restore 19 = .ok (.aload_n 0, 1) := by decide +kernel
theorem dX7_restore_20 : decode cX7_restore 20 = .ok (.getfield 37, 3) := by decide +kernel
theorem dX7_restore_23 : decode cX7_restore 23 = .ok (.invokevirtual 101, 3) := by decide +kernel
theorem dX7_restore_26 : decode cX7_restore 26 = .ok (.aload_n 0, 1) := by decide +kernel
theorem dX7_restore_27 : decode cX7_restore 27 = .ok (.iconst 0, 1) := by decide +kernel
theorem dX7_restore_28 : decode cX7_restore 28 = .ok (.putfield 105, 3) := by decide +kernel
theorem dX7_restore_31 : decode cX7_restore 31 = .ok (.aload_n 0, 1) := by decide +kernel
theorem dX7_restore_32 : decode cX7_restore 32 = .ok (.getfield 33, 3) := by decide +kernel
theorem dX7_restore_35 : decode cX7_restore 35 = .ok (.getfield 108, 3) := by decide +kernel
theorem dX7_restore_38 : decode cX7_restore 38 = .ok (.ireturn, 1) := by decide +kernel
theorem dX7_requireRow_0 : decode cX7_requireRow 0 = .ok (.iload_n 1, 1) := by decide +kernel
theorem dX7_requireRow_1 : decode cX7_requireRow 1 = .ok (.ifCond .lt 14, 3) := by decide +kernel
theorem dX7_requireRow_4 : decode cX7_requireRow 4 = .ok (.iload_n 1, 1) := by decide +kernel
theorem dX7_requireRow_5 : decode cX7_requireRow 5 = .ok (.aload_n 0, 1) := by decide +kernel
theorem dX7_requireRow_6 : decode cX7_requireRow 6 = .ok (.getfield 33, 3) := by decide +kernel
theorem dX7_requireRow_9 : decode cX7_requireRow 9 = .ok (.getfield 108, 3) := by decide +kernel
theorem dX7_requireRow_12 : decode cX7_requireRow 12 = .ok (.if_icmp .lt 14, 3) := by decide +kernel
theorem dX7_requireRow_15 : decode cX7_requireRow 15 = .ok (.new 189, 3) := by decide +kernel
theorem dX7_requireRow_18 : decode cX7_requireRow 18 = .ok (.dup, 1) := by decide +kernel
theorem dX7_requireRow_19 : decode cX7_requireRow 19 = .ok (.ldc_w 412, 3) := by decide +kernel
theorem dX7_requireRow_22 : decode cX7_requireRow 22 = .ok (.invokespecial 193, 3) := by decide +kernel
theorem dX7_requireRow_25 : decode cX7_requireRow 25 = .ok (.athrow, 1) := by decide +kernel
theorem dX7_requireRow_26 : decode cX7_requireRow 26 = .ok (.return_, 1) := by decide +kernel
theorem dX7_requireWord_0 : decode cX7_requireWord 0 = .ok (.iload_n 1, 1) := by decide +kernel
theorem dX7_requireWord_1 : decode cX7_requireWord 1 = .ok (.ifCond .lt 14, 3) := by decide +kernel
theorem dX7_requireWord_4 : decode cX7_requireWord 4 = .ok (.iload_n 1, 1) := by decide +kernel
theorem dX7_requireWord_5 : decode cX7_requireWord 5 = .ok (.aload_n 0, 1) := by decide +kernel
theorem dX7_requireWord_6 : decode cX7_requireWord 6 = .ok (.getfield 33, 3) := by decide +kernel
theorem dX7_requireWord_9 : decode cX7_requireWord 9 = .ok (.invokevirtual 140, 3) := by decide +kernel
theorem dX7_requireWord_12 : decode cX7_requireWord 12 = .ok (.if_icmp .lt 14, 3) := by decide +kernel
theorem dX7_requireWord_15 : decode cX7_requireWord 15 = .ok (.new 189, 3) := by decide +kernel
theorem dX7_requireWord_18 : decode cX7_requireWord 18 = .ok (.dup, 1) := by decide +kernel
theorem dX7_requireWord_19 : decode cX7_requireWord 19 = .ok (.ldc_w 414, 3) := by decide +kernel
theorem dX7_requireWord_22 : decode cX7_requireWord 22 = .ok (.invokespecial 193, 3) := by decide +kernel
theorem dX7_requireWord_25 : decode cX7_requireWord 25 = .ok (.athrow, 1) := by decide +kernel
theorem dX7_requireWord_26 : decode cX7_requireWord 26 = .ok (.return_, 1) := by decide +kernel
theorem dX7_searched_0 : decode cX7_searched 0 = .ok (.aload_n 0, 1) := by decide +kernel
theorem dX7_searched_1 : decode cX7_searched 1 = .ok (.getfield 50, 3) := by decide +kernel
theorem dX7_searched_4 : decode cX7_searched 4 = .ok (.aload_n 0, 1) := by decide +kernel
theorem dX7_searched_5 : decode cX7_searched 5 = .ok (.getfield 33, 3) := by decide +kernel
theorem dX7_searched_8 : decode cX7_searched 8 = .ok (.invokevirtual 311, 3) := by decide +kernel
theorem dX7_searched_11 : decode cX7_searched 11 = .ok (.aload_n 0, 1) := by decide +kernel
theorem dX7_searched_12 : decode cX7_searched 12 = .ok (.getfield 50, 3) := by decide +kernel
theorem dX7_searched_15 : decode cX7_searched 15 = .ok (.areturn, 1) := by decide +kernel
theorem dX7_replaceBoard_0 : decode cX7_replaceBoard 0 = .ok (.aload_n 0, 1) := by decide +kernel
theorem dX7_replaceBoard_1 : decode cX7_replaceBoard 1 = .ok (.getfield 33, 3) := by decide +kernel
theorem dX7_replaceBoard_4 : decode cX7_replaceBoard 4 = .ok (.aload_n 1, 1) := by decide +kernel
theorem dX7_replaceBoard_5 : decode cX7_replaceBoard 5 = .ok (.invokevirtual 305, 3) := by decide +kernel
theorem dX7_replaceBoard_8 : decode cX7_replaceBoard 8 = .ok (.aload_n 0, 1) := by decide +kernel
theorem dX7_replaceBoard_9 : decode cX7_replaceBoard 9 = .ok (.invokevirtual 365, 3) := by decide +kernel
theorem dX7_replaceBoard_12 : decode cX7_replaceBoard 12 = .ok (.return_, 1) := by decide +kernel
theorem dX7_forgetSearches_0 : decode cX7_forgetSearches 0 = .ok (.aload_n 0, 1) := by decide +kernel
theorem dX7_forgetSearches_1 : decode cX7_forgetSearches 1 = .ok (.getfield 50, 3) := by decide +kernel
theorem dX7_forgetSearches_4 : decode cX7_forgetSearches 4 = .ok (.invokevirtual 416, 3) := by decide +kernel
theorem dX7_forgetSearches_7 : decode cX7_forgetSearches 7 = .ok (.aload_n 0, 1) := by decide +kernel
theorem dX7_forgetSearches_8 : decode cX7_forgetSearches 8 = .ok (.getfield 54, 3) := by decide +kernel
theorem dX7_forgetSearches_11 : decode cX7_forgetSearches 11 = .ok (.invokevirtual 416, 3) := by decide +kernel
theorem dX7_forgetSearches_14 : decode cX7_forgetSearches 14 = .ok (.return_, 1) := by decide +kernel
theorem dX7_keepPast_0 : decode cX7_keepPast 0 = .ok (.aload_n 0, 1) := by decide +kernel
theorem dX7_keepPast_1 : decode cX7_keepPast 1 = .ok (.getfield 105, 3) := by decide +kernel
theorem dX7_keepPast_4 : decode cX7_keepPast 4 = .ok (.bipush 6, 2) := by decide +kernel
theorem dX7_keepPast_6 : decode cX7_keepPast 6 = .ok (.if_icmp .ne 53, 3) := by decide +kernel
theorem dX7_keepPast_9 : decode cX7_keepPast 9 = .ok (.aload_n 0, 1) := by decide +kernel
theorem dX7_keepPast_10 : decode cX7_keepPast 10 = .ok (.getfield 43, 3) := by decide +kernel
theorem dX7_keepPast_13 : decode cX7_keepPast 13 = .ok (.iconst 0, 1) := by decide +kernel
theorem dX7_keepPast_14 : decode cX7_keepPast 14 = .ok (.aaload, 1) := by decide +kernel
theorem dX7_keepPast_15 : decode cX7_keepPast 15 = .ok (.astore_n 1, 1) := by decide +kernel
theorem dX7_keepPast_16 : decode cX7_keepPast 16 = .ok (.iconst 1, 1) := by decide +kernel
theorem dX7_keepPast_17 : decode cX7_keepPast 17 = .ok (.istore_n 2, 1) := by decide +kernel
theorem dX7_keepPast_18 : decode cX7_keepPast 18 = .ok (.iload_n 2, 1) := by decide +kernel
theorem dX7_keepPast_19 : decode cX7_keepPast 19 = .ok (.bipush 6, 2) := by decide +kernel
theorem dX7_keepPast_21 : decode cX7_keepPast 21 = .ok (.if_icmp .ge 23, 3) := by decide +kernel
theorem dX7_keepPast_24 : decode cX7_keepPast 24 = .ok (.aload_n 0, 1) := by decide +kernel
theorem dX7_keepPast_25 : decode cX7_keepPast 25 = .ok (.getfield 43, 3) := by decide +kernel
theorem dX7_keepPast_28 : decode cX7_keepPast 28 = .ok (.iload_n 2, 1) := by decide +kernel
theorem dX7_keepPast_29 : decode cX7_keepPast 29 = .ok (.iconst 1, 1) := by decide +kernel
theorem dX7_keepPast_30 : decode cX7_keepPast 30 = .ok (.isub, 1) := by decide +kernel
theorem dX7_keepPast_31 : decode cX7_keepPast 31 = .ok (.aload_n 0, 1) := by decide +kernel
theorem dX7_keepPast_32 : decode cX7_keepPast 32 = .ok (.getfield 43, 3) := by decide +kernel
theorem dX7_keepPast_35 : decode cX7_keepPast 35 = .ok (.iload_n 2, 1) := by decide +kernel
theorem dX7_keepPast_36 : decode cX7_keepPast 36 = .ok (.aaload, 1) := by decide +kernel
theorem dX7_keepPast_37 : decode cX7_keepPast 37 = .ok (.aastore, 1) := by decide +kernel
theorem dX7_keepPast_38 : decode cX7_keepPast 38 = .ok (.iinc 2 1, 3) := by decide +kernel
theorem dX7_keepPast_41 : decode cX7_keepPast 41 = .ok (.goto (-23), 3) := by decide +kernel
theorem dX7_keepPast_44 : decode cX7_keepPast 44 = .ok (.aload_n 0, 1) := by decide +kernel
theorem dX7_keepPast_45 : decode cX7_keepPast 45 = .ok (.iconst 5, 1) := by decide +kernel
theorem dX7_keepPast_46 : decode cX7_keepPast 46 = .ok (.putfield 105, 3) := by decide +kernel
theorem dX7_keepPast_49 : decode cX7_keepPast 49 = .ok (.aload_n 0, 1) := by decide +kernel
theorem dX7_keepPast_50 : decode cX7_keepPast 50 = .ok (.getfield 43, 3) := by decide +kernel
theorem dX7_keepPast_53 : decode cX7_keepPast 53 = .ok (.aload_n 0, 1) := by decide +kernel
theorem dX7_keepPast_54 : decode cX7_keepPast 54 = .ok (.getfield 105, 3) := by decide +kernel
theorem dX7_keepPast_57 : decode cX7_keepPast 57 = .ok (.aload_n 1, 1) := by decide +kernel
theorem dX7_keepPast_58 : decode cX7_keepPast 58 = .ok (.aastore, 1) := by decide +kernel
theorem dX7_keepPast_59 : decode cX7_keepPast 59 = .ok (.aload_n 0, 1) := by decide +kernel
theorem dX7_keepPast_60 : decode cX7_keepPast 60 = .ok (.getfield 43, 3) := by decide +kernel
theorem dX7_keepPast_63 : decode cX7_keepPast 63 = .ok (.aload_n 0, 1) := by decide +kernel
theorem dX7_keepPast_64 : decode cX7_keepPast 64 = .ok (.getfield 105, 3) := by decide +kernel
theorem dX7_keepPast_67 : decode cX7_keepPast 67 = .ok (.aaload, 1) := by decide +kernel
theorem dX7_keepPast_68 : decode cX7_keepPast 68 = .ok (.aload_n 0, 1) := by decide +kernel
theorem dX7_keepPast_69 : decode cX7_keepPast 69 = .ok (.getfield 33, 3) := by decide +kernel
theorem dX7_keepPast_72 : decode cX7_keepPast 72 = .ok (.invokevirtual 305, 3) := by decide +kernel
theorem dX7_keepPast_75 : decode cX7_keepPast 75 = .ok (.aload_n 0, 1) := by decide +kernel
theorem dX7_keepPast_76 : decode cX7_keepPast 76 = .ok (.dup, 1) := by decide +kernel
theorem dX7_keepPast_77 : decode cX7_keepPast 77 = .ok (.getfield 105, 3) := by decide +kernel
theorem dX7_keepPast_80 : decode cX7_keepPast 80 = .ok (.iconst 1, 1) := by decide +kernel
theorem dX7_keepPast_81 : decode cX7_keepPast 81 = .ok (.iadd, 1) := by decide +kernel
theorem dX7_keepPast_82 : decode cX7_keepPast 82 = .ok (.putfield 105, 3) := by decide +kernel
theorem dX7_keepPast_85 : decode cX7_keepPast 85 = .ok (.return_, 1) := by decide +kernel
theorem dX7_agreementFrom_0 : decode cX7_agreementFrom 0 = .ok (.aload_n 0, 1) := by decide +kernel
theorem dX7_agreementFrom_1 : decode cX7_agreementFrom 1 = .ok (.getfield 40, 3) := by decide +kernel
theorem dX7_agreementFrom_4 : decode cX7_agreementFrom 4 = .ok (.aload_n 0, 1) := by decide +kernel
theorem dX7_agreementFrom_5 : decode cX7_agreementFrom 5 = .ok (.getfield 33, 3) := by decide +kernel
theorem dX7_agreementFrom_8 : decode cX7_agreementFrom 8 = .ok (.invokevirtual 305, 3) := by decide +kernel
theorem dX7_agreementFrom_11 : decode cX7_agreementFrom 11 = .ok (.iconst 0, 1) := by decide +kernel
theorem dX7_agreementFrom_12 : decode cX7_agreementFrom 12 = .ok (.istore_n 3, 1) := by decide +kernel
theorem dX7_agreementFrom_13 : decode cX7_agreementFrom 13 = .ok (.iload_n 3, 1) := by decide +kernel
theorem dX7_agreementFrom_14 : decode cX7_agreementFrom 14 = .ok (.aload_n 0, 1) := by decide +kernel
theorem dX7_agreementFrom_15 : decode cX7_agreementFrom 15 = .ok (.getfield 40, 3) := by decide +kernel
theorem dX7_agreementFrom_18 : decode cX7_agreementFrom 18 = .ok (.getfield 108, 3) := by decide +kernel
theorem dX7_agreementFrom_21 : decode cX7_agreementFrom 21 = .ok (.if_icmp .ge 19, 3) := by decide +kernel
theorem dX7_agreementFrom_24 : decode cX7_agreementFrom 24 = .ok (.aload_n 0, 1) := by decide +kernel
theorem dX7_agreementFrom_25 : decode cX7_agreementFrom 25 = .ok (.getfield 40, 3) := by decide +kernel
theorem dX7_agreementFrom_28 : decode cX7_agreementFrom 28 = .ok (.getfield 177, 3) := by decide +kernel
theorem dX7_agreementFrom_31 : decode cX7_agreementFrom 31 = .ok (.iload_n 3, 1) := by decide +kernel
theorem dX7_agreementFrom_32 : decode cX7_agreementFrom 32 = .ok (.iconst (-1), 1) := by decide +kernel
theorem dX7_agreementFrom_33 : decode cX7_agreementFrom 33 = .ok (.iastore, 1) := by decide +kernel
theorem dX7_agreementFrom_34 : decode cX7_agreementFrom 34 = .ok (.iinc 3 1, 3) := by decide +kernel
theorem dX7_agreementFrom_37 : decode cX7_agreementFrom 37 = .ok (.goto (-24), 3) := by decide +kernel
theorem dX7_agreementFrom_40 : decode cX7_agreementFrom 40 = .ok (.aload_n 0, 1) := by decide +kernel
theorem dX7_agreementFrom_41 : decode cX7_agreementFrom 41 = .ok (.getfield 40, 3) := by decide +kernel
theorem dX7_agreementFrom_44 : decode cX7_agreementFrom 44 = .ok (.getfield 177, 3) := by decide +kernel
theorem dX7_agreementFrom_47 : decode cX7_agreementFrom 47 = .ok (.iload_n 1, 1) := by decide +kernel
theorem dX7_agreementFrom_48 : decode cX7_agreementFrom 48 = .ok (.iload_n 2, 1) := by decide +kernel
theorem dX7_agreementFrom_49 : decode cX7_agreementFrom 49 = .ok (.iastore, 1) := by decide +kernel
theorem dX7_agreementFrom_50 : decode cX7_agreementFrom 50 = .ok (.aload_n 0, 1) := by decide +kernel
theorem dX7_agreementFrom_51 : decode cX7_agreementFrom 51 = .ok (.getfield 60, 3) := by decide +kernel
theorem dX7_agreementFrom_54 : decode cX7_agreementFrom 54 = .ok (.aload_n 0, 1) := by decide +kernel
theorem dX7_agreementFrom_55 : decode cX7_agreementFrom 55 = .ok (.getfield 40, 3) := by decide +kernel
theorem dX7_agreementFrom_58 : decode cX7_agreementFrom 58 = .ok (.bipush 50, 2) := by decide +kernel
theorem dX7_agreementFrom_60 : decode cX7_agreementFrom 60 = .ok (.invokevirtual 360, 3) := by decide +kernel
theorem dX7_agreementFrom_63 : decode cX7_agreementFrom 63 = .ok (.pop, 1) := by decide +kernel
theorem dX7_agreementFrom_64 : decode cX7_agreementFrom 64 = .ok (.aload_n 0, 1) := by decide +kernel
theorem dX7_agreementFrom_65 : decode cX7_agreementFrom 65 = .ok (.getfield 60, 3) := by decide +kernel
theorem dX7_agreementFrom_68 : decode cX7_agreementFrom 68 = .ok (.aload_n 0, 1) := by decide +kernel
theorem dX7_agreementFrom_69 : decode cX7_agreementFrom 69 = .ok (.getfield 40, 3) := by decide +kernel
theorem dX7_agreementFrom_72 : decode cX7_agreementFrom 72 = .ok (.invokevirtual 326, 3) := by decide +kernel
theorem dX7_agreementFrom_75 : decode cX7_agreementFrom 75 = .ok (.ireturn, 1) := by decide +kernel
theorem dX7_isCountOfImproves_0 : decode cX7_isCountOfImproves 0 = .ok (.iload_n 0, 1) := by decide +kernel
theorem dX7_isCountOfImproves_1 : decode cX7_isCountOfImproves 1 = .ok (.iconst 1, 1) := by decide +kernel
theorem dX7_isCountOfImproves_2 : decode cX7_isCountOfImproves 2 = .ok (.if_icmp .lt 13, 3) := by decide +kernel
theorem dX7_isCountOfImproves_5 : decode cX7_isCountOfImproves 5 = .ok (.iload_n 0, 1) := by decide +kernel
theorem dX7_isCountOfImproves_6 : decode cX7_isCountOfImproves 6 = .ok (.bipush 50, 2) := by decide +kernel
theorem dX7_isCountOfImproves_8 : decode cX7_isCountOfImproves 8 = .ok (.if_icmp .gt 7, 3) := by decide +kernel
theorem dX7_isCountOfImproves_11 : decode cX7_isCountOfImproves 11 = .ok (.iconst 1, 1) := by decide +kernel
theorem dX7_isCountOfImproves_12 : decode cX7_isCountOfImproves 12 = .ok (.goto 4, 3) := by decide +kernel
theorem dX7_isCountOfImproves_15 : decode cX7_isCountOfImproves 15 = .ok (.iconst 0, 1) := by decide +kernel
theorem dX7_isCountOfImproves_16 : decode cX7_isCountOfImproves 16 = .ok (.ireturn, 1) := by decide +kernel
theorem dX7_isCountOfChanges_0 : decode cX7_isCountOfChanges 0 = .ok (.iload_n 0, 1) := by decide +kernel
theorem dX7_isCountOfChanges_1 : decode cX7_isCountOfChanges 1 = .ok (.ifCond .lt 12, 3) := by decide +kernel
theorem dX7_isCountOfChanges_4 : decode cX7_isCountOfChanges 4 = .ok (.iload_n 0, 1) := by decide +kernel
theorem dX7_isCountOfChanges_5 : decode cX7_isCountOfChanges 5 = .ok (.iconst 3, 1) := by decide +kernel
theorem dX7_isCountOfChanges_6 : decode cX7_isCountOfChanges 6 = .ok (.if_icmp .gt 7, 3) := by decide +kernel
theorem dX7_isCountOfChanges_9 : decode cX7_isCountOfChanges 9 = .ok (.iconst 1, 1) := by decide +kernel
theorem dX7_isCountOfChanges_10 : decode cX7_isCountOfChanges 10 = .ok (.goto 4, 3) := by decide +kernel
theorem dX7_isCountOfChanges_13 : decode cX7_isCountOfChanges 13 = .ok (.iconst 0, 1) := by decide +kernel
theorem dX7_isCountOfChanges_14 : decode cX7_isCountOfChanges 14 = .ok (.ireturn, 1) := by decide +kernel
theorem dX7_putOut_0 : decode cX7_putOut 0 = .ok (.aload_n 0, 1) := by decide +kernel
theorem dX7_putOut_1 : decode cX7_putOut 1 = .ok (.invokevirtual 365, 3) := by decide +kernel
theorem dX7_putOut_4 : decode cX7_putOut 4 = .ok (.aload_n 0, 1) := by decide +kernel
theorem dX7_putOut_5 : decode cX7_putOut 5 = .ok (.getfield 33, 3) := by decide +kernel
theorem dX7_putOut_8 : decode cX7_putOut 8 = .ok (.iload_n 2, 1) := by decide +kernel
theorem dX7_putOut_9 : decode cX7_putOut 9 = .ok (.ifCond .eq 17, 3) := by decide +kernel
theorem dX7_putOut_12 : decode cX7_putOut 12 = .ok (.aload_n 0, 1) := by decide +kernel
theorem dX7_putOut_13 : decode cX7_putOut 13 = .ok (.getfield 33, 3) := by decide +kernel
theorem dX7_putOut_16 : decode cX7_putOut 16 = .ok (.getfield 147, 3) := by decide +kernel
theorem dX7_putOut_19 : decode cX7_putOut 19 = .ok (.iconst 1, 1) := by decide +kernel
theorem dX7_putOut_20 : decode cX7_putOut 20 = .ok (.iload_n 1, 1) := by decide +kernel
theorem dX7_putOut_21 : decode cX7_putOut 21 = .ok (.ishl, 1) := by decide +kernel
theorem dX7_putOut_22 : decode cX7_putOut 22 = .ok (.ior, 1) := by decide +kernel
theorem dX7_putOut_23 : decode cX7_putOut 23 = .ok (.goto 16, 3) := by decide +kernel
theorem dX7_putOut_26 : decode cX7_putOut 26 = .ok (.aload_n 0, 1) := by decide +kernel
theorem dX7_putOut_27 : decode cX7_putOut 27 = .ok (.getfield 33, 3) := by decide +kernel
theorem dX7_putOut_30 : decode cX7_putOut 30 = .ok (.getfield 147, 3) := by decide +kernel
theorem dX7_putOut_33 : decode cX7_putOut 33 = .ok (.iconst 1, 1) := by decide +kernel
theorem dX7_putOut_34 : decode cX7_putOut 34 = .ok (.iload_n 1, 1) := by decide +kernel
theorem dX7_putOut_35 : decode cX7_putOut 35 = .ok (.ishl, 1) := by decide +kernel
theorem dX7_putOut_36 : decode cX7_putOut 36 = .ok (.iconst (-1), 1) := by decide +kernel
theorem dX7_putOut_37 : decode cX7_putOut 37 = .ok (.ixor, 1) := by decide +kernel
theorem dX7_putOut_38 : decode cX7_putOut 38 = .ok (.iand, 1) := by decide +kernel
theorem dX7_putOut_39 : decode cX7_putOut 39 = .ok (.putfield 147, 3) := by decide +kernel
theorem dX7_putOut_42 : decode cX7_putOut 42 = .ok (.aload_n 0, 1) := by decide +kernel
theorem dX7_putOut_43 : decode cX7_putOut 43 = .ok (.getfield 33, 3) := by decide +kernel
theorem dX7_putOut_46 : decode cX7_putOut 46 = .ok (.getfield 177, 3) := by decide +kernel
theorem dX7_putOut_49 : decode cX7_putOut 49 = .ok (.iload_n 1, 1) := by decide +kernel
theorem dX7_putOut_50 : decode cX7_putOut 50 = .ok (.iconst (-1), 1) := by decide +kernel
theorem dX7_putOut_51 : decode cX7_putOut 51 = .ok (.iastore, 1) := by decide +kernel
theorem dX7_putOut_52 : decode cX7_putOut 52 = .ok (.return_, 1) := by decide +kernel
theorem dX7_putChanges_0 : decode cX7_putChanges 0 = .ok (.aload_n 0, 1) := by decide +kernel
theorem dX7_putChanges_1 : decode cX7_putChanges 1 = .ok (.invokevirtual 365, 3) := by decide +kernel
theorem dX7_putChanges_4 : decode cX7_putChanges 4 = .ok (.aload_n 0, 1) := by decide +kernel
theorem dX7_putChanges_5 : decode cX7_putChanges 5 = .ok (.getfield 33, 3) := by decide +kernel
theorem dX7_putChanges_8 : decode cX7_putChanges 8 = .ok (.iload_n 1, 1) := by decide +kernel
theorem dX7_putChanges_9 : decode cX7_putChanges 9 = .ok (.putfield 137, 3) := by decide +kernel
theorem dX7_putChanges_12 : decode cX7_putChanges 12 = .ok (.return_, 1) := by decide +kernel
theorem dX7_runCommands_0 : decode cX7_runCommands 0 = .ok (.iload_n 3, 1) := by decide +kernel
theorem dX7_runCommands_1 : decode cX7_runCommands 1 = .ok (.iconst 2, 1) := by decide +kernel
theorem dX7_runCommands_2 : decode cX7_runCommands 2 = .ok (.if_icmp .le 5, 3) := by decide +kernel
theorem dX7_runCommands_5 : decode cX7_runCommands 5 = .ok (.iconst 0, 1) := by decide +kernel
theorem dX7_runCommands_6 : decode cX7_runCommands 6 = .ok (.ireturn, 1) := by decide +kernel
theorem dX7_runCommands_7 : decode cX7_runCommands 7 = .ok (.iload_n 1, 1) := by decide +kernel
theorem dX7_runCommands_8 : decode cX7_runCommands 8 = .ok (.istore 4, 2) := by decide +kernel
theorem dX7_runCommands_10 : decode cX7_runCommands 10 = .ok (.iconst 0, 1) := by decide +kernel
theorem dX7_runCommands_11 : decode cX7_runCommands 11 = .ok (.istore 5, 2) := by decide +kernel
theorem dX7_runCommands_13 : decode cX7_runCommands 13 = .ok (.iload 5, 2) := by decide +kernel
theorem dX7_runCommands_15 : decode cX7_runCommands 15 = .ok (.bipush 30, 2) := by decide +kernel
theorem dX7_runCommands_17 : decode cX7_runCommands 17 = .ok (.if_icmp .ge 123, 3) := by decide +kernel
theorem dX7_runCommands_20 : decode cX7_runCommands 20 = .ok (.iload 4, 2) := by decide +kernel
theorem dX7_runCommands_22 : decode cX7_runCommands 22 = .ok (.iload_n 2, 1) := by decide +kernel
theorem dX7_runCommands_23 : decode cX7_runCommands 23 = .ok (.if_icmp .ge 117, 3) := by decide +kernel
theorem dX7_runCommands_26 : decode cX7_runCommands 26 = .ok (.aload_n 0, 1) := by decide +kernel
theorem dX7_runCommands_27 : decode cX7_runCommands 27 = .ok (.getfield 26, 3) := by decide +kernel
theorem dX7_runCommands_30 : decode cX7_runCommands 30 = .ok (.getfield 419, 3) := by decide +kernel
theorem dX7_runCommands_33 : decode cX7_runCommands 33 = .ok (.iload 4, 2) := by decide +kernel
theorem dX7_runCommands_35 : decode cX7_runCommands 35 = .ok (.iaload, 1) := by decide +kernel
theorem dX7_runCommands_36 : decode cX7_runCommands 36 = .ok (.bipush 10, 2) := by decide +kernel
theorem dX7_runCommands_38 : decode cX7_runCommands 38 = .ok (.if_icmp .ne 55, 3) := by decide +kernel
theorem dX7_runCommands_41 : decode cX7_runCommands 41 = .ok (.iconst 0, 1) := by decide +kernel
theorem dX7_runCommands_42 : decode cX7_runCommands 42 = .ok (.istore 6, 2) := by decide +kernel
theorem dX7_runCommands_44 : decode cX7_runCommands 44 = .ok (.iload 6, 2) := by decide +kernel
theorem dX7_runCommands_46 : decode cX7_runCommands 46 = .ok (.aload_n 0, 1) := by decide +kernel
theorem dX7_runCommands_47 : decode cX7_runCommands 47 = .ok (.getfield 26, 3) := by decide +kernel
theorem dX7_runCommands_50 : decode cX7_runCommands 50 = .ok (.getfield 422, 3) := by decide +kernel
theorem dX7_runCommands_53 : decode cX7_runCommands 53 = .ok (.iload 4, 2) := by decide +kernel
theorem dX7_runCommands_55 : decode cX7_runCommands 55 = .ok (.iaload, 1) := by decide +kernel
theorem dX7_runCommands_56 : decode cX7_runCommands 56 = .ok (.if_icmp .ge 34, 3) := by decide +kernel
theorem dX7_runCommands_59 : decode cX7_runCommands 59 = .ok (.aload_n 0, 1) := by decide +kernel
theorem dX7_runCommands_60 : decode cX7_runCommands 60 = .ok (.iload 4, 2) := by decide +kernel
theorem dX7_runCommands_62 : decode cX7_runCommands 62 = .ok (.iconst 1, 1) := by decide +kernel
theorem dX7_runCommands_63 : decode cX7_runCommands 63 = .ok (.iadd, 1) := by decide +kernel
theorem dX7_runCommands_64 : decode cX7_runCommands 64 = .ok (.aload_n 0, 1) := by decide +kernel
theorem dX7_runCommands_65 : decode cX7_runCommands 65 = .ok (.getfield 26, 3) := by decide +kernel
theorem dX7_runCommands_68 : decode cX7_runCommands 68 = .ok (.iload 4, 2) := by decide +kernel
theorem dX7_runCommands_70 : decode cX7_runCommands 70 = .ok (.invokevirtual 425, 3) := by decide +kernel
theorem dX7_runCommands_73 : decode cX7_runCommands 73 = .ok (.iload_n 3, 1) := by decide +kernel
theorem dX7_runCommands_74 : decode cX7_runCommands 74 = .ok (.iconst 1, 1) := by decide +kernel
theorem dX7_runCommands_75 : decode cX7_runCommands 75 = .ok (.iadd, 1) := by decide +kernel
theorem dX7_runCommands_76 : decode cX7_runCommands 76 = .ok (.invokevirtual 121, 3) := by decide +kernel
theorem dX7_runCommands_79 : decode cX7_runCommands 79 = .ok (.ifCond .ne 5, 3) := by decide +kernel
theorem dX7_runCommands_82 : decode cX7_runCommands 82 = .ok (.iconst 0, 1) := by decide +kernel
theorem dX7_runCommands_83 : decode cX7_runCommands 83 = .ok (.ireturn, 1) := by decide +kernel
theorem dX7_runCommands_84 : decode cX7_runCommands 84 = .ok (.iinc 6 1, 3) := by decide +kernel
theorem dX7_runCommands_87 : decode cX7_runCommands 87 = .ok (.goto (-43), 3) := by decide +kernel
theorem dX7_runCommands_90 : decode cX7_runCommands 90 = .ok (.goto 33, 3) := by decide +kernel
theorem dX7_runCommands_93 : decode cX7_runCommands 93 = .ok (.aload_n 0, 1) := by decide +kernel
theorem dX7_runCommands_94 : decode cX7_runCommands 94 = .ok (.getfield 117, 3) := by decide +kernel
theorem dX7_runCommands_97 : decode cX7_runCommands 97 = .ok (.bipush 40, 2) := by decide +kernel
theorem dX7_runCommands_99 : decode cX7_runCommands 99 = .ok (.if_icmp .eq 12, 3) := by decide +kernel
theorem dX7_runCommands_102 : decode cX7_runCommands 102 = .ok (.aload_n 0, 1) := by decide +kernel
theorem dX7_runCommands_103 : decode cX7_runCommands 103 = .ok (.iload 4, 2) := by decide +kernel
theorem dX7_runCommands_105 : decode cX7_runCommands 105 = .ok (.invokevirtual 428, 3) := by decide +kernel
theorem dX7_runCommands_108 : decode cX7_runCommands 108 = .ok (.ifCond .ne 5, 3) := by decide +kernel
theorem dX7_runCommands_111 : decode cX7_runCommands 111 = .ok (.iconst 0, 1) := by decide +kernel
theorem dX7_runCommands_112 : decode cX7_runCommands 112 = .ok (.ireturn, 1) := by decide +kernel
theorem dX7_runCommands_113 : decode cX7_runCommands 113 = .ok (.aload_n 0, 1) := by decide +kernel
theorem dX7_runCommands_114 : decode cX7_runCommands 114 = .ok (.dup, 1) := by decide +kernel
theorem dX7_runCommands_115 : decode cX7_runCommands 115 = .ok (.getfield 117, 3) := by decide +kernel
theorem dX7_runCommands_118 : decode cX7_runCommands 118 = .ok (.iconst 1, 1) := by decide +kernel
theorem dX7_runCommands_119 : decode cX7_runCommands 119 = .ok (.iadd, 1) := by decide +kernel
theorem dX7_runCommands_120 : decode cX7_runCommands 120 = .ok (.putfield 117, 3) := by decide +kernel
theorem dX7_runCommands_123 : decode cX7_runCommands 123 = .ok (.aload_n 0, 1) := by decide +kernel
theorem dX7_runCommands_124 : decode cX7_runCommands 124 = .ok (.getfield 26, 3) := by decide +kernel
theorem dX7_runCommands_127 : decode cX7_runCommands 127 = .ok (.iload 4, 2) := by decide +kernel
theorem dX7_runCommands_129 : decode cX7_runCommands 129 = .ok (.invokevirtual 425, 3) := by decide +kernel
theorem dX7_runCommands_132 : decode cX7_runCommands 132 = .ok (.istore 4, 2) := by decide +kernel
theorem dX7_runCommands_134 : decode cX7_runCommands 134 = .ok (.iinc 5 1, 3) := by decide +kernel
theorem dX7_runCommands_137 : decode cX7_runCommands 137 = .ok (.goto (-124), 3) := by decide +kernel
theorem dX7_runCommands_140 : decode cX7_runCommands 140 = .ok (.iconst 1, 1) := by decide +kernel
theorem dX7_runCommands_141 : decode cX7_runCommands 141 = .ok (.ireturn, 1) := by decide +kernel
theorem dX7_runCommand_0 : decode cX7_runCommand 0 = .ok (.aload_n 0, 1) := by decide +kernel
theorem dX7_runCommand_1 : decode cX7_runCommand 1 = .ok (.getfield 26, 3) := by decide +kernel
theorem dX7_runCommand_4 : decode cX7_runCommand 4 = .ok (.getfield 431, 3) := by decide +kernel
theorem dX7_runCommand_7 : decode cX7_runCommand 7 = .ok (.iload_n 1, 1) := by decide +kernel
theorem dX7_runCommand_8 : decode cX7_runCommand 8 = .ok (.iaload, 1) := by decide +kernel
theorem dX7_runCommand_9 : decode cX7_runCommand 9 = .ok (.istore_n 2, 1) := by decide +kernel
theorem dX7_runCommand_10 : decode cX7_runCommand 10 = .ok (.aload_n 0, 1) := by decide +kernel
theorem dX7_runCommand_11 : decode cX7_runCommand 11 = .ok (.getfield 26, 3) := by decide +kernel
theorem dX7_runCommand_14 : decode cX7_runCommand 14 = .ok (.getfield 422, 3) := by decide +kernel
theorem dX7_runCommand_17 : decode cX7_runCommand 17 = .ok (.iload_n 1, 1) := by decide +kernel
theorem dX7_runCommand_18 : decode cX7_runCommand 18 = .ok (.iaload, 1) := by decide +kernel
theorem dX7_runCommand_19 : decode cX7_runCommand 19 = .ok (.istore_n 3, 1) := by decide +kernel
theorem dX7_runCommand_20 : decode cX7_runCommand 20 = .ok (.aload_n 0, 1) := by decide +kernel
theorem dX7_runCommand_21 : decode cX7_runCommand 21 = .ok (.getfield 26, 3) := by decide +kernel
theorem dX7_runCommand_24 : decode cX7_runCommand 24 = .ok (.getfield 419, 3) := by decide +kernel
theorem dX7_runCommand_27 : decode cX7_runCommand 27 = .ok (.iload_n 1, 1) := by decide +kernel
theorem dX7_runCommand_28 : decode cX7_runCommand 28 = .ok (.iaload, 1) := by decide +kernel
theorem dX7_runCommand_29 : decode cX7_runCommand 29 = .ok (.tableswitch 177 1 9 #[51, 58, 64, 70, 98, 119, 157, 164, 171], 51) := by decide +kernel
theorem dX7_runCommand_80 : decode cX7_runCommand 80 = .ok (.aload_n 0, 1) := by decide +kernel
theorem dX7_runCommand_81 : decode cX7_runCommand 81 = .ok (.iload_n 2, 1) := by decide +kernel
theorem dX7_runCommand_82 : decode cX7_runCommand 82 = .ok (.iload_n 3, 1) := by decide +kernel
theorem dX7_runCommand_83 : decode cX7_runCommand 83 = .ok (.invokevirtual 433, 3) := by decide +kernel
theorem dX7_runCommand_86 : decode cX7_runCommand 86 = .ok (.ireturn, 1) := by decide +kernel
theorem dX7_runCommand_87 : decode cX7_runCommand 87 = .ok (.aload_n 0, 1) := by decide +kernel
theorem dX7_runCommand_88 : decode cX7_runCommand 88 = .ok (.iload_n 2, 1) := by decide +kernel
theorem dX7_runCommand_89 : decode cX7_runCommand 89 = .ok (.invokevirtual 436, 3) := by decide +kernel
theorem dX7_runCommand_92 : decode cX7_runCommand 92 = .ok (.ireturn, 1) := by decide +kernel
theorem dX7_runCommand_93 : decode cX7_runCommand 93 = .ok (.aload_n 0, 1) := by decide +kernel
theorem dX7_runCommand_94 : decode cX7_runCommand 94 = .ok (.iload_n 2, 1) := by decide +kernel
theorem dX7_runCommand_95 : decode cX7_runCommand 95 = .ok (.invokevirtual 439, 3) := by decide +kernel
theorem dX7_runCommand_98 : decode cX7_runCommand 98 = .ok (.ireturn, 1) := by decide +kernel
theorem dX7_runCommand_99 : decode cX7_runCommand 99 = .ok (.iload_n 3, 1) := by decide +kernel
theorem dX7_runCommand_100 : decode cX7_runCommand 100 = .ok (.invokestatic 355, 3) := by decide +kernel
theorem dX7_runCommand_103 : decode cX7_runCommand 103 = .ok (.ifCond .eq 22, 3) := by decide +kernel
theorem dX7_runCommand_106 : decode cX7_runCommand 106 = .ok (.aload_n 0, 1) := by decide +kernel
theorem dX7_runCommand_107 : decode cX7_runCommand 107 = .ok (.getfield 60, 3) := by decide +kernel
theorem dX7_runCommand_110 : decode cX7_runCommand 110 = .ok (.aload_n 0, 1) := by decide +kernel
theorem dX7_runCommand_111 : decode cX7_runCommand 111 = .ok (.getfield 33, 3) := by decide +kernel
theorem dX7_runCommand_114 : decode cX7_runCommand 114 = .ok (.iload_n 3, 1) := by decide +kernel
theorem dX7_runCommand_115 : decode cX7_runCommand 115 = .ok (.invokevirtual 360, 3) := by decide +kernel
theorem dX7_runCommand_118 : decode cX7_runCommand 118 = .ok (.ifCond .le 7, 3) := by decide +kernel
theorem dX7_runCommand_121 : decode cX7_runCommand 121 = .ok (.iconst 1, 1) := by decide +kernel
theorem dX7_runCommand_122 : decode cX7_runCommand 122 = .ok (.goto 4, 3) := by decide +kernel
theorem dX7_runCommand_125 : decode cX7_runCommand 125 = .ok (.iconst 0, 1) := by decide +kernel
theorem dX7_runCommand_126 : decode cX7_runCommand 126 = .ok (.ireturn, 1) := by decide +kernel
theorem dX7_runCommand_127 : decode cX7_runCommand 127 = .ok (.aload_n 0, 1) := by decide +kernel
theorem dX7_runCommand_128 : decode cX7_runCommand 128 = .ok (.invokevirtual 365, 3) := by decide +kernel
theorem dX7_runCommand_131 : decode cX7_runCommand 131 = .ok (.aload_n 0, 1) := by decide +kernel
theorem dX7_runCommand_132 : decode cX7_runCommand 132 = .ok (.getfield 33, 3) := by decide +kernel
theorem dX7_runCommand_135 : decode cX7_runCommand 135 = .ok (.iload_n 3, 1) := by decide +kernel
theorem dX7_runCommand_136 : decode cX7_runCommand 136 = .ok (.invokevirtual 308, 3) := by decide +kernel
theorem dX7_runCommand_139 : decode cX7_runCommand 139 = .ok (.ifCond .le 7, 3) := by decide +kernel
theorem dX7_runCommand_142 : decode cX7_runCommand 142 = .ok (.iconst 1, 1) := by decide +kernel
theorem dX7_runCommand_143 : decode cX7_runCommand 143 = .ok (.goto 4, 3) := by decide +kernel
theorem dX7_runCommand_146 : decode cX7_runCommand 146 = .ok (.iconst 0, 1) := by decide +kernel
theorem dX7_runCommand_147 : decode cX7_runCommand 147 = .ok (.ireturn, 1) := by decide +kernel
theorem dX7_runCommand_148 : decode cX7_runCommand 148 = .ok (.aload_n 0, 1) := by decide +kernel
theorem dX7_runCommand_149 : decode cX7_runCommand 149 = .ok (.getfield 50, 3) := by decide +kernel
theorem dX7_runCommand_152 : decode cX7_runCommand 152 = .ok (.aload_n 0, 1) := by decide +kernel
theorem dX7_runCommand_153 : decode cX7_runCommand 153 = .ok (.getfield 33, 3) := by decide +kernel
theorem dX7_runCommand_156 : decode cX7_runCommand 156 = .ok (.invokevirtual 311, 3) := by decide +kernel
theorem dX7_runCommand_159 : decode cX7_runCommand 159 = .ok (.aload_n 0, 1) := by decide +kernel
theorem dX7_runCommand_160 : decode cX7_runCommand 160 = .ok (.invokevirtual 365, 3) := by decide +kernel
theorem dX7_runCommand_163 : decode cX7_runCommand 163 = .ok (.aload_n 0, 1) := by decide +kernel
theorem dX7_runCommand_164 : decode cX7_runCommand 164 = .ok (.getfield 33, 3) := by decide +kernel
theorem dX7_runCommand_167 : decode cX7_runCommand 167 = .ok (.aload_n 0, 1) := by decide +kernel
theorem dX7_runCommand_168 : decode cX7_runCommand 168 = .ok (.getfield 50, 3) := by decide +kernel
theorem dX7_runCommand_171 : decode cX7_runCommand 171 = .ok (.getfield 271, 3) := by decide +kernel
theorem dX7_runCommand_174 : decode cX7_runCommand 174 = .ok (.invokevirtual 308, 3) := by decide +kernel
theorem dX7_runCommand_177 : decode cX7_runCommand 177 = .ok (.ifCond .le 7, 3) := by decide +kernel
theorem dX7_runCommand_180 : decode cX7_runCommand 180 = .ok (.iconst 1, 1) := by decide +kernel
theorem dX7_runCommand_181 : decode cX7_runCommand 181 = .ok (.goto 4, 3) := by decide +kernel
theorem dX7_runCommand_184 : decode cX7_runCommand 184 = .ok (.iconst 0, 1) := by decide +kernel
theorem dX7_runCommand_185 : decode cX7_runCommand 185 = .ok (.ireturn, 1) := by decide +kernel
theorem dX7_runCommand_186 : decode cX7_runCommand 186 = .ok (.aload_n 0, 1) := by decide +kernel
theorem dX7_runCommand_187 : decode cX7_runCommand 187 = .ok (.iload_n 2, 1) := by decide +kernel
theorem dX7_runCommand_188 : decode cX7_runCommand 188 = .ok (.iconst 1, 1) := by decide +kernel
theorem dX7_runCommand_189 : decode cX7_runCommand 189 = .ok (.invokevirtual 442, 3) := by decide +kernel
theorem dX7_runCommand_192 : decode cX7_runCommand 192 = .ok (.ireturn, 1) := by decide +kernel
theorem dX7_runCommand_193 : decode cX7_runCommand 193 = .ok (.aload_n 0, 1) := by decide +kernel
theorem dX7_runCommand_194 : decode cX7_runCommand 194 = .ok (.iload_n 2, 1) := by decide +kernel
theorem dX7_runCommand_195 : decode cX7_runCommand 195 = .ok (.iconst 0, 1) := by decide +kernel
theorem dX7_runCommand_196 : decode cX7_runCommand 196 = .ok (.invokevirtual 442, 3) := by decide +kernel
theorem dX7_runCommand_199 : decode cX7_runCommand 199 = .ok (.ireturn, 1) := by decide +kernel
theorem dX7_runCommand_200 : decode cX7_runCommand 200 = .ok (.aload_n 0, 1) := by decide +kernel
theorem dX7_runCommand_201 : decode cX7_runCommand 201 = .ok (.iload_n 3, 1) := by decide +kernel
theorem dX7_runCommand_202 : decode cX7_runCommand 202 = .ok (.invokevirtual 446, 3) := by decide +kernel
theorem dX7_runCommand_205 : decode cX7_runCommand 205 = .ok (.ireturn, 1) := by decide +kernel
theorem dX7_runCommand_206 : decode cX7_runCommand 206 = .ok (.iconst 0, 1) := by decide +kernel
theorem dX7_runCommand_207 : decode cX7_runCommand 207 = .ok (.ireturn, 1) := by decide +kernel
theorem dX7_runChoose_0 : decode cX7_runChoose 0 = .ok (.aload_n 0, 1) := by decide +kernel
theorem dX7_runChoose_1 : decode cX7_runChoose 1 = .ok (.getfield 33, 3) := by decide +kernel
theorem dX7_runChoose_4 : decode cX7_runChoose 4 = .ok (.iload_n 1, 1) := by decide +kernel
theorem dX7_runChoose_5 : decode cX7_runChoose 5 = .ok (.iload_n 2, 1) := by decide +kernel
theorem dX7_runChoose_6 : decode cX7_runChoose 6 = .ok (.invokevirtual 198, 3) := by decide +kernel
theorem dX7_runChoose_9 : decode cX7_runChoose 9 = .ok (.istore_n 3, 1) := by decide +kernel
theorem dX7_runChoose_10 : decode cX7_runChoose 10 = .ok (.iload_n 3, 1) := by decide +kernel
theorem dX7_runChoose_11 : decode cX7_runChoose 11 = .ok (.ifCond .eq 13, 3) := by decide +kernel
theorem dX7_runChoose_14 : decode cX7_runChoose 14 = .ok (.aload_n 0, 1) := by decide +kernel
theorem dX7_runChoose_15 : decode cX7_runChoose 15 = .ok (.getfield 33, 3) := by decide +kernel
theorem dX7_runChoose_18 : decode cX7_runChoose 18 = .ok (.getfield 177, 3) := by decide +kernel
theorem dX7_runChoose_21 : decode cX7_runChoose 21 = .ok (.iload_n 1, 1) := by decide +kernel
theorem dX7_runChoose_22 : decode cX7_runChoose 22 = .ok (.iload_n 2, 1) := by decide +kernel
theorem dX7_runChoose_23 : decode cX7_runChoose 23 = .ok (.iastore, 1) := by decide +kernel
theorem dX7_runChoose_24 : decode cX7_runChoose 24 = .ok (.iload_n 3, 1) := by decide +kernel
theorem dX7_runChoose_25 : decode cX7_runChoose 25 = .ok (.ireturn, 1) := by decide +kernel
theorem dX7_runClear_0 : decode cX7_runClear 0 = .ok (.aload_n 0, 1) := by decide +kernel
theorem dX7_runClear_1 : decode cX7_runClear 1 = .ok (.getfield 33, 3) := by decide +kernel
theorem dX7_runClear_4 : decode cX7_runClear 4 = .ok (.getfield 177, 3) := by decide +kernel
theorem dX7_runClear_7 : decode cX7_runClear 7 = .ok (.iload_n 1, 1) := by decide +kernel
theorem dX7_runClear_8 : decode cX7_runClear 8 = .ok (.iaload, 1) := by decide +kernel
theorem dX7_runClear_9 : decode cX7_runClear 9 = .ok (.iconst (-1), 1) := by decide +kernel
theorem dX7_runClear_10 : decode cX7_runClear 10 = .ok (.if_icmp .eq 7, 3) := by decide +kernel
theorem dX7_runClear_13 : decode cX7_runClear 13 = .ok (.iconst 1, 1) := by decide +kernel
theorem dX7_runClear_14 : decode cX7_runClear 14 = .ok (.goto 4, 3) := by decide +kernel
theorem dX7_runClear_17 : decode cX7_runClear 17 = .ok (.iconst 0, 1) := by decide +kernel
theorem dX7_runClear_18 : decode cX7_runClear 18 = .ok (.istore_n 2, 1) := by decide +kernel
theorem dX7_runClear_19 : decode cX7_runClear 19 = .ok (.aload_n 0, 1) := by decide +kernel
theorem dX7_runClear_20 : decode cX7_runClear 20 = .ok (.getfield 33, 3) := by decide +kernel
theorem dX7_runClear_23 : decode cX7_runClear 23 = .ok (.getfield 177, 3) := by decide +kernel
theorem dX7_runClear_26 : decode cX7_runClear 26 = .ok (.iload_n 1, 1) := by decide +kernel
theorem dX7_runClear_27 : decode cX7_runClear 27 = .ok (.iconst (-1), 1) := by decide +kernel
theorem dX7_runClear_28 : decode cX7_runClear 28 = .ok (.iastore, 1) := by decide +kernel
theorem dX7_runClear_29 : decode cX7_runClear 29 = .ok (.iload_n 2, 1) := by decide +kernel
theorem dX7_runClear_30 : decode cX7_runClear 30 = .ok (.ireturn, 1) := by decide +kernel
theorem dX7_runBetter_0 : decode cX7_runBetter 0 = .ok (.aload_n 0, 1) := by decide +kernel
theorem dX7_runBetter_1 : decode cX7_runBetter 1 = .ok (.getfield 33, 3) := by decide +kernel
theorem dX7_runBetter_4 : decode cX7_runBetter 4 = .ok (.iload_n 1, 1) := by decide +kernel
theorem dX7_runBetter_5 : decode cX7_runBetter 5 = .ok (.invokevirtual 180, 3) := by decide +kernel
theorem dX7_runBetter_8 : decode cX7_runBetter 8 = .ok (.ifCond .ne 7, 3) := by decide +kernel
theorem dX7_runBetter_11 : decode cX7_runBetter 11 = .ok (.iconst 1, 1) := by decide +kernel
theorem dX7_runBetter_12 : decode cX7_runBetter 12 = .ok (.goto 4, 3) := by decide +kernel
theorem dX7_runBetter_15 : decode cX7_runBetter 15 = .ok (.iconst 0, 1) := by decide +kernel
theorem dX7_runBetter_16 : decode cX7_runBetter 16 = .ok (.istore_n 2, 1) := by decide +kernel
theorem dX7_runBetter_17 : decode cX7_runBetter 17 = .ok (.iload_n 2, 1) := by decide +kernel
theorem dX7_runBetter_18 : decode cX7_runBetter 18 = .ok (.ifCond .eq 16, 3) := by decide +kernel
theorem dX7_runBetter_21 : decode cX7_runBetter 21 = .ok (.aload_n 0, 1) := by decide +kernel
theorem dX7_runBetter_22 : decode cX7_runBetter 22 = .ok (.getfield 60, 3) := by decide +kernel
theorem dX7_runBetter_25 : decode cX7_runBetter 25 = .ok (.aload_n 0, 1) := by decide +kernel
theorem dX7_runBetter_26 : decode cX7_runBetter 26 = .ok (.getfield 33, 3) := by decide +kernel
theorem dX7_runBetter_29 : decode cX7_runBetter 29 = .ok (.iload_n 1, 1) := by decide +kernel
theorem dX7_runBetter_30 : decode cX7_runBetter 30 = .ok (.invokevirtual 351, 3) := by decide +kernel
theorem dX7_runBetter_33 : decode cX7_runBetter 33 = .ok (.pop, 1) := by decide +kernel
theorem dX7_runBetter_34 : decode cX7_runBetter 34 = .ok (.iload_n 2, 1) := by decide +kernel
theorem dX7_runBetter_35 : decode cX7_runBetter 35 = .ok (.ireturn, 1) := by decide +kernel
theorem dX7_runOut_0 : decode cX7_runOut 0 = .ok (.aload_n 0, 1) := by decide +kernel
theorem dX7_runOut_1 : decode cX7_runOut 1 = .ok (.getfield 33, 3) := by decide +kernel
theorem dX7_runOut_4 : decode cX7_runOut 4 = .ok (.iload_n 1, 1) := by decide +kernel
theorem dX7_runOut_5 : decode cX7_runOut 5 = .ok (.invokevirtual 180, 3) := by decide +kernel
theorem dX7_runOut_8 : decode cX7_runOut 8 = .ok (.iload_n 2, 1) := by decide +kernel
theorem dX7_runOut_9 : decode cX7_runOut 9 = .ok (.if_icmp .eq 7, 3) := by decide +kernel
theorem dX7_runOut_12 : decode cX7_runOut 12 = .ok (.iconst 1, 1) := by decide +kernel
theorem dX7_runOut_13 : decode cX7_runOut 13 = .ok (.goto 4, 3) := by decide +kernel
theorem dX7_runOut_16 : decode cX7_runOut 16 = .ok (.iconst 0, 1) := by decide +kernel
theorem dX7_runOut_17 : decode cX7_runOut 17 = .ok (.istore_n 3, 1) := by decide +kernel
theorem dX7_runOut_18 : decode cX7_runOut 18 = .ok (.iload_n 3, 1) := by decide +kernel
theorem dX7_runOut_19 : decode cX7_runOut 19 = .ok (.ifCond .eq 9, 3) := by decide +kernel
theorem dX7_runOut_22 : decode cX7_runOut 22 = .ok (.aload_n 0, 1) := by decide +kernel
theorem dX7_runOut_23 : decode cX7_runOut 23 = .ok (.iload_n 1, 1) := by decide +kernel
theorem dX7_runOut_24 : decode cX7_runOut 24 = .ok (.iload_n 2, 1) := by decide +kernel
theorem dX7_runOut_25 : decode cX7_runOut 25 = .ok (.invokevirtual 375, 3) := by decide +kernel
theorem dX7_runOut_28 : decode cX7_runOut 28 = .ok (.iload_n 3, 1) := by decide +kernel
theorem dX7_runOut_29 : decode cX7_runOut 29 = .ok (.ireturn, 1) := by decide +kernel
theorem dX7_runChanges_0 : decode cX7_runChanges 0 = .ok (.iload_n 1, 1) := by decide +kernel
theorem dX7_runChanges_1 : decode cX7_runChanges 1 = .ok (.invokestatic 379, 3) := by decide +kernel
theorem dX7_runChanges_4 : decode cX7_runChanges 4 = .ok (.istore_n 2, 1) := by decide +kernel
theorem dX7_runChanges_5 : decode cX7_runChanges 5 = .ok (.iload_n 2, 1) := by decide +kernel
theorem dX7_runChanges_6 : decode cX7_runChanges 6 = .ok (.ifCond .eq 8, 3) := by decide +kernel
theorem dX7_runChanges_9 : decode cX7_runChanges 9 = .ok (.aload_n 0, 1) := by decide +kernel
theorem dX7_runChanges_10 : decode cX7_runChanges 10 = .ok (.iload_n 1, 1) := by decide +kernel
theorem dX7_runChanges_11 : decode cX7_runChanges 11 = .ok (.invokevirtual 384, 3) := by decide +kernel
theorem dX7_runChanges_14 : decode cX7_runChanges 14 = .ok (.iload_n 2, 1) := by decide +kernel
theorem dX7_runChanges_15 : decode cX7_runChanges 15 = .ok (.ireturn, 1) := by decide +kernel
theorem dX7_writeByte_0 : decode cX7_writeByte 0 = .ok (.aload_n 0, 1) := by decide +kernel
theorem dX7_writeByte_1 : decode cX7_writeByte 1 = .ok (.getfield 387, 3) := by decide +kernel
theorem dX7_writeByte_4 : decode cX7_writeByte 4 = .ok (.aload_n 0, 1) := by decide +kernel
theorem dX7_writeByte_5 : decode cX7_writeByte 5 = .ok (.getfield 71, 3) := by decide +kernel
theorem dX7_writeByte_8 : decode cX7_writeByte 8 = .ok (.arraylength, 1) := by decide +kernel
theorem dX7_writeByte_9 : decode cX7_writeByte 9 = .ok (.if_icmp .ge 24, 3) := by decide +kernel
theorem dX7_writeByte_12 : decode cX7_writeByte 12 = .ok (.aload_n 0, 1) := by decide +kernel
theorem dX7_writeByte_13 : decode cX7_writeByte 13 = .ok (.getfield 71, 3) := by decide +kernel
theorem dX7_writeByte_16 : decode cX7_writeByte 16 = .ok (.aload_n 0, 1) := by decide +kernel
theorem dX7_writeByte_17 : decode cX7_writeByte 17 = .ok (.getfield 387, 3) := by decide +kernel
theorem dX7_writeByte_20 : decode cX7_writeByte 20 = .ok (.iload_n 1, 1) := by decide +kernel
theorem dX7_writeByte_21 : decode cX7_writeByte 21 = .ok (.i2b, 1) := by decide +kernel
theorem dX7_writeByte_22 : decode cX7_writeByte 22 = .ok (.bastore, 1) := by decide +kernel
theorem dX7_writeByte_23 : decode cX7_writeByte 23 = .ok (.aload_n 0, 1) := by decide +kernel
theorem dX7_writeByte_24 : decode cX7_writeByte 24 = .ok (.dup, 1) := by decide +kernel
theorem dX7_writeByte_25 : decode cX7_writeByte 25 = .ok (.getfield 387, 3) := by decide +kernel
theorem dX7_writeByte_28 : decode cX7_writeByte 28 = .ok (.iconst 1, 1) := by decide +kernel
theorem dX7_writeByte_29 : decode cX7_writeByte 29 = .ok (.iadd, 1) := by decide +kernel
theorem dX7_writeByte_30 : decode cX7_writeByte 30 = .ok (.putfield 387, 3) := by decide +kernel
theorem dX7_writeByte_33 : decode cX7_writeByte 33 = .ok (.return_, 1) := by decide +kernel
theorem dX7_writeName_0 : decode cX7_writeName 0 = .ok (.iconst 0, 1) := by decide +kernel
theorem dX7_writeName_1 : decode cX7_writeName 1 = .ok (.istore_n 3, 1) := by decide +kernel
theorem dX7_writeName_2 : decode cX7_writeName 2 = .ok (.iload_n 3, 1) := by decide +kernel
theorem dX7_writeName_3 : decode cX7_writeName 3 = .ok (.bipush 8, 2) := by decide +kernel
theorem dX7_writeName_5 : decode cX7_writeName 5 = .ok (.if_icmp .ge 27, 3) := by decide +kernel
theorem dX7_writeName_8 : decode cX7_writeName 8 = .ok (.lload_n 1, 1) := by decide +kernel
theorem dX7_writeName_9 : decode cX7_writeName 9 = .ok (.iload_n 3, 1) := by decide +kernel
theorem dX7_writeName_10 : decode cX7_writeName 10 = .ok (.invokestatic 449, 3) := by decide +kernel
theorem dX7_writeName_13 : decode cX7_writeName 13 = .ok (.istore 4, 2) := by decide +kernel
theorem dX7_writeName_15 : decode cX7_writeName 15 = .ok (.iload 4, 2) := by decide +kernel
theorem dX7_writeName_17 : decode cX7_writeName 17 = .ok (.ifCond .eq 9, 3) := by decide +kernel
theorem dX7_writeName_20 : decode cX7_writeName 20 = .ok (.aload_n 0, 1) := by decide +kernel
theorem dX7_writeName_21 : decode cX7_writeName 21 = .ok (.iload 4, 2) := by decide +kernel
theorem dX7_writeName_23 : decode cX7_writeName 23 = .ok (.invokevirtual 390, 3) := by decide +kernel
theorem dX7_writeName_26 : decode cX7_writeName 26 = .ok (.iinc 3 1, 3) := by decide +kernel
theorem dX7_writeName_29 : decode cX7_writeName 29 = .ok (.goto (-27), 3) := by decide +kernel
theorem dX7_writeName_32 : decode cX7_writeName 32 = .ok (.return_, 1) := by decide +kernel
theorem dX7_signOf_0 : decode cX7_signOf 0 = .ok (.aload_n 0, 1) := by decide +kernel
theorem dX7_signOf_1 : decode cX7_signOf 1 = .ok (.getfield 33, 3) := by decide +kernel
theorem dX7_signOf_4 : decode cX7_signOf 4 = .ok (.getfield 184, 3) := by decide +kernel
theorem dX7_signOf_7 : decode cX7_signOf 7 = .ok (.iload_n 1, 1) := by decide +kernel
theorem dX7_signOf_8 : decode cX7_signOf 8 = .ok (.iaload, 1) := by decide +kernel
theorem dX7_signOf_9 : decode cX7_signOf 9 = .ok (.iload_n 2, 1) := by decide +kernel
theorem dX7_signOf_10 : decode cX7_signOf 10 = .ok (.iushr, 1) := by decide +kernel
theorem dX7_signOf_11 : decode cX7_signOf 11 = .ok (.iconst 1, 1) := by decide +kernel
theorem dX7_signOf_12 : decode cX7_signOf 12 = .ok (.iand, 1) := by decide +kernel
theorem dX7_signOf_13 : decode cX7_signOf 13 = .ok (.ifCond .eq 6, 3) := by decide +kernel
theorem dX7_signOf_16 : decode cX7_signOf 16 = .ok (.bipush 42, 2) := by decide +kernel
theorem dX7_signOf_18 : decode cX7_signOf 18 = .ok (.ireturn, 1) := by decide +kernel
theorem dX7_signOf_19 : decode cX7_signOf 19 = .ok (.aload_n 0, 1) := by decide +kernel
theorem dX7_signOf_20 : decode cX7_signOf 20 = .ok (.getfield 33, 3) := by decide +kernel
theorem dX7_signOf_23 : decode cX7_signOf 23 = .ok (.getfield 177, 3) := by decide +kernel
theorem dX7_signOf_26 : decode cX7_signOf 26 = .ok (.iload_n 1, 1) := by decide +kernel
theorem dX7_signOf_27 : decode cX7_signOf 27 = .ok (.iaload, 1) := by decide +kernel
theorem dX7_signOf_28 : decode cX7_signOf 28 = .ok (.istore_n 3, 1) := by decide +kernel
theorem dX7_signOf_29 : decode cX7_signOf 29 = .ok (.iload_n 3, 1) := by decide +kernel
theorem dX7_signOf_30 : decode cX7_signOf 30 = .ok (.iconst (-1), 1) := by decide +kernel
theorem dX7_signOf_31 : decode cX7_signOf 31 = .ok (.if_icmp .eq 25, 3) := by decide +kernel
theorem dX7_signOf_34 : decode cX7_signOf 34 = .ok (.iload_n 2, 1) := by decide +kernel
theorem dX7_signOf_35 : decode cX7_signOf 35 = .ok (.iload_n 3, 1) := by decide +kernel
theorem dX7_signOf_36 : decode cX7_signOf 36 = .ok (.if_icmp .lt 20, 3) := by decide +kernel
theorem dX7_signOf_39 : decode cX7_signOf 39 = .ok (.iload_n 2, 1) := by decide +kernel
theorem dX7_signOf_40 : decode cX7_signOf 40 = .ok (.iload_n 3, 1) := by decide +kernel
theorem dX7_signOf_41 : decode cX7_signOf 41 = .ok (.aload_n 0, 1) := by decide +kernel
theorem dX7_signOf_42 : decode cX7_signOf 42 = .ok (.getfield 33, 3) := by decide +kernel
theorem dX7_signOf_45 : decode cX7_signOf 45 = .ok (.getfield 134, 3) := by decide +kernel
theorem dX7_signOf_48 : decode cX7_signOf 48 = .ok (.iadd, 1) := by decide +kernel
theorem dX7_signOf_49 : decode cX7_signOf 49 = .ok (.if_icmp .ge 7, 3) := by decide +kernel
theorem dX7_signOf_52 : decode cX7_signOf 52 = .ok (.iconst 1, 1) := by decide +kernel
theorem dX7_signOf_53 : decode cX7_signOf 53 = .ok (.goto 4, 3) := by decide +kernel
theorem dX7_signOf_56 : decode cX7_signOf 56 = .ok (.iconst 0, 1) := by decide +kernel
theorem dX7_signOf_57 : decode cX7_signOf 57 = .ok (.istore 4, 2) := by decide +kernel
theorem dX7_signOf_59 : decode cX7_signOf 59 = .ok (.iload 4, 2) := by decide +kernel
theorem dX7_signOf_61 : decode cX7_signOf 61 = .ok (.ifCond .eq 8, 3) := by decide +kernel
theorem dX7_signOf_64 : decode cX7_signOf 64 = .ok (.bipush 65, 2) := by decide +kernel
theorem dX7_signOf_66 : decode cX7_signOf 66 = .ok (.goto 5, 3) := by decide +kernel
theorem dX7_signOf_69 : decode cX7_signOf 69 = .ok (.bipush 97, 2) := by decide +kernel
theorem dX7_signOf_71 : decode cX7_signOf 71 = .ok (.aload_n 0, 1) := by decide +kernel
theorem dX7_signOf_72 : decode cX7_signOf 72 = .ok (.getfield 33, 3) := by decide +kernel
theorem dX7_signOf_75 : decode cX7_signOf 75 = .ok (.iload_n 1, 1) := by decide +kernel
theorem dX7_signOf_76 : decode cX7_signOf 76 = .ok (.iload_n 2, 1) := by decide +kernel
theorem dX7_signOf_77 : decode cX7_signOf 77 = .ok (.invokevirtual 194, 3) := by decide +kernel
theorem dX7_signOf_80 : decode cX7_signOf 80 = .ok (.iadd, 1) := by decide +kernel
theorem dX7_signOf_81 : decode cX7_signOf 81 = .ok (.ireturn, 1) := by decide +kernel
theorem dL_feed_0 : decode cL_feed 0 = .ok (.aload 6, 2) := by decide +kernel
theorem dL_feed_2 : decode cL_feed 2 = .ok (.iconst 0, 1) := by decide +kernel
theorem dL_feed_3 : decode cL_feed 3 = .ok (.aload_n 0, 1) := by decide +kernel
theorem dL_feed_4 : decode cL_feed 4 = .ok (.iload_n 1, 1) := by decide +kernel
theorem dL_feed_5 : decode cL_feed 5 = .ok (.iload_n 2, 1) := by decide +kernel
theorem dL_feed_6 : decode cL_feed 6 = .ok (.iload_n 3, 1) := by decide +kernel
theorem dL_feed_7 : decode cL_feed 7 = .ok (.iload 4, 2) := by decide +kernel
theorem dL_feed_9 : decode cL_feed 9 = .ok (.iload 5, 2) := by decide +kernel
theorem dL_feed_11 : decode cL_feed 11 = .ok (.invokevirtual 7, 3) := by decide +kernel
theorem dL_feed_14 : decode cL_feed 14 = .ok (.i2l, 1) := by decide +kernel
theorem dL_feed_15 : decode cL_feed 15 = .ok (.lastore, 1) := by decide +kernel
theorem dL_feed_16 : decode cL_feed 16 = .ok (.goto 7, 3) := by decide +kernel
theorem dL_feed_19 : decode cL_feed 19 = .ok (.astore 7, 2) := by decide +kernel
theorem dL_feed_21 : decode cL_feed 21 = .ok (.iconst 1, 1) := by decide +kernel
theorem dL_feed_22 : decode cL_feed 22 = .ok (.ireturn, 1) := by decide +kernel
theorem dL_feed_23 : decode cL_feed 23 = .ok (.iconst 0, 1) := by decide +kernel
theorem dL_feed_24 : decode cL_feed 24 = .ok (.ireturn, 1) := by decide +kernel
theorem dL_truncate_0 : decode cL_truncate 0 = .ok (.aload_n 2, 1) := by decide +kernel
theorem dL_truncate_1 : decode cL_truncate 1 = .ok (.iconst 0, 1) := by decide +kernel
theorem dL_truncate_2 : decode cL_truncate 2 = .ok (.aload_n 0, 1) := by decide +kernel
theorem dL_truncate_3 : decode cL_truncate 3 = .ok (.iload_n 1, 1) := by decide +kernel
theorem dL_truncate_4 : decode cL_truncate 4 = .ok (.invokevirtual 15, 3) := by decide +kernel
theorem dL_truncate_7 : decode cL_truncate 7 = .ok (.i2l, 1) := by decide +kernel
theorem dL_truncate_8 : decode cL_truncate 8 = .ok (.lastore, 1) := by decide +kernel
theorem dL_truncate_9 : decode cL_truncate 9 = .ok (.goto 6, 3) := by decide +kernel
theorem dL_truncate_12 : decode cL_truncate 12 = .ok (.astore_n 3, 1) := by decide +kernel
theorem dL_truncate_13 : decode cL_truncate 13 = .ok (.iconst 1, 1) := by decide +kernel
theorem dL_truncate_14 : decode cL_truncate 14 = .ok (.ireturn, 1) := by decide +kernel
theorem dL_truncate_15 : decode cL_truncate 15 = .ok (.iconst 0, 1) := by decide +kernel
theorem dL_truncate_16 : decode cL_truncate 16 = .ok (.ireturn, 1) := by decide +kernel
theorem dL_readText_0 : decode cL_readText 0 = .ok (.aload_n 1, 1) := by decide +kernel
theorem dL_readText_1 : decode cL_readText 1 = .ok (.iconst 0, 1) := by decide +kernel
theorem dL_readText_2 : decode cL_readText 2 = .ok (.aload_n 0, 1) := by decide +kernel
theorem dL_readText_3 : decode cL_readText 3 = .ok (.invokevirtual 21, 3) := by decide +kernel
theorem dL_readText_6 : decode cL_readText 6 = .ok (.i2l, 1) := by decide +kernel
theorem dL_readText_7 : decode cL_readText 7 = .ok (.lastore, 1) := by decide +kernel
theorem dL_readText_8 : decode cL_readText 8 = .ok (.goto 6, 3) := by decide +kernel
theorem dL_readText_11 : decode cL_readText 11 = .ok (.astore_n 2, 1) := by decide +kernel
theorem dL_readText_12 : decode cL_readText 12 = .ok (.iconst 1, 1) := by decide +kernel
theorem dL_readText_13 : decode cL_readText 13 = .ok (.ireturn, 1) := by decide +kernel
theorem dL_readText_14 : decode cL_readText 14 = .ok (.iconst 0, 1) := by decide +kernel
theorem dL_readText_15 : decode cL_readText 15 = .ok (.ireturn, 1) := by decide +kernel
theorem dL_runScript_0 : decode cL_runScript 0 = .ok (.aload_n 1, 1) := by decide +kernel
theorem dL_runScript_1 : decode cL_runScript 1 = .ok (.iconst 0, 1) := by decide +kernel
theorem dL_runScript_2 : decode cL_runScript 2 = .ok (.aload_n 0, 1) := by decide +kernel
theorem dL_runScript_3 : decode cL_runScript 3 = .ok (.invokevirtual 25, 3) := by decide +kernel
theorem dL_runScript_6 : decode cL_runScript 6 = .ok (.i2l, 1) := by decide +kernel
theorem dL_runScript_7 : decode cL_runScript 7 = .ok (.lastore, 1) := by decide +kernel
theorem dL_runScript_8 : decode cL_runScript 8 = .ok (.goto 6, 3) := by decide +kernel
theorem dL_runScript_11 : decode cL_runScript 11 = .ok (.astore_n 2, 1) := by decide +kernel
theorem dL_runScript_12 : decode cL_runScript 12 = .ok (.iconst 1, 1) := by decide +kernel
theorem dL_runScript_13 : decode cL_runScript 13 = .ok (.ireturn, 1) := by decide +kernel
theorem dL_runScript_14 : decode cL_runScript 14 = .ok (.iconst 0, 1) := by decide +kernel
theorem dL_runScript_15 : decode cL_runScript 15 = .ok (.ireturn, 1) := by decide +kernel
theorem dL_setting_0 : decode cL_setting 0 = .ok (.aload_n 2, 1) := by decide +kernel
theorem dL_setting_1 : decode cL_setting 1 = .ok (.iconst 0, 1) := by decide +kernel
theorem dL_setting_2 : decode cL_setting 2 = .ok (.aload_n 0, 1) := by decide +kernel
theorem dL_setting_3 : decode cL_setting 3 = .ok (.iload_n 1, 1) := by decide +kernel
theorem dL_setting_4 : decode cL_setting 4 = .ok (.invokevirtual 28, 3) := by decide +kernel
theorem dL_setting_7 : decode cL_setting 7 = .ok (.i2l, 1) := by decide +kernel
theorem dL_setting_8 : decode cL_setting 8 = .ok (.lastore, 1) := by decide +kernel
theorem dL_setting_9 : decode cL_setting 9 = .ok (.goto 6, 3) := by decide +kernel
theorem dL_setting_12 : decode cL_setting 12 = .ok (.astore_n 3, 1) := by decide +kernel
theorem dL_setting_13 : decode cL_setting 13 = .ok (.iconst 1, 1) := by decide +kernel
theorem dL_setting_14 : decode cL_setting 14 = .ok (.ireturn, 1) := by decide +kernel
theorem dL_setting_15 : decode cL_setting 15 = .ok (.iconst 0, 1) := by decide +kernel
theorem dL_setting_16 : decode cL_setting 16 = .ok (.ireturn, 1) := by decide +kernel
theorem dL_row_0 : decode cL_row 0 = .ok (.aload_n 3, 1) := by decide +kernel
theorem dL_row_1 : decode cL_row 1 = .ok (.iconst 0, 1) := by decide +kernel
theorem dL_row_2 : decode cL_row 2 = .ok (.aload_n 0, 1) := by decide +kernel
theorem dL_row_3 : decode cL_row 3 = .ok (.iload_n 1, 1) := by decide +kernel
theorem dL_row_4 : decode cL_row 4 = .ok (.iload_n 2, 1) := by decide +kernel
theorem dL_row_5 : decode cL_row 5 = .ok (.invokevirtual 31, 3) := by decide +kernel
theorem dL_row_8 : decode cL_row 8 = .ok (.i2l, 1) := by decide +kernel
theorem dL_row_9 : decode cL_row 9 = .ok (.lastore, 1) := by decide +kernel
theorem dL_row_10 : decode cL_row 10 = .ok (.goto 11, 3) := by decide +kernel
theorem dL_row_13 : decode cL_row 13 = .ok (.astore 4, 2) := by decide +kernel
theorem dL_row_15 : decode cL_row 15 = .ok (.iconst 1, 1) := by decide +kernel
theorem dL_row_16 : decode cL_row 16 = .ok (.ireturn, 1) := by decide +kernel
theorem dL_row_17 : decode cL_row 17 = .ok (.astore 4, 2) := by decide +kernel
theorem dL_row_19 : decode cL_row 19 = .ok (.iconst 2, 1) := by decide +kernel
theorem dL_row_20 : decode cL_row 20 = .ok (.ireturn, 1) := by decide +kernel
theorem dL_row_21 : decode cL_row 21 = .ok (.iconst 0, 1) := by decide +kernel
theorem dL_row_22 : decode cL_row 22 = .ok (.ireturn, 1) := by decide +kernel
theorem dL_letter_0 : decode cL_letter 0 = .ok (.aload_n 3, 1) := by decide +kernel
theorem dL_letter_1 : decode cL_letter 1 = .ok (.iconst 0, 1) := by decide +kernel
theorem dL_letter_2 : decode cL_letter 2 = .ok (.aload_n 0, 1) := by decide +kernel
theorem dL_letter_3 : decode cL_letter 3 = .ok (.iload_n 1, 1) := by decide +kernel
theorem dL_letter_4 : decode cL_letter 4 = .ok (.iload_n 2, 1) := by decide +kernel
theorem dL_letter_5 : decode cL_letter 5 = .ok (.invokevirtual 37, 3) := by decide +kernel
theorem dL_letter_8 : decode cL_letter 8 = .ok (.i2l, 1) := by decide +kernel
theorem dL_letter_9 : decode cL_letter 9 = .ok (.lastore, 1) := by decide +kernel
theorem dL_letter_10 : decode cL_letter 10 = .ok (.goto 7, 3) := by decide +kernel
theorem dL_letter_13 : decode cL_letter 13 = .ok (.astore 4, 2) := by decide +kernel
theorem dL_letter_15 : decode cL_letter 15 = .ok (.iconst 1, 1) := by decide +kernel
theorem dL_letter_16 : decode cL_letter 16 = .ok (.ireturn, 1) := by decide +kernel
theorem dL_letter_17 : decode cL_letter 17 = .ok (.iconst 0, 1) := by decide +kernel
theorem dL_letter_18 : decode cL_letter 18 = .ok (.ireturn, 1) := by decide +kernel
theorem dL_wordAt_0 : decode cL_wordAt 0 = .ok (.aload_n 3, 1) := by decide +kernel
theorem dL_wordAt_1 : decode cL_wordAt 1 = .ok (.iconst 0, 1) := by decide +kernel
theorem dL_wordAt_2 : decode cL_wordAt 2 = .ok (.aload_n 0, 1) := by decide +kernel
theorem dL_wordAt_3 : decode cL_wordAt 3 = .ok (.iload_n 1, 1) := by decide +kernel
theorem dL_wordAt_4 : decode cL_wordAt 4 = .ok (.iload_n 2, 1) := by decide +kernel
theorem dL_wordAt_5 : decode cL_wordAt 5 = .ok (.invokevirtual 40, 3) := by decide +kernel
theorem dL_wordAt_8 : decode cL_wordAt 8 = .ok (.i2l, 1) := by decide +kernel
theorem dL_wordAt_9 : decode cL_wordAt 9 = .ok (.lastore, 1) := by decide +kernel
theorem dL_wordAt_10 : decode cL_wordAt 10 = .ok (.goto 7, 3) := by decide +kernel
theorem dL_wordAt_13 : decode cL_wordAt 13 = .ok (.astore 4, 2) := by decide +kernel
theorem dL_wordAt_15 : decode cL_wordAt 15 = .ok (.iconst 1, 1) := by decide +kernel
theorem dL_wordAt_16 : decode cL_wordAt 16 = .ok (.ireturn, 1) := by decide +kernel
theorem dL_wordAt_17 : decode cL_wordAt 17 = .ok (.iconst 0, 1) := by decide +kernel
theorem dL_wordAt_18 : decode cL_wordAt 18 = .ok (.ireturn, 1) := by decide +kernel
theorem dL_differ_0 : decode cL_differ 0 = .ok (.aload_n 3, 1) := by decide +kernel
theorem dL_differ_1 : decode cL_differ 1 = .ok (.iconst 0, 1) := by decide +kernel
theorem dL_differ_2 : decode cL_differ 2 = .ok (.aload_n 0, 1) := by decide +kernel
theorem dL_differ_3 : decode cL_differ 3 = .ok (.iload_n 1, 1) := by decide +kernel
theorem dL_differ_4 : decode cL_differ 4 = .ok (.iload_n 2, 1) := by decide +kernel
theorem dL_differ_5 : decode cL_differ 5 = .ok (.invokevirtual 43, 3) := by decide +kernel
theorem dL_differ_8 : decode cL_differ 8 = .ok (.i2l, 1) := by decide +kernel
theorem dL_differ_9 : decode cL_differ 9 = .ok (.lastore, 1) := by decide +kernel
theorem dL_differ_10 : decode cL_differ 10 = .ok (.goto 7, 3) := by decide +kernel
theorem dL_differ_13 : decode cL_differ 13 = .ok (.astore 4, 2) := by decide +kernel
theorem dL_differ_15 : decode cL_differ 15 = .ok (.iconst 1, 1) := by decide +kernel
theorem dL_differ_16 : decode cL_differ 16 = .ok (.ireturn, 1) := by decide +kernel
theorem dL_differ_17 : decode cL_differ 17 = .ok (.iconst 0, 1) := by decide +kernel
theorem dL_differ_18 : decode cL_differ 18 = .ok (.ireturn, 1) := by decide +kernel
theorem dL_distance_0 : decode cL_distance 0 = .ok (.aload_n 3, 1) := by decide +kernel
theorem dL_distance_1 : decode cL_distance 1 = .ok (.iconst 0, 1) := by decide +kernel
theorem dL_distance_2 : decode cL_distance 2 = .ok (.aload_n 0, 1) := by decide +kernel
theorem dL_distance_3 : decode cL_distance 3 = .ok (.iload_n 1, 1) := by decide +kernel
theorem dL_distance_4 : decode cL_distance 4 = .ok (.iload_n 2, 1) := by decide +kernel
theorem dL_distance_5 : decode cL_distance 5 = .ok (.invokevirtual 46, 3) := by decide +kernel
theorem dL_distance_8 : decode cL_distance 8 = .ok (.i2l, 1) := by decide +kernel
theorem dL_distance_9 : decode cL_distance 9 = .ok (.lastore, 1) := by decide +kernel
theorem dL_distance_10 : decode cL_distance 10 = .ok (.goto 7, 3) := by decide +kernel
theorem dL_distance_13 : decode cL_distance 13 = .ok (.astore 4, 2) := by decide +kernel
theorem dL_distance_15 : decode cL_distance 15 = .ok (.iconst 1, 1) := by decide +kernel
theorem dL_distance_16 : decode cL_distance 16 = .ok (.ireturn, 1) := by decide +kernel
theorem dL_distance_17 : decode cL_distance 17 = .ok (.iconst 0, 1) := by decide +kernel
theorem dL_distance_18 : decode cL_distance 18 = .ok (.ireturn, 1) := by decide +kernel
theorem dL_score_0 : decode cL_score 0 = .ok (.aload_n 2, 1) := by decide +kernel
theorem dL_score_1 : decode cL_score 1 = .ok (.iconst 0, 1) := by decide +kernel
theorem dL_score_2 : decode cL_score 2 = .ok (.aload_n 0, 1) := by decide +kernel
theorem dL_score_3 : decode cL_score 3 = .ok (.iload_n 1, 1) := by decide +kernel
theorem dL_score_4 : decode cL_score 4 = .ok (.invokevirtual 49, 3) := by decide +kernel
theorem dL_score_7 : decode cL_score 7 = .ok (.i2l, 1) := by decide +kernel
theorem dL_score_8 : decode cL_score 8 = .ok (.lastore, 1) := by decide +kernel
theorem dL_score_9 : decode cL_score 9 = .ok (.goto 6, 3) := by decide +kernel
theorem dL_score_12 : decode cL_score 12 = .ok (.astore_n 3, 1) := by decide +kernel
theorem dL_score_13 : decode cL_score 13 = .ok (.iconst 1, 1) := by decide +kernel
theorem dL_score_14 : decode cL_score 14 = .ok (.ireturn, 1) := by decide +kernel
theorem dL_score_15 : decode cL_score 15 = .ok (.iconst 0, 1) := by decide +kernel
theorem dL_score_16 : decode cL_score 16 = .ok (.ireturn, 1) := by decide +kernel
theorem dL_having_0 : decode cL_having 0 = .ok (.aload_n 2, 1) := by decide +kernel
theorem dL_having_1 : decode cL_having 1 = .ok (.iconst 0, 1) := by decide +kernel
theorem dL_having_2 : decode cL_having 2 = .ok (.aload_n 0, 1) := by decide +kernel
theorem dL_having_3 : decode cL_having 3 = .ok (.iload_n 1, 1) := by decide +kernel
theorem dL_having_4 : decode cL_having 4 = .ok (.invokevirtual 52, 3) := by decide +kernel
theorem dL_having_7 : decode cL_having 7 = .ok (.i2l, 1) := by decide +kernel
theorem dL_having_8 : decode cL_having 8 = .ok (.lastore, 1) := by decide +kernel
theorem dL_having_9 : decode cL_having 9 = .ok (.goto 6, 3) := by decide +kernel
theorem dL_having_12 : decode cL_having 12 = .ok (.astore_n 3, 1) := by decide +kernel
theorem dL_having_13 : decode cL_having 13 = .ok (.iconst 1, 1) := by decide +kernel
theorem dL_having_14 : decode cL_having 14 = .ok (.ireturn, 1) := by decide +kernel
theorem dL_having_15 : decode cL_having 15 = .ok (.iconst 0, 1) := by decide +kernel
theorem dL_having_16 : decode cL_having 16 = .ok (.ireturn, 1) := by decide +kernel
theorem dL_closest_0 : decode cL_closest 0 = .ok (.aload_n 3, 1) := by decide +kernel
theorem dL_closest_1 : decode cL_closest 1 = .ok (.iconst 0, 1) := by decide +kernel
theorem dL_closest_2 : decode cL_closest 2 = .ok (.aload_n 0, 1) := by decide +kernel
theorem dL_closest_3 : decode cL_closest 3 = .ok (.iload_n 1, 1) := by decide +kernel
theorem dL_closest_4 : decode cL_closest 4 = .ok (.iload_n 2, 1) := by decide +kernel
theorem dL_closest_5 : decode cL_closest 5 = .ok (.invokevirtual 55, 3) := by decide +kernel
theorem dL_closest_8 : decode cL_closest 8 = .ok (.i2l, 1) := by decide +kernel
theorem dL_closest_9 : decode cL_closest 9 = .ok (.lastore, 1) := by decide +kernel
theorem dL_closest_10 : decode cL_closest 10 = .ok (.goto 7, 3) := by decide +kernel
theorem dL_closest_13 : decode cL_closest 13 = .ok (.astore 4, 2) := by decide +kernel
theorem dL_closest_15 : decode cL_closest 15 = .ok (.iconst 1, 1) := by decide +kernel
theorem dL_closest_16 : decode cL_closest 16 = .ok (.ireturn, 1) := by decide +kernel
theorem dL_closest_17 : decode cL_closest 17 = .ok (.iconst 0, 1) := by decide +kernel
theorem dL_closest_18 : decode cL_closest 18 = .ok (.ireturn, 1) := by decide +kernel
theorem dL_spread_0 : decode cL_spread 0 = .ok (.aload_n 2, 1) := by decide +kernel
theorem dL_spread_1 : decode cL_spread 1 = .ok (.iconst 0, 1) := by decide +kernel
theorem dL_spread_2 : decode cL_spread 2 = .ok (.aload_n 0, 1) := by decide +kernel
theorem dL_spread_3 : decode cL_spread 3 = .ok (.iload_n 1, 1) := by decide +kernel
theorem dL_spread_4 : decode cL_spread 4 = .ok (.invokevirtual 58, 3) := by decide +kernel
theorem dL_spread_7 : decode cL_spread 7 = .ok (.i2l, 1) := by decide +kernel
theorem dL_spread_8 : decode cL_spread 8 = .ok (.lastore, 1) := by decide +kernel
theorem dL_spread_9 : decode cL_spread 9 = .ok (.goto 6, 3) := by decide +kernel
theorem dL_spread_12 : decode cL_spread 12 = .ok (.astore_n 3, 1) := by decide +kernel
theorem dL_spread_13 : decode cL_spread 13 = .ok (.iconst 1, 1) := by decide +kernel
theorem dL_spread_14 : decode cL_spread 14 = .ok (.ireturn, 1) := by decide +kernel
theorem dL_spread_15 : decode cL_spread 15 = .ok (.iconst 0, 1) := by decide +kernel
theorem dL_spread_16 : decode cL_spread 16 = .ok (.ireturn, 1) := by decide +kernel
theorem dL_shared_0 : decode cL_shared 0 = .ok (.aload_n 3, 1) := by decide +kernel
theorem dL_shared_1 : decode cL_shared 1 = .ok (.iconst 0, 1) := by decide +kernel
theorem dL_shared_2 : decode cL_shared 2 = .ok (.aload_n 0, 1) := by decide +kernel
theorem dL_shared_3 : decode cL_shared 3 = .ok (.iload_n 1, 1) := by decide +kernel
theorem dL_shared_4 : decode cL_shared 4 = .ok (.iload_n 2, 1) := by decide +kernel
theorem dL_shared_5 : decode cL_shared 5 = .ok (.invokevirtual 61, 3) := by decide +kernel
theorem dL_shared_8 : decode cL_shared 8 = .ok (.i2l, 1) := by decide +kernel
theorem dL_shared_9 : decode cL_shared 9 = .ok (.lastore, 1) := by decide +kernel
theorem dL_shared_10 : decode cL_shared 10 = .ok (.goto 7, 3) := by decide +kernel
theorem dL_shared_13 : decode cL_shared 13 = .ok (.astore 4, 2) := by decide +kernel
theorem dL_shared_15 : decode cL_shared 15 = .ok (.iconst 1, 1) := by decide +kernel
theorem dL_shared_16 : decode cL_shared 16 = .ok (.ireturn, 1) := by decide +kernel
theorem dL_shared_17 : decode cL_shared 17 = .ok (.iconst 0, 1) := by decide +kernel
theorem dL_shared_18 : decode cL_shared 18 = .ok (.ireturn, 1) := by decide +kernel
theorem dL_sharedAt_0 : decode cL_sharedAt 0 = .ok (.aload 4, 2) := by decide +kernel
theorem dL_sharedAt_2 : decode cL_sharedAt 2 = .ok (.iconst 0, 1) := by decide +kernel
theorem dL_sharedAt_3 : decode cL_sharedAt 3 = .ok (.aload_n 0, 1) := by decide +kernel
theorem dL_sharedAt_4 : decode cL_sharedAt 4 = .ok (.iload_n 1, 1) := by decide +kernel
theorem dL_sharedAt_5 : decode cL_sharedAt 5 = .ok (.iload_n 2, 1) := by decide +kernel
theorem dL_sharedAt_6 : decode cL_sharedAt 6 = .ok (.iload_n 3, 1) := by decide +kernel
theorem dL_sharedAt_7 : decode cL_sharedAt 7 = .ok (.invokevirtual 64, 3) := by decide +kernel
theorem dL_sharedAt_10 : decode cL_sharedAt 10 = .ok (.i2l, 1) := by decide +kernel
theorem dL_sharedAt_11 : decode cL_sharedAt 11 = .ok (.lastore, 1) := by decide +kernel
theorem dL_sharedAt_12 : decode cL_sharedAt 12 = .ok (.goto 7, 3) := by decide +kernel
theorem dL_sharedAt_15 : decode cL_sharedAt 15 = .ok (.astore 5, 2) := by decide +kernel
theorem dL_sharedAt_17 : decode cL_sharedAt 17 = .ok (.iconst 1, 1) := by decide +kernel
theorem dL_sharedAt_18 : decode cL_sharedAt 18 = .ok (.ireturn, 1) := by decide +kernel
theorem dL_sharedAt_19 : decode cL_sharedAt 19 = .ok (.iconst 0, 1) := by decide +kernel
theorem dL_sharedAt_20 : decode cL_sharedAt 20 = .ok (.ireturn, 1) := by decide +kernel
theorem dL_hits_0 : decode cL_hits 0 = .ok (.aload_n 2, 1) := by decide +kernel
theorem dL_hits_1 : decode cL_hits 1 = .ok (.iconst 0, 1) := by decide +kernel
theorem dL_hits_2 : decode cL_hits 2 = .ok (.aload_n 0, 1) := by decide +kernel
theorem dL_hits_3 : decode cL_hits 3 = .ok (.iload_n 1, 1) := by decide +kernel
theorem dL_hits_4 : decode cL_hits 4 = .ok (.invokevirtual 68, 3) := by decide +kernel
theorem dL_hits_7 : decode cL_hits 7 = .ok (.i2l, 1) := by decide +kernel
theorem dL_hits_8 : decode cL_hits 8 = .ok (.lastore, 1) := by decide +kernel
theorem dL_hits_9 : decode cL_hits 9 = .ok (.goto 6, 3) := by decide +kernel
theorem dL_hits_12 : decode cL_hits 12 = .ok (.astore_n 3, 1) := by decide +kernel
theorem dL_hits_13 : decode cL_hits 13 = .ok (.iconst 1, 1) := by decide +kernel
theorem dL_hits_14 : decode cL_hits 14 = .ok (.ireturn, 1) := by decide +kernel
theorem dL_hits_15 : decode cL_hits 15 = .ok (.iconst 0, 1) := by decide +kernel
theorem dL_hits_16 : decode cL_hits 16 = .ok (.ireturn, 1) := by decide +kernel
theorem dL_hit_0 : decode cL_hit 0 = .ok (.aload 4, 2) := by decide +kernel
theorem dL_hit_2 : decode cL_hit 2 = .ok (.iconst 0, 1) := by decide +kernel
theorem dL_hit_3 : decode cL_hit 3 = .ok (.aload_n 0, 1) := by decide +kernel
theorem dL_hit_4 : decode cL_hit 4 = .ok (.iload_n 1, 1) := by decide +kernel
theorem dL_hit_5 : decode cL_hit 5 = .ok (.iload_n 2, 1) := by decide +kernel
theorem dL_hit_6 : decode cL_hit 6 = .ok (.iload_n 3, 1) := by decide +kernel
theorem dL_hit_7 : decode cL_hit 7 = .ok (.invokevirtual 71, 3) := by decide +kernel
theorem dL_hit_10 : decode cL_hit 10 = .ok (.i2l, 1) := by decide +kernel
theorem dL_hit_11 : decode cL_hit 11 = .ok (.lastore, 1) := by decide +kernel
theorem dL_hit_12 : decode cL_hit 12 = .ok (.goto 11, 3) := by decide +kernel
theorem dL_hit_15 : decode cL_hit 15 = .ok (.astore 5, 2) := by decide +kernel
theorem dL_hit_17 : decode cL_hit 17 = .ok (.iconst 1, 1) := by decide +kernel
theorem dL_hit_18 : decode cL_hit 18 = .ok (.ireturn, 1) := by decide +kernel
theorem dL_hit_19 : decode cL_hit 19 = .ok (.astore 5, 2) := by decide +kernel
theorem dL_hit_21 : decode cL_hit 21 = .ok (.iconst 2, 1) := by decide +kernel
theorem dL_hit_22 : decode cL_hit 22 = .ok (.ireturn, 1) := by decide +kernel
theorem dL_hit_23 : decode cL_hit 23 = .ok (.iconst 0, 1) := by decide +kernel
theorem dL_hit_24 : decode cL_hit 24 = .ok (.ireturn, 1) := by decide +kernel
theorem dL_timesOf_0 : decode cL_timesOf 0 = .ok (.aload_n 2, 1) := by decide +kernel
theorem dL_timesOf_1 : decode cL_timesOf 1 = .ok (.iconst 0, 1) := by decide +kernel
theorem dL_timesOf_2 : decode cL_timesOf 2 = .ok (.aload_n 0, 1) := by decide +kernel
theorem dL_timesOf_3 : decode cL_timesOf 3 = .ok (.iload_n 1, 1) := by decide +kernel
theorem dL_timesOf_4 : decode cL_timesOf 4 = .ok (.invokevirtual 74, 3) := by decide +kernel
theorem dL_timesOf_7 : decode cL_timesOf 7 = .ok (.i2l, 1) := by decide +kernel
theorem dL_timesOf_8 : decode cL_timesOf 8 = .ok (.lastore, 1) := by decide +kernel
theorem dL_timesOf_9 : decode cL_timesOf 9 = .ok (.goto 6, 3) := by decide +kernel
theorem dL_timesOf_12 : decode cL_timesOf 12 = .ok (.astore_n 3, 1) := by decide +kernel
theorem dL_timesOf_13 : decode cL_timesOf 13 = .ok (.iconst 1, 1) := by decide +kernel
theorem dL_timesOf_14 : decode cL_timesOf 14 = .ok (.ireturn, 1) := by decide +kernel
theorem dL_timesOf_15 : decode cL_timesOf 15 = .ok (.iconst 0, 1) := by decide +kernel
theorem dL_timesOf_16 : decode cL_timesOf 16 = .ok (.ireturn, 1) := by decide +kernel
theorem dL_best_0 : decode cL_best 0 = .ok (.aload_n 2, 1) := by decide +kernel
theorem dL_best_1 : decode cL_best 1 = .ok (.iconst 0, 1) := by decide +kernel
theorem dL_best_2 : decode cL_best 2 = .ok (.aload_n 0, 1) := by decide +kernel
theorem dL_best_3 : decode cL_best 3 = .ok (.iload_n 1, 1) := by decide +kernel
theorem dL_best_4 : decode cL_best 4 = .ok (.invokevirtual 77, 3) := by decide +kernel
theorem dL_best_7 : decode cL_best 7 = .ok (.i2l, 1) := by decide +kernel
theorem dL_best_8 : decode cL_best 8 = .ok (.lastore, 1) := by decide +kernel
theorem dL_best_9 : decode cL_best 9 = .ok (.goto 6, 3) := by decide +kernel
theorem dL_best_12 : decode cL_best 12 = .ok (.astore_n 3, 1) := by decide +kernel
theorem dL_best_13 : decode cL_best 13 = .ok (.iconst 1, 1) := by decide +kernel
theorem dL_best_14 : decode cL_best 14 = .ok (.ireturn, 1) := by decide +kernel
theorem dL_best_15 : decode cL_best 15 = .ok (.iconst 0, 1) := by decide +kernel
theorem dL_best_16 : decode cL_best 16 = .ok (.ireturn, 1) := by decide +kernel
theorem dL_bound_0 : decode cL_bound 0 = .ok (.aload_n 3, 1) := by decide +kernel
theorem dL_bound_1 : decode cL_bound 1 = .ok (.iconst 0, 1) := by decide +kernel
theorem dL_bound_2 : decode cL_bound 2 = .ok (.aload_n 0, 1) := by decide +kernel
theorem dL_bound_3 : decode cL_bound 3 = .ok (.iload_n 1, 1) := by decide +kernel
theorem dL_bound_4 : decode cL_bound 4 = .ok (.iload_n 2, 1) := by decide +kernel
theorem dL_bound_5 : decode cL_bound 5 = .ok (.invokevirtual 80, 3) := by decide +kernel
theorem dL_bound_8 : decode cL_bound 8 = .ok (.i2l, 1) := by decide +kernel
theorem dL_bound_9 : decode cL_bound 9 = .ok (.lastore, 1) := by decide +kernel
theorem dL_bound_10 : decode cL_bound 10 = .ok (.goto 11, 3) := by decide +kernel
theorem dL_bound_13 : decode cL_bound 13 = .ok (.astore 4, 2) := by decide +kernel
theorem dL_bound_15 : decode cL_bound 15 = .ok (.iconst 1, 1) := by decide +kernel
theorem dL_bound_16 : decode cL_bound 16 = .ok (.ireturn, 1) := by decide +kernel
theorem dL_bound_17 : decode cL_bound 17 = .ok (.astore 4, 2) := by decide +kernel
theorem dL_bound_19 : decode cL_bound 19 = .ok (.iconst 2, 1) := by decide +kernel
theorem dL_bound_20 : decode cL_bound 20 = .ok (.ireturn, 1) := by decide +kernel
theorem dL_bound_21 : decode cL_bound 21 = .ok (.iconst 0, 1) := by decide +kernel
theorem dL_bound_22 : decode cL_bound 22 = .ok (.ireturn, 1) := by decide +kernel
theorem dL_mostHad_0 : decode cL_mostHad 0 = .ok (.aload_n 2, 1) := by decide +kernel
theorem dL_mostHad_1 : decode cL_mostHad 1 = .ok (.iconst 0, 1) := by decide +kernel
theorem dL_mostHad_2 : decode cL_mostHad 2 = .ok (.aload_n 0, 1) := by decide +kernel
theorem dL_mostHad_3 : decode cL_mostHad 3 = .ok (.iload_n 1, 1) := by decide +kernel
theorem dL_mostHad_4 : decode cL_mostHad 4 = .ok (.invokevirtual 83, 3) := by decide +kernel
theorem dL_mostHad_7 : decode cL_mostHad 7 = .ok (.i2l, 1) := by decide +kernel
theorem dL_mostHad_8 : decode cL_mostHad 8 = .ok (.lastore, 1) := by decide +kernel
theorem dL_mostHad_9 : decode cL_mostHad 9 = .ok (.goto 6, 3) := by decide +kernel
theorem dL_mostHad_12 : decode cL_mostHad 12 = .ok (.astore_n 3, 1) := by decide +kernel
theorem dL_mostHad_13 : decode cL_mostHad 13 = .ok (.iconst 1, 1) := by decide +kernel
theorem dL_mostHad_14 : decode cL_mostHad 14 = .ok (.ireturn, 1) := by decide +kernel
theorem dL_mostHad_15 : decode cL_mostHad 15 = .ok (.iconst 0, 1) := by decide +kernel
theorem dL_mostHad_16 : decode cL_mostHad 16 = .ok (.ireturn, 1) := by decide +kernel
theorem dL_scoreWithout_0 : decode cL_scoreWithout 0 = .ok (.aload_n 2, 1) := by decide +kernel
theorem dL_scoreWithout_1 : decode cL_scoreWithout 1 = .ok (.iconst 0, 1) := by decide +kernel
theorem dL_scoreWithout_2 : decode cL_scoreWithout 2 = .ok (.aload_n 0, 1) := by decide +kernel
theorem dL_scoreWithout_3 : decode cL_scoreWithout 3 = .ok (.iload_n 1, 1) := by decide +kernel
theorem dL_scoreWithout_4 : decode cL_scoreWithout 4 = .ok (.invokevirtual 86, 3) := by decide +kernel
theorem dL_scoreWithout_7 : decode cL_scoreWithout 7 = .ok (.i2l, 1) := by decide +kernel
theorem dL_scoreWithout_8 : decode cL_scoreWithout 8 = .ok (.lastore, 1) := by decide +kernel
theorem dL_scoreWithout_9 : decode cL_scoreWithout 9 = .ok (.goto 6, 3) := by decide +kernel
theorem dL_scoreWithout_12 : decode cL_scoreWithout 12 = .ok (.astore_n 3, 1) := by decide +kernel
theorem dL_scoreWithout_13 : decode cL_scoreWithout 13 = .ok (.iconst 1, 1) := by decide +kernel
theorem dL_scoreWithout_14 : decode cL_scoreWithout 14 = .ok (.ireturn, 1) := by decide +kernel
theorem dL_scoreWithout_15 : decode cL_scoreWithout 15 = .ok (.iconst 0, 1) := by decide +kernel
theorem dL_scoreWithout_16 : decode cL_scoreWithout 16 = .ok (.ireturn, 1) := by decide +kernel
theorem dL_rankOf_0 : decode cL_rankOf 0 = .ok (.aload_n 2, 1) := by decide +kernel
theorem dL_rankOf_1 : decode cL_rankOf 1 = .ok (.iconst 0, 1) := by decide +kernel
theorem dL_rankOf_2 : decode cL_rankOf 2 = .ok (.aload_n 0, 1) := by decide +kernel
theorem dL_rankOf_3 : decode cL_rankOf 3 = .ok (.iload_n 1, 1) := by decide +kernel
theorem dL_rankOf_4 : decode cL_rankOf 4 = .ok (.invokevirtual 89, 3) := by decide +kernel
theorem dL_rankOf_7 : decode cL_rankOf 7 = .ok (.i2l, 1) := by decide +kernel
theorem dL_rankOf_8 : decode cL_rankOf 8 = .ok (.lastore, 1) := by decide +kernel
theorem dL_rankOf_9 : decode cL_rankOf 9 = .ok (.goto 6, 3) := by decide +kernel
theorem dL_rankOf_12 : decode cL_rankOf 12 = .ok (.astore_n 3, 1) := by decide +kernel
theorem dL_rankOf_13 : decode cL_rankOf 13 = .ok (.iconst 1, 1) := by decide +kernel
theorem dL_rankOf_14 : decode cL_rankOf 14 = .ok (.ireturn, 1) := by decide +kernel
theorem dL_rankOf_15 : decode cL_rankOf 15 = .ok (.iconst 0, 1) := by decide +kernel
theorem dL_rankOf_16 : decode cL_rankOf 16 = .ok (.ireturn, 1) := by decide +kernel
theorem dL_second_0 : decode cL_second 0 = .ok (.aload_n 2, 1) := by decide +kernel
theorem dL_second_1 : decode cL_second 1 = .ok (.iconst 0, 1) := by decide +kernel
theorem dL_second_2 : decode cL_second 2 = .ok (.aload_n 0, 1) := by decide +kernel
theorem dL_second_3 : decode cL_second 3 = .ok (.iload_n 1, 1) := by decide +kernel
theorem dL_second_4 : decode cL_second 4 = .ok (.invokevirtual 92, 3) := by decide +kernel
theorem dL_second_7 : decode cL_second 7 = .ok (.i2l, 1) := by decide +kernel
theorem dL_second_8 : decode cL_second 8 = .ok (.lastore, 1) := by decide +kernel
theorem dL_second_9 : decode cL_second 9 = .ok (.goto 6, 3) := by decide +kernel
theorem dL_second_12 : decode cL_second 12 = .ok (.astore_n 3, 1) := by decide +kernel
theorem dL_second_13 : decode cL_second 13 = .ok (.iconst 1, 1) := by decide +kernel
theorem dL_second_14 : decode cL_second 14 = .ok (.ireturn, 1) := by decide +kernel
theorem dL_second_15 : decode cL_second 15 = .ok (.iconst 0, 1) := by decide +kernel
theorem dL_second_16 : decode cL_second 16 = .ok (.ireturn, 1) := by decide +kernel
theorem dL_count_0 : decode cL_count 0 = .ok (.aload_n 3, 1) := by decide +kernel
theorem dL_count_1 : decode cL_count 1 = .ok (.iconst 0, 1) := by decide +kernel
theorem dL_count_2 : decode cL_count 2 = .ok (.aload_n 0, 1) := by decide +kernel
theorem dL_count_3 : decode cL_count 3 = .ok (.iload_n 1, 1) := by decide +kernel
theorem dL_count_4 : decode cL_count 4 = .ok (.iload_n 2, 1) := by decide +kernel
theorem dL_count_5 : decode cL_count 5 = .ok (.invokevirtual 95, 3) := by decide +kernel
theorem dL_count_8 : decode cL_count 8 = .ok (.i2l, 1) := by decide +kernel
theorem dL_count_9 : decode cL_count 9 = .ok (.lastore, 1) := by decide +kernel
theorem dL_count_10 : decode cL_count 10 = .ok (.goto 7, 3) := by decide +kernel
theorem dL_count_13 : decode cL_count 13 = .ok (.astore 4, 2) := by decide +kernel
theorem dL_count_15 : decode cL_count 15 = .ok (.iconst 1, 1) := by decide +kernel
theorem dL_count_16 : decode cL_count 16 = .ok (.ireturn, 1) := by decide +kernel
theorem dL_count_17 : decode cL_count 17 = .ok (.iconst 0, 1) := by decide +kernel
theorem dL_count_18 : decode cL_count 18 = .ok (.ireturn, 1) := by decide +kernel
theorem dL_weight_0 : decode cL_weight 0 = .ok (.aload_n 3, 1) := by decide +kernel
theorem dL_weight_1 : decode cL_weight 1 = .ok (.iconst 0, 1) := by decide +kernel
theorem dL_weight_2 : decode cL_weight 2 = .ok (.aload_n 0, 1) := by decide +kernel
theorem dL_weight_3 : decode cL_weight 3 = .ok (.iload_n 1, 1) := by decide +kernel
theorem dL_weight_4 : decode cL_weight 4 = .ok (.iload_n 2, 1) := by decide +kernel
theorem dL_weight_5 : decode cL_weight 5 = .ok (.invokevirtual 98, 3) := by decide +kernel
theorem dL_weight_8 : decode cL_weight 8 = .ok (.i2l, 1) := by decide +kernel
theorem dL_weight_9 : decode cL_weight 9 = .ok (.lastore, 1) := by decide +kernel
theorem dL_weight_10 : decode cL_weight 10 = .ok (.goto 7, 3) := by decide +kernel
theorem dL_weight_13 : decode cL_weight 13 = .ok (.astore 4, 2) := by decide +kernel
theorem dL_weight_15 : decode cL_weight 15 = .ok (.iconst 1, 1) := by decide +kernel
theorem dL_weight_16 : decode cL_weight 16 = .ok (.ireturn, 1) := by decide +kernel
theorem dL_weight_17 : decode cL_weight 17 = .ok (.iconst 0, 1) := by decide +kernel
theorem dL_weight_18 : decode cL_weight 18 = .ok (.ireturn, 1) := by decide +kernel
theorem dL_tryFrom_0 : decode cL_tryFrom 0 = .ok (.aload_n 3, 1) := by decide +kernel
theorem dL_tryFrom_1 : decode cL_tryFrom 1 = .ok (.iconst 0, 1) := by decide +kernel
theorem dL_tryFrom_2 : decode cL_tryFrom 2 = .ok (.aload_n 0, 1) := by decide +kernel
theorem dL_tryFrom_3 : decode cL_tryFrom 3 = .ok (.iload_n 1, 1) := by decide +kernel
theorem dL_tryFrom_4 : decode cL_tryFrom 4 = .ok (.iload_n 2, 1) := by decide +kernel
theorem dL_tryFrom_5 : decode cL_tryFrom 5 = .ok (.invokevirtual 101, 3) := by decide +kernel
theorem dL_tryFrom_8 : decode cL_tryFrom 8 = .ok (.i2l, 1) := by decide +kernel
theorem dL_tryFrom_9 : decode cL_tryFrom 9 = .ok (.lastore, 1) := by decide +kernel
theorem dL_tryFrom_10 : decode cL_tryFrom 10 = .ok (.goto 7, 3) := by decide +kernel
theorem dL_tryFrom_13 : decode cL_tryFrom 13 = .ok (.astore 4, 2) := by decide +kernel
theorem dL_tryFrom_15 : decode cL_tryFrom 15 = .ok (.iconst 1, 1) := by decide +kernel
theorem dL_tryFrom_16 : decode cL_tryFrom 16 = .ok (.ireturn, 1) := by decide +kernel
theorem dL_tryFrom_17 : decode cL_tryFrom 17 = .ok (.iconst 0, 1) := by decide +kernel
theorem dL_tryFrom_18 : decode cL_tryFrom 18 = .ok (.ireturn, 1) := by decide +kernel
theorem dL_bestStart_0 : decode cL_bestStart 0 = .ok (.aload_n 2, 1) := by decide +kernel
theorem dL_bestStart_1 : decode cL_bestStart 1 = .ok (.iconst 0, 1) := by decide +kernel
theorem dL_bestStart_2 : decode cL_bestStart 2 = .ok (.aload_n 0, 1) := by decide +kernel
theorem dL_bestStart_3 : decode cL_bestStart 3 = .ok (.iload_n 1, 1) := by decide +kernel
theorem dL_bestStart_4 : decode cL_bestStart 4 = .ok (.invokevirtual 104, 3) := by decide +kernel
theorem dL_bestStart_7 : decode cL_bestStart 7 = .ok (.i2l, 1) := by decide +kernel
theorem dL_bestStart_8 : decode cL_bestStart 8 = .ok (.lastore, 1) := by decide +kernel
theorem dL_bestStart_9 : decode cL_bestStart 9 = .ok (.goto 6, 3) := by decide +kernel
theorem dL_bestStart_12 : decode cL_bestStart 12 = .ok (.astore_n 3, 1) := by decide +kernel
theorem dL_bestStart_13 : decode cL_bestStart 13 = .ok (.iconst 1, 1) := by decide +kernel
theorem dL_bestStart_14 : decode cL_bestStart 14 = .ok (.ireturn, 1) := by decide +kernel
theorem dL_bestStart_15 : decode cL_bestStart 15 = .ok (.iconst 0, 1) := by decide +kernel
theorem dL_bestStart_16 : decode cL_bestStart 16 = .ok (.ireturn, 1) := by decide +kernel
theorem dL_improvesToEnd_0 : decode cL_improvesToEnd 0 = .ok (.aload_n 2, 1) := by decide +kernel
theorem dL_improvesToEnd_1 : decode cL_improvesToEnd 1 = .ok (.iconst 0, 1) := by decide +kernel
theorem dL_improvesToEnd_2 : decode cL_improvesToEnd 2 = .ok (.aload_n 0, 1) := by decide +kernel
theorem dL_improvesToEnd_3 : decode cL_improvesToEnd 3 = .ok (.iload_n 1, 1) := by decide +kernel
theorem dL_improvesToEnd_4 : decode cL_improvesToEnd 4 = .ok (.invokevirtual 107, 3) := by decide +kernel
theorem dL_improvesToEnd_7 : decode cL_improvesToEnd 7 = .ok (.i2l, 1) := by decide +kernel
theorem dL_improvesToEnd_8 : decode cL_improvesToEnd 8 = .ok (.lastore, 1) := by decide +kernel
theorem dL_improvesToEnd_9 : decode cL_improvesToEnd 9 = .ok (.goto 6, 3) := by decide +kernel
theorem dL_improvesToEnd_12 : decode cL_improvesToEnd 12 = .ok (.astore_n 3, 1) := by decide +kernel
theorem dL_improvesToEnd_13 : decode cL_improvesToEnd 13 = .ok (.iconst 1, 1) := by decide +kernel
theorem dL_improvesToEnd_14 : decode cL_improvesToEnd 14 = .ok (.ireturn, 1) := by decide +kernel
theorem dL_improvesToEnd_15 : decode cL_improvesToEnd 15 = .ok (.iconst 0, 1) := by decide +kernel
theorem dL_improvesToEnd_16 : decode cL_improvesToEnd 16 = .ok (.ireturn, 1) := by decide +kernel
theorem dL_choose_0 : decode cL_choose 0 = .ok (.aload_n 3, 1) := by decide +kernel
theorem dL_choose_1 : decode cL_choose 1 = .ok (.iconst 0, 1) := by decide +kernel
theorem dL_choose_2 : decode cL_choose 2 = .ok (.aload_n 0, 1) := by decide +kernel
theorem dL_choose_3 : decode cL_choose 3 = .ok (.iload_n 1, 1) := by decide +kernel
theorem dL_choose_4 : decode cL_choose 4 = .ok (.iload_n 2, 1) := by decide +kernel
theorem dL_choose_5 : decode cL_choose 5 = .ok (.invokevirtual 110, 3) := by decide +kernel
theorem dL_choose_8 : decode cL_choose 8 = .ok (.i2l, 1) := by decide +kernel
theorem dL_choose_9 : decode cL_choose 9 = .ok (.lastore, 1) := by decide +kernel
theorem dL_choose_10 : decode cL_choose 10 = .ok (.goto 11, 3) := by decide +kernel
theorem dL_choose_13 : decode cL_choose 13 = .ok (.astore 4, 2) := by decide +kernel
theorem dL_choose_15 : decode cL_choose 15 = .ok (.iconst 1, 1) := by decide +kernel
theorem dL_choose_16 : decode cL_choose 16 = .ok (.ireturn, 1) := by decide +kernel
theorem dL_choose_17 : decode cL_choose 17 = .ok (.astore 4, 2) := by decide +kernel
theorem dL_choose_19 : decode cL_choose 19 = .ok (.iconst 2, 1) := by decide +kernel
theorem dL_choose_20 : decode cL_choose 20 = .ok (.ireturn, 1) := by decide +kernel
theorem dL_choose_21 : decode cL_choose 21 = .ok (.iconst 0, 1) := by decide +kernel
theorem dL_choose_22 : decode cL_choose 22 = .ok (.ireturn, 1) := by decide +kernel
theorem dL_clear_0 : decode cL_clear 0 = .ok (.aload_n 2, 1) := by decide +kernel
theorem dL_clear_1 : decode cL_clear 1 = .ok (.iconst 0, 1) := by decide +kernel
theorem dL_clear_2 : decode cL_clear 2 = .ok (.aload_n 0, 1) := by decide +kernel
theorem dL_clear_3 : decode cL_clear 3 = .ok (.iload_n 1, 1) := by decide +kernel
theorem dL_clear_4 : decode cL_clear 4 = .ok (.invokevirtual 113, 3) := by decide +kernel
theorem dL_clear_7 : decode cL_clear 7 = .ok (.i2l, 1) := by decide +kernel
theorem dL_clear_8 : decode cL_clear 8 = .ok (.lastore, 1) := by decide +kernel
theorem dL_clear_9 : decode cL_clear 9 = .ok (.goto 9, 3) := by decide +kernel
theorem dL_clear_12 : decode cL_clear 12 = .ok (.astore_n 3, 1) := by decide +kernel
theorem dL_clear_13 : decode cL_clear 13 = .ok (.iconst 1, 1) := by decide +kernel
theorem dL_clear_14 : decode cL_clear 14 = .ok (.ireturn, 1) := by decide +kernel
theorem dL_clear_15 : decode cL_clear 15 = .ok (.astore_n 3, 1) := by decide +kernel
theorem dL_clear_16 : decode cL_clear 16 = .ok (.iconst 2, 1) := by decide +kernel
theorem dL_clear_17 : decode cL_clear 17 = .ok (.ireturn, 1) := by decide +kernel
theorem dL_clear_18 : decode cL_clear 18 = .ok (.iconst 0, 1) := by decide +kernel
theorem dL_clear_19 : decode cL_clear 19 = .ok (.ireturn, 1) := by decide +kernel
theorem dL_better_0 : decode cL_better 0 = .ok (.aload_n 2, 1) := by decide +kernel
theorem dL_better_1 : decode cL_better 1 = .ok (.iconst 0, 1) := by decide +kernel
theorem dL_better_2 : decode cL_better 2 = .ok (.aload_n 0, 1) := by decide +kernel
theorem dL_better_3 : decode cL_better 3 = .ok (.iload_n 1, 1) := by decide +kernel
theorem dL_better_4 : decode cL_better 4 = .ok (.invokevirtual 116, 3) := by decide +kernel
theorem dL_better_7 : decode cL_better 7 = .ok (.i2l, 1) := by decide +kernel
theorem dL_better_8 : decode cL_better 8 = .ok (.lastore, 1) := by decide +kernel
theorem dL_better_9 : decode cL_better 9 = .ok (.goto 9, 3) := by decide +kernel
theorem dL_better_12 : decode cL_better 12 = .ok (.astore_n 3, 1) := by decide +kernel
theorem dL_better_13 : decode cL_better 13 = .ok (.iconst 1, 1) := by decide +kernel
theorem dL_better_14 : decode cL_better 14 = .ok (.ireturn, 1) := by decide +kernel
theorem dL_better_15 : decode cL_better 15 = .ok (.astore_n 3, 1) := by decide +kernel
theorem dL_better_16 : decode cL_better 16 = .ok (.iconst 2, 1) := by decide +kernel
theorem dL_better_17 : decode cL_better 17 = .ok (.ireturn, 1) := by decide +kernel
theorem dL_better_18 : decode cL_better 18 = .ok (.iconst 0, 1) := by decide +kernel
theorem dL_better_19 : decode cL_better 19 = .ok (.ireturn, 1) := by decide +kernel
theorem dL_improve_0 : decode cL_improve 0 = .ok (.aload_n 2, 1) := by decide +kernel
theorem dL_improve_1 : decode cL_improve 1 = .ok (.iconst 0, 1) := by decide +kernel
theorem dL_improve_2 : decode cL_improve 2 = .ok (.aload_n 0, 1) := by decide +kernel
theorem dL_improve_3 : decode cL_improve 3 = .ok (.iload_n 1, 1) := by decide +kernel
theorem dL_improve_4 : decode cL_improve 4 = .ok (.invokevirtual 119, 3) := by decide +kernel
theorem dL_improve_7 : decode cL_improve 7 = .ok (.i2l, 1) := by decide +kernel
theorem dL_improve_8 : decode cL_improve 8 = .ok (.lastore, 1) := by decide +kernel
theorem dL_improve_9 : decode cL_improve 9 = .ok (.goto 6, 3) := by decide +kernel
theorem dL_improve_12 : decode cL_improve 12 = .ok (.astore_n 3, 1) := by decide +kernel
theorem dL_improve_13 : decode cL_improve 13 = .ok (.iconst 1, 1) := by decide +kernel
theorem dL_improve_14 : decode cL_improve 14 = .ok (.ireturn, 1) := by decide +kernel
theorem dL_improve_15 : decode cL_improve 15 = .ok (.iconst 0, 1) := by decide +kernel
theorem dL_improve_16 : decode cL_improve 16 = .ok (.ireturn, 1) := by decide +kernel
theorem dL_take_0 : decode cL_take 0 = .ok (.aload_n 2, 1) := by decide +kernel
theorem dL_take_1 : decode cL_take 1 = .ok (.iconst 0, 1) := by decide +kernel
theorem dL_take_2 : decode cL_take 2 = .ok (.aload_n 0, 1) := by decide +kernel
theorem dL_take_3 : decode cL_take 3 = .ok (.iload_n 1, 1) := by decide +kernel
theorem dL_take_4 : decode cL_take 4 = .ok (.invokevirtual 122, 3) := by decide +kernel
theorem dL_take_7 : decode cL_take 7 = .ok (.i2l, 1) := by decide +kernel
theorem dL_take_8 : decode cL_take 8 = .ok (.lastore, 1) := by decide +kernel
theorem dL_take_9 : decode cL_take 9 = .ok (.goto 9, 3) := by decide +kernel
theorem dL_take_12 : decode cL_take 12 = .ok (.astore_n 3, 1) := by decide +kernel
theorem dL_take_13 : decode cL_take 13 = .ok (.iconst 1, 1) := by decide +kernel
theorem dL_take_14 : decode cL_take 14 = .ok (.ireturn, 1) := by decide +kernel
theorem dL_take_15 : decode cL_take 15 = .ok (.astore_n 3, 1) := by decide +kernel
theorem dL_take_16 : decode cL_take 16 = .ok (.iconst 2, 1) := by decide +kernel
theorem dL_take_17 : decode cL_take 17 = .ok (.ireturn, 1) := by decide +kernel
theorem dL_take_18 : decode cL_take 18 = .ok (.iconst 0, 1) := by decide +kernel
theorem dL_take_19 : decode cL_take 19 = .ok (.ireturn, 1) := by decide +kernel
theorem dL_takeBest_0 : decode cL_takeBest 0 = .ok (.aload_n 1, 1) := by decide +kernel
theorem dL_takeBest_1 : decode cL_takeBest 1 = .ok (.iconst 0, 1) := by decide +kernel
theorem dL_takeBest_2 : decode cL_takeBest 2 = .ok (.aload_n 0, 1) := by decide +kernel
theorem dL_takeBest_3 : decode cL_takeBest 3 = .ok (.invokevirtual 125, 3) := by decide +kernel
theorem dL_takeBest_6 : decode cL_takeBest 6 = .ok (.i2l, 1) := by decide +kernel
theorem dL_takeBest_7 : decode cL_takeBest 7 = .ok (.lastore, 1) := by decide +kernel
theorem dL_takeBest_8 : decode cL_takeBest 8 = .ok (.goto 6, 3) := by decide +kernel
theorem dL_takeBest_11 : decode cL_takeBest 11 = .ok (.astore_n 2, 1) := by decide +kernel
theorem dL_takeBest_12 : decode cL_takeBest 12 = .ok (.iconst 1, 1) := by decide +kernel
theorem dL_takeBest_13 : decode cL_takeBest 13 = .ok (.ireturn, 1) := by decide +kernel
theorem dL_takeBest_14 : decode cL_takeBest 14 = .ok (.iconst 0, 1) := by decide +kernel
theorem dL_takeBest_15 : decode cL_takeBest 15 = .ok (.ireturn, 1) := by decide +kernel
theorem dL_whyNotTake_0 : decode cL_whyNotTake 0 = .ok (.aload_n 2, 1) := by decide +kernel
theorem dL_whyNotTake_1 : decode cL_whyNotTake 1 = .ok (.iconst 0, 1) := by decide +kernel
theorem dL_whyNotTake_2 : decode cL_whyNotTake 2 = .ok (.aload_n 0, 1) := by decide +kernel
theorem dL_whyNotTake_3 : decode cL_whyNotTake 3 = .ok (.iload_n 1, 1) := by decide +kernel
theorem dL_whyNotTake_4 : decode cL_whyNotTake 4 = .ok (.invokevirtual 128, 3) := by decide +kernel
theorem dL_whyNotTake_7 : decode cL_whyNotTake 7 = .ok (.i2l, 1) := by decide +kernel
theorem dL_whyNotTake_8 : decode cL_whyNotTake 8 = .ok (.lastore, 1) := by decide +kernel
theorem dL_whyNotTake_9 : decode cL_whyNotTake 9 = .ok (.goto 6, 3) := by decide +kernel
theorem dL_whyNotTake_12 : decode cL_whyNotTake 12 = .ok (.astore_n 3, 1) := by decide +kernel
theorem dL_whyNotTake_13 : decode cL_whyNotTake 13 = .ok (.iconst 1, 1) := by decide +kernel
theorem dL_whyNotTake_14 : decode cL_whyNotTake 14 = .ok (.ireturn, 1) := by decide +kernel
theorem dL_whyNotTake_15 : decode cL_whyNotTake 15 = .ok (.iconst 0, 1) := by decide +kernel
theorem dL_whyNotTake_16 : decode cL_whyNotTake 16 = .ok (.ireturn, 1) := by decide +kernel
theorem dL_setOut_0 : decode cL_setOut 0 = .ok (.aload_n 3, 1) := by decide +kernel
theorem dL_setOut_1 : decode cL_setOut 1 = .ok (.iconst 0, 1) := by decide +kernel
theorem dL_setOut_2 : decode cL_setOut 2 = .ok (.aload_n 0, 1) := by decide +kernel
theorem dL_setOut_3 : decode cL_setOut 3 = .ok (.iload_n 1, 1) := by decide +kernel
theorem dL_setOut_4 : decode cL_setOut 4 = .ok (.iload_n 2, 1) := by decide +kernel
theorem dL_setOut_5 : decode cL_setOut 5 = .ok (.invokevirtual 131, 3) := by decide +kernel
theorem dL_setOut_8 : decode cL_setOut 8 = .ok (.i2l, 1) := by decide +kernel
theorem dL_setOut_9 : decode cL_setOut 9 = .ok (.lastore, 1) := by decide +kernel
theorem dL_setOut_10 : decode cL_setOut 10 = .ok (.goto 11, 3) := by decide +kernel
theorem dL_setOut_13 : decode cL_setOut 13 = .ok (.astore 4, 2) := by decide +kernel
theorem dL_setOut_15 : decode cL_setOut 15 = .ok (.iconst 1, 1) := by decide +kernel
theorem dL_setOut_16 : decode cL_setOut 16 = .ok (.ireturn, 1) := by decide +kernel
theorem dL_setOut_17 : decode cL_setOut 17 = .ok (.astore 4, 2) := by decide +kernel
theorem dL_setOut_19 : decode cL_setOut 19 = .ok (.iconst 2, 1) := by decide +kernel
theorem dL_setOut_20 : decode cL_setOut 20 = .ok (.ireturn, 1) := by decide +kernel
theorem dL_setOut_21 : decode cL_setOut 21 = .ok (.iconst 0, 1) := by decide +kernel
theorem dL_setOut_22 : decode cL_setOut 22 = .ok (.ireturn, 1) := by decide +kernel
theorem dL_setChanges_0 : decode cL_setChanges 0 = .ok (.aload_n 2, 1) := by decide +kernel
theorem dL_setChanges_1 : decode cL_setChanges 1 = .ok (.iconst 0, 1) := by decide +kernel
theorem dL_setChanges_2 : decode cL_setChanges 2 = .ok (.aload_n 0, 1) := by decide +kernel
theorem dL_setChanges_3 : decode cL_setChanges 3 = .ok (.iload_n 1, 1) := by decide +kernel
theorem dL_setChanges_4 : decode cL_setChanges 4 = .ok (.invokevirtual 135, 3) := by decide +kernel
theorem dL_setChanges_7 : decode cL_setChanges 7 = .ok (.i2l, 1) := by decide +kernel
theorem dL_setChanges_8 : decode cL_setChanges 8 = .ok (.lastore, 1) := by decide +kernel
theorem dL_setChanges_9 : decode cL_setChanges 9 = .ok (.goto 6, 3) := by decide +kernel
theorem dL_setChanges_12 : decode cL_setChanges 12 = .ok (.astore_n 3, 1) := by decide +kernel
theorem dL_setChanges_13 : decode cL_setChanges 13 = .ok (.iconst 1, 1) := by decide +kernel
theorem dL_setChanges_14 : decode cL_setChanges 14 = .ok (.ireturn, 1) := by decide +kernel
theorem dL_setChanges_15 : decode cL_setChanges 15 = .ok (.iconst 0, 1) := by decide +kernel
theorem dL_setChanges_16 : decode cL_setChanges 16 = .ok (.ireturn, 1) := by decide +kernel
theorem dL_reportByte_0 : decode cL_reportByte 0 = .ok (.aload_n 2, 1) := by decide +kernel
theorem dL_reportByte_1 : decode cL_reportByte 1 = .ok (.iconst 0, 1) := by decide +kernel
theorem dL_reportByte_2 : decode cL_reportByte 2 = .ok (.aload_n 0, 1) := by decide +kernel
theorem dL_reportByte_3 : decode cL_reportByte 3 = .ok (.iload_n 1, 1) := by decide +kernel
theorem dL_reportByte_4 : decode cL_reportByte 4 = .ok (.invokevirtual 138, 3) := by decide +kernel
theorem dL_reportByte_7 : decode cL_reportByte 7 = .ok (.i2l, 1) := by decide +kernel
theorem dL_reportByte_8 : decode cL_reportByte 8 = .ok (.lastore, 1) := by decide +kernel
theorem dL_reportByte_9 : decode cL_reportByte 9 = .ok (.goto 6, 3) := by decide +kernel
theorem dL_reportByte_12 : decode cL_reportByte 12 = .ok (.astore_n 3, 1) := by decide +kernel
theorem dL_reportByte_13 : decode cL_reportByte 13 = .ok (.iconst 1, 1) := by decide +kernel
theorem dL_reportByte_14 : decode cL_reportByte 14 = .ok (.ireturn, 1) := by decide +kernel
theorem dL_reportByte_15 : decode cL_reportByte 15 = .ok (.iconst 0, 1) := by decide +kernel
theorem dL_reportByte_16 : decode cL_reportByte 16 = .ok (.ireturn, 1) := by decide +kernel
theorem dL_restore_0 : decode cL_restore 0 = .ok (.aload_n 1, 1) := by decide +kernel
theorem dL_restore_1 : decode cL_restore 1 = .ok (.iconst 0, 1) := by decide +kernel
theorem dL_restore_2 : decode cL_restore 2 = .ok (.aload_n 0, 1) := by decide +kernel
theorem dL_restore_3 : decode cL_restore 3 = .ok (.invokevirtual 141, 3) := by decide +kernel
theorem dL_restore_6 : decode cL_restore 6 = .ok (.i2l, 1) := by decide +kernel
theorem dL_restore_7 : decode cL_restore 7 = .ok (.lastore, 1) := by decide +kernel
theorem dL_restore_8 : decode cL_restore 8 = .ok (.goto 6, 3) := by decide +kernel
theorem dL_restore_11 : decode cL_restore 11 = .ok (.astore_n 2, 1) := by decide +kernel
theorem dL_restore_12 : decode cL_restore 12 = .ok (.iconst 1, 1) := by decide +kernel
theorem dL_restore_13 : decode cL_restore 13 = .ok (.ireturn, 1) := by decide +kernel
theorem dL_restore_14 : decode cL_restore 14 = .ok (.iconst 0, 1) := by decide +kernel
theorem dL_restore_15 : decode cL_restore 15 = .ok (.ireturn, 1) := by decide +kernel
