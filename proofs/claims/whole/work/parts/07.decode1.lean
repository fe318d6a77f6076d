theorem dX0_init_0 : decode cX0_init 0 = .ok (.aload_n 0, 1) := by decide +kernel
theorem dX0_init_1 : decode cX0_init 1 = .ok (.invokespecial 3, 3) := by decide +kernel
theorem dX0_init_4 : decode cX0_init 4 = .ok (.aload_n 0, 1) := by decide +kernel
theorem dX0_init_5 : decode cX0_init 5 = .ok (.iconst 4, 1) := by decide +kernel
theorem dX0_init_6 : decode cX0_init 6 = .ok (.putfield 9, 3) := by decide +kernel
theorem dX0_init_9 : decode cX0_init 9 = .ok (.aload_n 0, 1) := by decide +kernel
theorem dX0_init_10 : decode cX0_init 10 = .ok (.iconst 3, 1) := by decide +kernel
theorem dX0_init_11 : decode cX0_init 11 = .ok (.putfield 15, 3) := by decide +kernel
theorem dX0_init_14 : decode cX0_init 14 = .ok (.aload_n 0, 1) := by decide +kernel
theorem dX0_init_15 : decode cX0_init 15 = .ok (.iconst 1, 1) := by decide +kernel
theorem dX0_init_16 : decode cX0_init 16 = .ok (.putfield 18, 3) := by decide +kernel
theorem dX0_init_19 : decode cX0_init 19 = .ok (.aload_n 0, 1) := by decide +kernel
theorem dX0_init_20 : decode cX0_init 20 = .ok (.bipush 10, 2) := by decide +kernel
theorem dX0_init_22 : decode cX0_init 22 = .ok (.newarray .long, 2) := by decide +kernel
theorem dX0_init_24 : decode cX0_init 24 = .ok (.putfield 21, 3) := by decide +kernel
theorem dX0_init_27 : decode cX0_init 27 = .ok (.aload_n 0, 1) := by decide +kernel
theorem dX0_init_28 : decode cX0_init 28 = .ok (.bipush 10, 2) := by decide +kernel
theorem dX0_init_30 : decode cX0_init 30 = .ok (.newarray .long, 2) := by decide +kernel
theorem dX0_init_32 : decode cX0_init 32 = .ok (.putfield 25, 3) := by decide +kernel
theorem dX0_init_35 : decode cX0_init 35 = .ok (.aload_n 0, 1) := by decide +kernel
theorem dX0_init_36 : decode cX0_init 36 = .ok (.bipush 10, 2) := by decide +kernel
theorem dX0_init_38 : decode cX0_init 38 = .ok (.newarray .int, 2) := by decide +kernel
theorem dX0_init_40 : decode cX0_init 40 = .ok (.putfield 28, 3) := by decide +kernel
theorem dX0_init_43 : decode cX0_init 43 = .ok (.aload_n 0, 1) := by decide +kernel
theorem dX0_init_44 : decode cX0_init 44 = .ok (.bipush 10, 2) := by decide +kernel
theorem dX0_init_46 : decode cX0_init 46 = .ok (.newarray .int, 2) := by decide +kernel
theorem dX0_init_48 : decode cX0_init 48 = .ok (.putfield 32, 3) := by decide +kernel
theorem dX0_init_51 : decode cX0_init 51 = .ok (.aload_n 0, 1) := by decide +kernel
theorem dX0_init_52 : decode cX0_init 52 = .ok (.bipush 10, 2) := by decide +kernel
theorem dX0_init_54 : decode cX0_init 54 = .ok (.newarray .int, 2) := by decide +kernel
theorem dX0_init_56 : decode cX0_init 56 = .ok (.putfield 35, 3) := by decide +kernel
theorem dX0_init_59 : decode cX0_init 59 = .ok (.aload_n 0, 1) := by decide +kernel
theorem dX0_init_60 : decode cX0_init 60 = .ok (.bipush 6, 2) := by decide +kernel
theorem dX0_init_62 : decode cX0_init 62 = .ok (.newarray .int, 2) := by decide +kernel
theorem dX0_init_64 : decode cX0_init 64 = .ok (.putfield 38, 3) := by decide +kernel
theorem dX0_init_67 : decode cX0_init 67 = .ok (.return_, 1) := by decide +kernel
theorem dX0_empty_0 : decode cX0_empty 0 = .ok (.aload_n 0, 1) := by decide +kernel
theorem dX0_empty_1 : decode cX0_empty 1 = .ok (.iconst 4, 1) := by decide +kernel
theorem dX0_empty_2 : decode cX0_empty 2 = .ok (.putfield 9, 3) := by decide +kernel
theorem dX0_empty_5 : decode cX0_empty 5 = .ok (.aload_n 0, 1) := by decide +kernel
theorem dX0_empty_6 : decode cX0_empty 6 = .ok (.iconst 3, 1) := by decide +kernel
theorem dX0_empty_7 : decode cX0_empty 7 = .ok (.putfield 15, 3) := by decide +kernel
theorem dX0_empty_10 : decode cX0_empty 10 = .ok (.aload_n 0, 1) := by decide +kernel
theorem dX0_empty_11 : decode cX0_empty 11 = .ok (.iconst 1, 1) := by decide +kernel
theorem dX0_empty_12 : decode cX0_empty 12 = .ok (.putfield 18, 3) := by decide +kernel
theorem dX0_empty_15 : decode cX0_empty 15 = .ok (.aload_n 0, 1) := by decide +kernel
theorem dX0_empty_16 : decode cX0_empty 16 = .ok (.iconst 0, 1) := by decide +kernel
theorem dX0_empty_17 : decode cX0_empty 17 = .ok (.putfield 41, 3) := by decide +kernel
theorem dX0_empty_20 : decode cX0_empty 20 = .ok (.aload_n 0, 1) := by decide +kernel
theorem dX0_empty_21 : decode cX0_empty 21 = .ok (.iconst 0, 1) := by decide +kernel
theorem dX0_empty_22 : decode cX0_empty 22 = .ok (.putfield 44, 3) := by decide +kernel
theorem dX0_empty_25 : decode cX0_empty 25 = .ok (.aload_n 0, 1) := by decide +kernel
theorem dX0_empty_26 : decode cX0_empty 26 = .ok (.iconst 0, 1) := by decide +kernel
theorem dX0_empty_27 : decode cX0_empty 27 = .ok (.putfield 47, 3) := by decide +kernel
theorem dX0_empty_30 : decode cX0_empty 30 = .ok (.return_, 1) := by decide +kernel
theorem dX0_copyFrom_0 : decode cX0_copyFrom 0 = .ok (.aload_n 0, 1) := by decide +kernel
theorem dX0_copyFrom_1 : decode cX0_copyFrom 1 = .ok (.aload_n 1, 1) := by decide +kernel
theorem dX0_copyFrom_2 : decode cX0_copyFrom 2 = .ok (.getfield 9, 3) := by decide +kernel
theorem dX0_copyFrom_5 : decode cX0_copyFrom 5 = .ok (.putfield 9, 3) := by decide +kernel
theorem dX0_copyFrom_8 : decode cX0_copyFrom 8 = .ok (.aload_n 0, 1) := by decide +kernel
theorem dX0_copyFrom_9 : decode cX0_copyFrom 9 = .ok (.aload_n 1, 1) := by decide +kernel
theorem dX0_copyFrom_10 : decode cX0_copyFrom 10 = .ok (.getfield 15, 3) := by decide +kernel
theorem dX0_copyFrom_13 : decode cX0_copyFrom 13 = .ok (.putfield 15, 3) := by decide +kernel
theorem dX0_copyFrom_16 : decode cX0_copyFrom 16 = .ok (.aload_n 0, 1) := by decide +kernel
theorem dX0_copyFrom_17 : decode cX0_copyFrom 17 = .ok (.aload_n 1, 1) := by decide +kernel
theorem dX0_copyFrom_18 : decode cX0_copyFrom 18 = .ok (.getfield 18, 3) := by decide +kernel
theorem dX0_copyFrom_21 : decode cX0_copyFrom 21 = .ok (.putfield 18, 3) := by decide +kernel
theorem dX0_copyFrom_24 : decode cX0_copyFrom 24 = .ok (.aload_n 0, 1) := by decide +kernel
theorem dX0_copyFrom_25 : decode cX0_copyFrom 25 = .ok (.aload_n 1, 1) := by decide +kernel
theorem dX0_copyFrom_26 : decode cX0_copyFrom 26 = .ok (.getfield 41, 3) := by decide +kernel
theorem dX0_copyFrom_29 : decode cX0_copyFrom 29 = .ok (.putfield 41, 3) := by decide +kernel
theorem dX0_copyFrom_32 : decode cX0_copyFrom 32 = .ok (.aload_n 0, 1) := by decide +kernel
theorem dX0_copyFrom_33 : decode cX0_copyFrom 33 = .ok (.aload_n 1, 1) := by decide +kernel
theorem dX0_copyFrom_34 : decode cX0_copyFrom 34 = .ok (.getfield 44, 3) := by decide +kernel
theorem dX0_copyFrom_37 : decode cX0_copyFrom 37 = .ok (.putfield 44, 3) := by decide +kernel
theorem dX0_copyFrom_40 : decode cX0_copyFrom 40 = .ok (.aload_n 0, 1) := by decide +kernel
theorem dX0_copyFrom_41 : decode cX0_copyFrom 41 = .ok (.aload_n 1, 1) := by decide +kernel
theorem dX0_copyFrom_42 : decode cX0_copyFrom 42 = .ok (.getfield 47, 3) := by decide +kernel
theorem dX0_copyFrom_45 : decode cX0_copyFrom 45 = .ok (.putfield 47, 3) := by decide +kernel
theorem dX0_copyFrom_48 : decode cX0_copyFrom 48 = .ok (.iconst 0, 1) := by decide +kernel
theorem dX0_copyFrom_49 : decode cX0_copyFrom 49 = .ok (.istore_n 2, 1) := by decide +kernel
theorem dX0_copyFrom_50 : decode cX0_copyFrom 50 = .ok (.iload_n 2, 1) := by decide +kernel
theorem dX0_copyFrom_51 : decode cX0_copyFrom 51 = .ok (.bipush 10, 2) := by decide +kernel
theorem dX0_copyFrom_53 : decode cX0_copyFrom 53 = .ok (.if_icmp .ge 69, 3) := by decide +kernel
theorem dX0_copyFrom_56 : decode cX0_copyFrom 56 = .ok (.aload_n 0, 1) := by decide +kernel
theorem dX0_copyFrom_57 : decode cX0_copyFrom 57 = .ok (.getfield 21, 3) := by decide +kernel
theorem dX0_copyFrom_60 : decode cX0_copyFrom 60 = .ok (.iload_n 2, 1) := by decide +kernel
theorem dX0_copyFrom_61 : decode cX0_copyFrom 61 = .ok (.aload_n 1, 1) := by decide +kernel
theorem dX0_copyFrom_62 : decode cX0_copyFrom 62 = .ok (.getfield 21, 3) := by decide +kernel
theorem dX0_copyFrom_65 : decode cX0_copyFrom 65 = .ok (.iload_n 2, 1) := by decide +kernel
theorem dX0_copyFrom_66 : decode cX0_copyFrom 66 = .ok (.laload, 1) := by decide +kernel
theorem dX0_copyFrom_67 : decode cX0_copyFrom 67 = .ok (.lastore, 1) := by decide +kernel
theorem dX0_copyFrom_68 : decode cX0_copyFrom 68 = .ok (.aload_n 0, 1) := by decide +kernel
theorem dX0_copyFrom_69 : decode cX0_copyFrom 69 = .ok (.getfield 25, 3) := by decide +kernel
theorem dX0_copyFrom_72 : decode cX0_copyFrom 72 = .ok (.iload_n 2, 1) := by decide +kernel
theorem dX0_copyFrom_73 : decode cX0_copyFrom 73 = .ok (.aload_n 1, 1) := by decide +kernel
theorem dX0_copyFrom_74 : decode cX0_copyFrom 74 = .ok (.getfield 25, 3) := by decide +kernel
theorem dX0_copyFrom_77 : decode cX0_copyFrom 77 = .ok (.iload_n 2, 1) := by decide +kernel
theorem dX0_copyFrom_78 : decode cX0_copyFrom 78 = .ok (.laload, 1) := by decide +kernel
theorem dX0_copyFrom_79 : decode cX0_copyFrom 79 = .ok (.lastore, 1) := by decide +kernel
theorem dX0_copyFrom_80 : decode cX0_copyFrom 80 = .ok (.aload_n 0, 1) := by decide +kernel
theorem dX0_copyFrom_81 : decode cX0_copyFrom 81 = .ok (.getfield 28, 3) := by decide +kernel
theorem dX0_copyFrom_84 : decode cX0_copyFrom 84 = .ok (.iload_n 2, 1) := by decide +kernel
theorem dX0_copyFrom_85 : decode cX0_copyFrom 85 = .ok (.aload_n 1, 1) := by decide +kernel
theorem dX0_copyFrom_86 : decode cX0_copyFrom 86 = .ok (.getfield 28, 3) := by decide +kernel
theorem dX0_copyFrom_89 : decode cX0_copyFrom 89 = .ok (.iload_n 2, 1) := by decide +kernel
theorem dX0_copyFrom_90 : decode cX0_copyFrom 90 = .ok (.iaload, 1) := by decide +kernel
theorem dX0_copyFrom_91 : decode cX0_copyFrom 91 = .ok (.iastore, 1) := by decide +kernel
theorem dX0_copyFrom_92 : decode cX0_copyFrom 92 = .ok (.aload_n 0, 1) := by decide +kernel
theorem dX0_copyFrom_93 : decode cX0_copyFrom 93 = .ok (.getfield 32, 3) := by decide +kernel
theorem dX0_copyFrom_96 : decode cX0_copyFrom 96 = .ok (.iload_n 2, 1) := by decide +kernel
theorem dX0_copyFrom_97 : decode cX0_copyFrom 97 = .ok (.aload_n 1, 1) := by decide +kernel
theorem dX0_copyFrom_98 : decode cX0_copyFrom 98 = .ok (.getfield 32, 3) := by decide +kernel
theorem dX0_copyFrom_101 : decode cX0_copyFrom 101 = .ok (.iload_n 2, 1) := by decide +kernel
theorem dX0_copyFrom_102 : decode cX0_copyFrom 102 = .ok (.iaload, 1) := by decide +kernel
theorem dX0_copyFrom_103 : decode cX0_copyFrom 103 = .ok (.iastore, 1) := by decide +kernel
theorem dX0_copyFrom_104 : decode cX0_copyFrom 104 = .ok (.aload_n 0, 1) := by decide +kernel
theorem dX0_copyFrom_105 : decode cX0_copyFrom 105 = .ok (.getfield 35, 3) := by decide +kernel
theorem dX0_copyFrom_108 : decode cX0_copyFrom 108 = .ok (.iload_n 2, 1) := by decide +kernel
theorem dX0_copyFrom_109 : decode cX0_copyFrom 109 = .ok (.aload_n 1, 1) := by decide +kernel
theorem dX0_copyFrom_110 : decode cX0_copyFrom 110 = .ok (.getfield 35, 3) := by decide +kernel
theorem dX0_copyFrom_113 : decode cX0_copyFrom 113 = .ok (.iload_n 2, 1) := by decide +kernel
theorem dX0_copyFrom_114 : decode cX0_copyFrom 114 = .ok (.iaload, 1) := by decide +kernel
theorem dX0_copyFrom_115 : decode cX0_copyFrom 115 = .ok (.iastore, 1) := by decide +kernel
theorem dX0_copyFrom_116 : decode cX0_copyFrom 116 = .ok (.iinc 2 1, 3) := by decide +kernel
theorem dX0_copyFrom_119 : decode cX0_copyFrom 119 = .ok (.goto (-69), 3) := by decide +kernel
theorem dX0_copyFrom_122 : decode cX0_copyFrom 122 = .ok (.iconst 0, 1) := by decide +kernel
theorem dX0_copyFrom_123 : decode cX0_copyFrom 123 = .ok (.istore_n 2, 1) := by decide +kernel
theorem dX0_copyFrom_124 : decode cX0_copyFrom 124 = .ok (.iload_n 2, 1) := by decide +kernel
theorem dX0_copyFrom_125 : decode cX0_copyFrom 125 = .ok (.bipush 6, 2) := by decide +kernel
theorem dX0_copyFrom_127 : decode cX0_copyFrom 127 = .ok (.if_icmp .ge 21, 3) := by decide +kernel
theorem dX0_copyFrom_130 : decode cX0_copyFrom 130 = .ok (.aload_n 0, 1) := by decide +kernel
theorem dX0_copyFrom_131 : decode cX0_copyFrom 131 = .ok (.getfield 38, 3) := by decide +kernel
theorem dX0_copyFrom_134 : decode cX0_copyFrom 134 = .ok (.iload_n 2, 1) := by decide +kernel
theorem dX0_copyFrom_135 : decode cX0_copyFrom 135 = .ok (.aload_n 1, 1) := by decide +kernel
theorem dX0_copyFrom_136 : decode cX0_copyFrom 136 = .ok (.getfield 38, 3) := by decide +kernel
theorem dX0_copyFrom_139 : decode cX0_copyFrom 139 = .ok (.iload_n 2, 1) := by decide +kernel
theorem dX0_copyFrom_140 : decode cX0_copyFrom 140 = .ok (.iaload, 1) := by decide +kernel
theorem dX0_copyFrom_141 : decode cX0_copyFrom 141 = .ok (.iastore, 1) := by decide +kernel
theorem dX0_copyFrom_142 : decode cX0_copyFrom 142 = .ok (.iinc 2 1, 3) := by decide +kernel
theorem dX0_copyFrom_145 : decode cX0_copyFrom 145 = .ok (.goto (-21), 3) := by decide +kernel
theorem dX0_copyFrom_148 : decode cX0_copyFrom 148 = .ok (.return_, 1) := by decide +kernel
theorem dX0_addRow_0 : decode cX0_addRow 0 = .ok (.aload_n 0, 1) := by decide +kernel
theorem dX0_addRow_1 : decode cX0_addRow 1 = .ok (.getfield 41, 3) := by decide +kernel
theorem dX0_addRow_4 : decode cX0_addRow 4 = .ok (.bipush 10, 2) := by decide +kernel
theorem dX0_addRow_6 : decode cX0_addRow 6 = .ok (.if_icmp .ge 64, 3) := by decide +kernel
theorem dX0_addRow_9 : decode cX0_addRow 9 = .ok (.aload_n 0, 1) := by decide +kernel
theorem dX0_addRow_10 : decode cX0_addRow 10 = .ok (.getfield 21, 3) := by decide +kernel
theorem dX0_addRow_13 : decode cX0_addRow 13 = .ok (.aload_n 0, 1) := by decide +kernel
theorem dX0_addRow_14 : decode cX0_addRow 14 = .ok (.getfield 41, 3) := by decide +kernel
theorem dX0_addRow_17 : decode cX0_addRow 17 = .ok (.lload_n 1, 1) := by decide +kernel
theorem dX0_addRow_18 : decode cX0_addRow 18 = .ok (.lastore, 1) := by decide +kernel
theorem dX0_addRow_19 : decode cX0_addRow 19 = .ok (.aload_n 0, 1) := by decide +kernel
theorem dX0_addRow_20 : decode cX0_addRow 20 = .ok (.getfield 25, 3) := by decide +kernel
theorem dX0_addRow_23 : decode cX0_addRow 23 = .ok (.aload_n 0, 1) := by decide +kernel
theorem dX0_addRow_24 : decode cX0_addRow 24 = .ok (.getfield 41, 3) := by decide +kernel
theorem dX0_addRow_27 : decode cX0_addRow 27 = .ok (.lload_n 3, 1) := by decide +kernel
theorem dX0_addRow_28 : decode cX0_addRow 28 = .ok (.lastore, 1) := by decide +kernel
theorem dX0_addRow_29 : decode cX0_addRow 29 = .ok (.aload_n 0, 1) := by decide +kernel
theorem dX0_addRow_30 : decode cX0_addRow 30 = .ok (.getfield 28, 3) := by decide +kernel
theorem dX0_addRow_33 : decode cX0_addRow 33 = .ok (.aload_n 0, 1) := by decide +kernel
theorem dX0_addRow_34 : decode cX0_addRow 34 = .ok (.getfield 41, 3) := by decide +kernel
theorem dX0_addRow_37 : decode cX0_addRow 37 = .ok (.iload 5, 2) := by decide +kernel
theorem dX0_addRow_39 : decode cX0_addRow 39 = .ok (.iastore, 1) := by decide +kernel
theorem dX0_addRow_40 : decode cX0_addRow 40 = .ok (.aload_n 0, 1) := by decide +kernel
theorem dX0_addRow_41 : decode cX0_addRow 41 = .ok (.getfield 32, 3) := by decide +kernel
theorem dX0_addRow_44 : decode cX0_addRow 44 = .ok (.aload_n 0, 1) := by decide +kernel
theorem dX0_addRow_45 : decode cX0_addRow 45 = .ok (.getfield 41, 3) := by decide +kernel
theorem dX0_addRow_48 : decode cX0_addRow 48 = .ok (.iconst 0, 1) := by decide +kernel
theorem dX0_addRow_49 : decode cX0_addRow 49 = .ok (.iastore, 1) := by decide +kernel
theorem dX0_addRow_50 : decode cX0_addRow 50 = .ok (.aload_n 0, 1) := by decide +kernel
theorem dX0_addRow_51 : decode cX0_addRow 51 = .ok (.getfield 35, 3) := by decide +kernel
theorem dX0_addRow_54 : decode cX0_addRow 54 = .ok (.aload_n 0, 1) := by decide +kernel
theorem dX0_addRow_55 : decode cX0_addRow 55 = .ok (.getfield 41, 3) := by decide +kernel
theorem dX0_addRow_58 : decode cX0_addRow 58 = .ok (.iconst (-1), 1) := by decide +kernel
theorem dX0_addRow_59 : decode cX0_addRow 59 = .ok (.iastore, 1) := by decide +kernel
theorem dX0_addRow_60 : decode cX0_addRow 60 = .ok (.aload_n 0, 1) := by decide +kernel
theorem dX0_addRow_61 : decode cX0_addRow 61 = .ok (.dup, 1) := by decide +kernel
theorem dX0_addRow_62 : decode cX0_addRow 62 = .ok (.getfield 41, 3) := by decide +kernel
theorem dX0_addRow_65 : decode cX0_addRow 65 = .ok (.iconst 1, 1) := by decide +kernel
theorem dX0_addRow_66 : decode cX0_addRow 66 = .ok (.iadd, 1) := by decide +kernel
theorem dX0_addRow_67 : decode cX0_addRow 67 = .ok (.putfield 41, 3) := by decide +kernel
theorem dX0_addRow_70 : decode cX0_addRow 70 = .ok (.return_, 1) := by decide +kernel
theorem dX0_withSign_0 : decode cX0_withSign 0 = .ok (.lload_n 0, 1) := by decide +kernel
theorem dX0_withSign_1 : decode cX0_withSign 1 = .ok (.iload_n 3, 1) := by decide +kernel
theorem dX0_withSign_2 : decode cX0_withSign 2 = .ok (.i2l, 1) := by decide +kernel
theorem dX0_withSign_3 : decode cX0_withSign 3 = .ok (.bipush 8, 2) := by decide +kernel
theorem dX0_withSign_5 : decode cX0_withSign 5 = .ok (.iload_n 2, 1) := by decide +kernel
theorem dX0_withSign_6 : decode cX0_withSign 6 = .ok (.imul, 1) := by decide +kernel
theorem dX0_withSign_7 : decode cX0_withSign 7 = .ok (.lshl, 1) := by decide +kernel
theorem dX0_withSign_8 : decode cX0_withSign 8 = .ok (.lor, 1) := by decide +kernel
theorem dX0_withSign_9 : decode cX0_withSign 9 = .ok (.lreturn, 1) := by decide +kernel
theorem dX0_signOfName_0 : decode cX0_signOfName 0 = .ok (.lload_n 0, 1) := by decide +kernel
theorem dX0_signOfName_1 : decode cX0_signOfName 1 = .ok (.bipush 8, 2) := by decide +kernel
theorem dX0_signOfName_3 : decode cX0_signOfName 3 = .ok (.iload_n 2, 1) := by decide +kernel
theorem dX0_signOfName_4 : decode cX0_signOfName 4 = .ok (.imul, 1) := by decide +kernel
theorem dX0_signOfName_5 : decode cX0_signOfName 5 = .ok (.lushr, 1) := by decide +kernel
theorem dX0_signOfName_6 : decode cX0_signOfName 6 = .ok (.l2i, 1) := by decide +kernel
theorem dX0_signOfName_7 : decode cX0_signOfName 7 = .ok (.sipush 255, 3) := by decide +kernel
theorem dX0_signOfName_10 : decode cX0_signOfName 10 = .ok (.iand, 1) := by decide +kernel
theorem dX0_signOfName_11 : decode cX0_signOfName 11 = .ok (.ireturn, 1) := by decide +kernel
theorem dX0_rowNamed_0 : decode cX0_rowNamed 0 = .ok (.iconst 0, 1) := by decide +kernel
theorem dX0_rowNamed_1 : decode cX0_rowNamed 1 = .ok (.istore_n 3, 1) := by decide +kernel
theorem dX0_rowNamed_2 : decode cX0_rowNamed 2 = .ok (.iload_n 3, 1) := by decide +kernel
theorem dX0_rowNamed_3 : decode cX0_rowNamed 3 = .ok (.aload_n 0, 1) := by decide +kernel
theorem dX0_rowNamed_4 : decode cX0_rowNamed 4 = .ok (.getfield 41, 3) := by decide +kernel
theorem dX0_rowNamed_7 : decode cX0_rowNamed 7 = .ok (.if_icmp .ge 22, 3) := by decide +kernel
theorem dX0_rowNamed_10 : decode cX0_rowNamed 10 = .ok (.aload_n 0, 1) := by decide +kernel
theorem dX0_rowNamed_11 : decode cX0_rowNamed 11 = .ok (.getfield 21, 3) := by decide +kernel
theorem dX0_rowNamed_14 : decode cX0_rowNamed 14 = .ok (.iload_n 3, 1) := by decide +kernel
theorem dX0_rowNamed_15 : decode cX0_rowNamed 15 = .ok (.laload, 1) := by decide +kernel
theorem dX0_rowNamed_16 : decode cX0_rowNamed 16 = .ok (.lload_n 1, 1) := by decide +kernel
theorem dX0_rowNamed_17 : decode cX0_rowNamed 17 = .ok (.lcmp, 1) := by decide +kernel
theorem dX0_rowNamed_18 : decode cX0_rowNamed 18 = .ok (.ifCond .ne 5, 3) := by decide +kernel
theorem dX0_rowNamed_21 : decode cX0_rowNamed 21 = .ok (.iload_n 3, 1) := by decide +kernel
theorem dX0_rowNamed_22 : decode cX0_rowNamed 22 = .ok (.ireturn, 1) := by decide +kernel
theorem dX0_rowNamed_23 : decode cX0_rowNamed 23 = .ok (.iinc 3 1, 3) := by decide +kernel
theorem dX0_rowNamed_26 : decode cX0_rowNamed 26 = .ok (.goto (-24), 3) := by decide +kernel
theorem dX0_rowNamed_29 : decode cX0_rowNamed 29 = .ok (.iconst (-1), 1) := by decide +kernel
theorem dX0_rowNamed_30 : decode cX0_rowNamed 30 = .ok (.ireturn, 1) := by decide +kernel
theorem dX0_withLetter_0 : decode cX0_withLetter 0 = .ok (.lload_n 0, 1) := by decide +kernel
theorem dX0_withLetter_1 : decode cX0_withLetter 1 = .ok (.iload_n 3, 1) := by decide +kernel
theorem dX0_withLetter_2 : decode cX0_withLetter 2 = .ok (.i2l, 1) := by decide +kernel
theorem dX0_withLetter_3 : decode cX0_withLetter 3 = .ok (.iconst 2, 1) := by decide +kernel
theorem dX0_withLetter_4 : decode cX0_withLetter 4 = .ok (.iload_n 2, 1) := by decide +kernel
theorem dX0_withLetter_5 : decode cX0_withLetter 5 = .ok (.imul, 1) := by decide +kernel
theorem dX0_withLetter_6 : decode cX0_withLetter 6 = .ok (.lshl, 1) := by decide +kernel
theorem dX0_withLetter_7 : decode cX0_withLetter 7 = .ok (.lor, 1) := by decide +kernel
theorem dX0_withLetter_8 : decode cX0_withLetter 8 = .ok (.lreturn, 1) := by decide +kernel
theorem dX0_letterOf_0 : decode cX0_letterOf 0 = .ok (.iload_n 0, 1) := by decide +kernel
theorem dX0_letterOf_1 : decode cX0_letterOf 1 = .ok (.iconst 2, 1) := by decide +kernel
theorem dX0_letterOf_2 : decode cX0_letterOf 2 = .ok (.iload_n 1, 1) := by decide +kernel
theorem dX0_letterOf_3 : decode cX0_letterOf 3 = .ok (.imul, 1) := by decide +kernel
theorem dX0_letterOf_4 : decode cX0_letterOf 4 = .ok (.iushr, 1) := by decide +kernel
theorem dX0_letterOf_5 : decode cX0_letterOf 5 = .ok (.iconst 3, 1) := by decide +kernel
theorem dX0_letterOf_6 : decode cX0_letterOf 6 = .ok (.iand, 1) := by decide +kernel
theorem dX0_letterOf_7 : decode cX0_letterOf 7 = .ok (.ireturn, 1) := by decide +kernel
theorem dX0_letterAt_0 : decode cX0_letterAt 0 = .ok (.aload_n 0, 1) := by decide +kernel
theorem dX0_letterAt_1 : decode cX0_letterAt 1 = .ok (.getfield 25, 3) := by decide +kernel
theorem dX0_letterAt_4 : decode cX0_letterAt 4 = .ok (.iload_n 1, 1) := by decide +kernel
theorem dX0_letterAt_5 : decode cX0_letterAt 5 = .ok (.laload, 1) := by decide +kernel
theorem dX0_letterAt_6 : decode cX0_letterAt 6 = .ok (.iconst 2, 1) := by decide +kernel
theorem dX0_letterAt_7 : decode cX0_letterAt 7 = .ok (.iload_n 2, 1) := by decide +kernel
theorem dX0_letterAt_8 : decode cX0_letterAt 8 = .ok (.imul, 1) := by decide +kernel
theorem dX0_letterAt_9 : decode cX0_letterAt 9 = .ok (.lushr, 1) := by decide +kernel
theorem dX0_letterAt_10 : decode cX0_letterAt 10 = .ok (.l2i, 1) := by decide +kernel
theorem dX0_letterAt_11 : decode cX0_letterAt 11 = .ok (.iconst 3, 1) := by decide +kernel
theorem dX0_letterAt_12 : decode cX0_letterAt 12 = .ok (.iand, 1) := by decide +kernel
theorem dX0_letterAt_13 : decode cX0_letterAt 13 = .ok (.ireturn, 1) := by decide +kernel
theorem dX0_wordCount_0 : decode cX0_wordCount 0 = .ok (.iconst 1, 1) := by decide +kernel
theorem dX0_wordCount_1 : decode cX0_wordCount 1 = .ok (.istore_n 1, 1) := by decide +kernel
theorem dX0_wordCount_2 : decode cX0_wordCount 2 = .ok (.iconst 0, 1) := by decide +kernel
theorem dX0_wordCount_3 : decode cX0_wordCount 3 = .ok (.istore_n 2, 1) := by decide +kernel
theorem dX0_wordCount_4 : decode cX0_wordCount 4 = .ok (.iload_n 2, 1) := by decide +kernel
theorem dX0_wordCount_5 : decode cX0_wordCount 5 = .ok (.aload_n 0, 1) := by decide +kernel
theorem dX0_wordCount_6 : decode cX0_wordCount 6 = .ok (.getfield 15, 3) := by decide +kernel
theorem dX0_wordCount_9 : decode cX0_wordCount 9 = .ok (.if_icmp .ge 16, 3) := by decide +kernel
theorem dX0_wordCount_12 : decode cX0_wordCount 12 = .ok (.iload_n 1, 1) := by decide +kernel
theorem dX0_wordCount_13 : decode cX0_wordCount 13 = .ok (.aload_n 0, 1) := by decide +kernel
theorem dX0_wordCount_14 : decode cX0_wordCount 14 = .ok (.getfield 9, 3) := by decide +kernel
theorem dX0_wordCount_17 : decode cX0_wordCount 17 = .ok (.imul, 1) := by decide +kernel
theorem dX0_wordCount_18 : decode cX0_wordCount 18 = .ok (.istore_n 1, 1) := by decide +kernel
theorem dX0_wordCount_19 : decode cX0_wordCount 19 = .ok (.iinc 2 1, 3) := by decide +kernel
theorem dX0_wordCount_22 : decode cX0_wordCount 22 = .ok (.goto (-18), 3) := by decide +kernel
theorem dX0_wordCount_25 : decode cX0_wordCount 25 = .ok (.iload_n 1, 1) := by decide +kernel
theorem dX0_wordCount_26 : decode cX0_wordCount 26 = .ok (.ireturn, 1) := by decide +kernel
theorem dX0_codeOf_0 : decode cX0_codeOf 0 = .ok (.iconst 2, 1) := by decide +kernel
theorem dX0_codeOf_1 : decode cX0_codeOf 1 = .ok (.aload_n 0, 1) := by decide +kernel
theorem dX0_codeOf_2 : decode cX0_codeOf 2 = .ok (.getfield 9, 3) := by decide +kernel
theorem dX0_codeOf_5 : decode cX0_codeOf 5 = .ok (.invokestatic 50, 3) := by decide +kernel
theorem dX0_codeOf_8 : decode cX0_codeOf 8 = .ok (.istore_n 2, 1) := by decide +kernel
theorem dX0_codeOf_9 : decode cX0_codeOf 9 = .ok (.iconst 0, 1) := by decide +kernel
theorem dX0_codeOf_10 : decode cX0_codeOf 10 = .ok (.istore_n 3, 1) := by decide +kernel
theorem dX0_codeOf_11 : decode cX0_codeOf 11 = .ok (.iload_n 1, 1) := by decide +kernel
theorem dX0_codeOf_12 : decode cX0_codeOf 12 = .ok (.istore 4, 2) := by decide +kernel
theorem dX0_codeOf_14 : decode cX0_codeOf 14 = .ok (.aload_n 0, 1) := by decide +kernel
theorem dX0_codeOf_15 : decode cX0_codeOf 15 = .ok (.getfield 15, 3) := by decide +kernel
theorem dX0_codeOf_18 : decode cX0_codeOf 18 = .ok (.iconst 1, 1) := by decide +kernel
theorem dX0_codeOf_19 : decode cX0_codeOf 19 = .ok (.isub, 1) := by decide +kernel
theorem dX0_codeOf_20 : decode cX0_codeOf 20 = .ok (.istore 5, 2) := by decide +kernel
theorem dX0_codeOf_22 : decode cX0_codeOf 22 = .ok (.iload 5, 2) := by decide +kernel
theorem dX0_codeOf_24 : decode cX0_codeOf 24 = .ok (.ifCond .lt 27, 3) := by decide +kernel
theorem dX0_codeOf_27 : decode cX0_codeOf 27 = .ok (.iload_n 3, 1) := by decide +kernel
theorem dX0_codeOf_28 : decode cX0_codeOf 28 = .ok (.iload 4, 2) := by decide +kernel
theorem dX0_codeOf_30 : decode cX0_codeOf 30 = .ok (.iload_n 2, 1) := by decide +kernel
theorem dX0_codeOf_31 : decode cX0_codeOf 31 = .ok (.irem, 1) := by decide +kernel
theorem dX0_codeOf_32 : decode cX0_codeOf 32 = .ok (.iconst 2, 1) := by decide +kernel
theorem dX0_codeOf_33 : decode cX0_codeOf 33 = .ok (.iload 5, 2) := by decide +kernel
theorem dX0_codeOf_35 : decode cX0_codeOf 35 = .ok (.imul, 1) := by decide +kernel
theorem dX0_codeOf_36 : decode cX0_codeOf 36 = .ok (.ishl, 1) := by decide +kernel
theorem dX0_codeOf_37 : decode cX0_codeOf 37 = .ok (.ior, 1) := by decide +kernel
theorem dX0_codeOf_38 : decode cX0_codeOf 38 = .ok (.istore_n 3, 1) := by decide +kernel
theorem dX0_codeOf_39 : decode cX0_codeOf 39 = .ok (.iload 4, 2) := by decide +kernel
theorem dX0_codeOf_41 : decode cX0_codeOf 41 = .ok (.iload_n 2, 1) := by decide +kernel
theorem dX0_codeOf_42 : decode cX0_codeOf 42 = .ok (.idiv, 1) := by decide +kernel
theorem dX0_codeOf_43 : decode cX0_codeOf 43 = .ok (.istore 4, 2) := by decide +kernel
theorem dX0_codeOf_45 : decode cX0_codeOf 45 = .ok (.iinc 5 (-1), 3) := by decide +kernel
theorem dX0_codeOf_48 : decode cX0_codeOf 48 = .ok (.goto (-26), 3) := by decide +kernel
theorem dX0_codeOf_51 : decode cX0_codeOf 51 = .ok (.iload_n 3, 1) := by decide +kernel
theorem dX0_codeOf_52 : decode cX0_codeOf 52 = .ok (.ireturn, 1) := by decide +kernel
theorem dX0_wordOf_0 : decode cX0_wordOf 0 = .ok (.iconst 0, 1) := by decide +kernel
theorem dX0_wordOf_1 : decode cX0_wordOf 1 = .ok (.istore_n 2, 1) := by decide +kernel
theorem dX0_wordOf_2 : decode cX0_wordOf 2 = .ok (.iconst 0, 1) := by decide +kernel
theorem dX0_wordOf_3 : decode cX0_wordOf 3 = .ok (.istore_n 3, 1) := by decide +kernel
theorem dX0_wordOf_4 : decode cX0_wordOf 4 = .ok (.iload_n 3, 1) := by decide +kernel
theorem dX0_wordOf_5 : decode cX0_wordOf 5 = .ok (.aload_n 0, 1) := by decide +kernel
theorem dX0_wordOf_6 : decode cX0_wordOf 6 = .ok (.getfield 15, 3) := by decide +kernel
theorem dX0_wordOf_9 : decode cX0_wordOf 9 = .ok (.if_icmp .ge 22, 3) := by decide +kernel
theorem dX0_wordOf_12 : decode cX0_wordOf 12 = .ok (.iload_n 2, 1) := by decide +kernel
theorem dX0_wordOf_13 : decode cX0_wordOf 13 = .ok (.aload_n 0, 1) := by decide +kernel
theorem dX0_wordOf_14 : decode cX0_wordOf 14 = .ok (.getfield 9, 3) := by decide +kernel
theorem dX0_wordOf_17 : decode cX0_wordOf 17 = .ok (.imul, 1) := by decide +kernel
theorem dX0_wordOf_18 : decode cX0_wordOf 18 = .ok (.iload_n 1, 1) := by decide +kernel
theorem dX0_wordOf_19 : decode cX0_wordOf 19 = .ok (.iload_n 3, 1) := by decide +kernel
theorem dX0_wordOf_20 : decode cX0_wordOf 20 = .ok (.invokestatic 56, 3) := by decide +kernel
theorem dX0_wordOf_23 : decode cX0_wordOf 23 = .ok (.iadd, 1) := by decide +kernel
theorem dX0_wordOf_24 : decode cX0_wordOf 24 = .ok (.istore_n 2, 1) := by decide +kernel
theorem dX0_wordOf_25 : decode cX0_wordOf 25 = .ok (.iinc 3 1, 3) := by decide +kernel
theorem dX0_wordOf_28 : decode cX0_wordOf 28 = .ok (.goto (-24), 3) := by decide +kernel
theorem dX0_wordOf_31 : decode cX0_wordOf 31 = .ok (.iload_n 2, 1) := by decide +kernel
theorem dX0_wordOf_32 : decode cX0_wordOf 32 = .ok (.ireturn, 1) := by decide +kernel
theorem dX0_differing_0 : decode cX0_differing 0 = .ok (.iload_n 0, 1) := by decide +kernel
theorem dX0_differing_1 : decode cX0_differing 1 = .ok (.iload_n 1, 1) := by decide +kernel
theorem dX0_differing_2 : decode cX0_differing 2 = .ok (.ixor, 1) := by decide +kernel
theorem dX0_differing_3 : decode cX0_differing 3 = .ok (.iconst 1, 1) := by decide +kernel
theorem dX0_differing_4 : decode cX0_differing 4 = .ok (.iconst 2, 1) := by decide +kernel
theorem dX0_differing_5 : decode cX0_differing 5 = .ok (.iload_n 2, 1) := by decide +kernel
theorem dX0_differing_6 : decode cX0_differing 6 = .ok (.imul, 1) := by decide +kernel
theorem dX0_differing_7 : decode cX0_differing 7 = .ok (.ishl, 1) := by decide +kernel
theorem dX0_differing_8 : decode cX0_differing 8 = .ok (.iconst 1, 1) := by decide +kernel
theorem dX0_differing_9 : decode cX0_differing 9 = .ok (.isub, 1) := by decide +kernel
theorem dX0_differing_10 : decode cX0_differing 10 = .ok (.iand, 1) := by decide +kernel
theorem dX0_differing_11 : decode cX0_differing 11 = .ok (.istore_n 3, 1) := by decide +kernel
theorem dX0_differing_12 : decode cX0_differing 12 = .ok (.iload_n 3, 1) := by decide +kernel
theorem dX0_differing_13 : decode cX0_differing 13 = .ok (.iload_n 3, 1) := by decide +kernel
theorem dX0_differing_14 : decode cX0_differing 14 = .ok (.iconst 1, 1) := by decide +kernel
theorem dX0_differing_15 : decode cX0_differing 15 = .ok (.iushr, 1) := by decide +kernel
theorem dX0_differing_16 : decode cX0_differing 16 = .ok (.ior, 1) := by decide +kernel
theorem dX0_differing_17 : decode cX0_differing 17 = .ok (.ldc 59, 2) := by decide +kernel
theorem dX0_differing_19 : decode cX0_differing 19 = .ok (.iand, 1) := by decide +kernel
theorem dX0_differing_20 : decode cX0_differing 20 = .ok (.invokestatic 60, 3) := by decide +kernel
theorem dX0_differing_23 : decode cX0_differing 23 = .ok (.ireturn, 1) := by decide +kernel
theorem dX0_isOut_0 : decode cX0_isOut 0 = .ok (.aload_n 0, 1) := by decide +kernel
theorem dX0_isOut_1 : decode cX0_isOut 1 = .ok (.getfield 44, 3) := by decide +kernel
theorem dX0_isOut_4 : decode cX0_isOut 4 = .ok (.iload_n 1, 1) := by decide +kernel
theorem dX0_isOut_5 : decode cX0_isOut 5 = .ok (.iushr, 1) := by decide +kernel
theorem dX0_isOut_6 : decode cX0_isOut 6 = .ok (.iconst 1, 1) := by decide +kernel
theorem dX0_isOut_7 : decode cX0_isOut 7 = .ok (.iand, 1) := by decide +kernel
theorem dX0_isOut_8 : decode cX0_isOut 8 = .ok (.ifCond .eq 7, 3) := by decide +kernel
theorem dX0_isOut_11 : decode cX0_isOut 11 = .ok (.iconst 1, 1) := by decide +kernel
theorem dX0_isOut_12 : decode cX0_isOut 12 = .ok (.goto 4, 3) := by decide +kernel
theorem dX0_isOut_15 : decode cX0_isOut 15 = .ok (.iconst 0, 1) := by decide +kernel
theorem dX0_isOut_16 : decode cX0_isOut 16 = .ok (.ireturn, 1) := by decide +kernel
theorem dX0_lastStart_0 : decode cX0_lastStart 0 = .ok (.aload_n 0, 1) := by decide +kernel
theorem dX0_lastStart_1 : decode cX0_lastStart 1 = .ok (.getfield 28, 3) := by decide +kernel
theorem dX0_lastStart_4 : decode cX0_lastStart 4 = .ok (.iload_n 1, 1) := by decide +kernel
theorem dX0_lastStart_5 : decode cX0_lastStart 5 = .ok (.iaload, 1) := by decide +kernel
theorem dX0_lastStart_6 : decode cX0_lastStart 6 = .ok (.aload_n 0, 1) := by decide +kernel
theorem dX0_lastStart_7 : decode cX0_lastStart 7 = .ok (.getfield 15, 3) := by decide +kernel
theorem dX0_lastStart_10 : decode cX0_lastStart 10 = .ok (.isub, 1) := by decide +kernel
theorem dX0_lastStart_11 : decode cX0_lastStart 11 = .ok (.ireturn, 1) := by decide +kernel
theorem dX0_lettersFrom_0 : decode cX0_lettersFrom 0 = .ok (.iconst 1, 1) := by decide +kernel
theorem dX0_lettersFrom_1 : decode cX0_lettersFrom 1 = .ok (.aload_n 0, 1) := by decide +kernel
theorem dX0_lettersFrom_2 : decode cX0_lettersFrom 2 = .ok (.getfield 15, 3) := by decide +kernel
theorem dX0_lettersFrom_5 : decode cX0_lettersFrom 5 = .ok (.ishl, 1) := by decide +kernel
theorem dX0_lettersFrom_6 : decode cX0_lettersFrom 6 = .ok (.iconst 1, 1) := by decide +kernel
theorem dX0_lettersFrom_7 : decode cX0_lettersFrom 7 = .ok (.isub, 1) := by decide +kernel
theorem dX0_lettersFrom_8 : decode cX0_lettersFrom 8 = .ok (.iload_n 1, 1) := by decide +kernel
theorem dX0_lettersFrom_9 : decode cX0_lettersFrom 9 = .ok (.ishl, 1) := by decide +kernel
theorem dX0_lettersFrom_10 : decode cX0_lettersFrom 10 = .ok (.ireturn, 1) := by decide +kernel
theorem dX0_isPlace_0 : decode cX0_isPlace 0 = .ok (.iload_n 2, 1) := by decide +kernel
theorem dX0_isPlace_1 : decode cX0_isPlace 1 = .ok (.ifCond .lt 39, 3) := by decide +kernel
theorem dX0_isPlace_4 : decode cX0_isPlace 4 = .ok (.iload_n 2, 1) := by decide +kernel
theorem dX0_isPlace_5 : decode cX0_isPlace 5 = .ok (.aload_n 0, 1) := by decide +kernel
theorem dX0_isPlace_6 : decode cX0_isPlace 6 = .ok (.iload_n 1, 1) := by decide +kernel
theorem dX0_isPlace_7 : decode cX0_isPlace 7 = .ok (.invokevirtual 66, 3) := by decide +kernel
theorem dX0_isPlace_10 : decode cX0_isPlace 10 = .ok (.if_icmp .gt 30, 3) := by decide +kernel
theorem dX0_isPlace_13 : decode cX0_isPlace 13 = .ok (.aload_n 0, 1) := by decide +kernel
theorem dX0_isPlace_14 : decode cX0_isPlace 14 = .ok (.iload_n 1, 1) := by decide +kernel
theorem dX0_isPlace_15 : decode cX0_isPlace 15 = .ok (.invokevirtual 69, 3) := by decide +kernel
theorem dX0_isPlace_18 : decode cX0_isPlace 18 = .ok (.ifCond .ne 22, 3) := by decide +kernel
theorem dX0_isPlace_21 : decode cX0_isPlace 21 = .ok (.aload_n 0, 1) := by decide +kernel
theorem dX0_isPlace_22 : decode cX0_isPlace 22 = .ok (.getfield 32, 3) := by decide +kernel
theorem dX0_isPlace_25 : decode cX0_isPlace 25 = .ok (.iload_n 1, 1) := by decide +kernel
theorem dX0_isPlace_26 : decode cX0_isPlace 26 = .ok (.iaload, 1) := by decide +kernel
theorem dX0_isPlace_27 : decode cX0_isPlace 27 = .ok (.aload_n 0, 1) := by decide +kernel
theorem dX0_isPlace_28 : decode cX0_isPlace 28 = .ok (.iload_n 2, 1) := by decide +kernel
theorem dX0_isPlace_29 : decode cX0_isPlace 29 = .ok (.invokevirtual 73, 3) := by decide +kernel
theorem dX0_isPlace_32 : decode cX0_isPlace 32 = .ok (.iand, 1) := by decide +kernel
theorem dX0_isPlace_33 : decode cX0_isPlace 33 = .ok (.ifCond .ne 7, 3) := by decide +kernel
theorem dX0_isPlace_36 : decode cX0_isPlace 36 = .ok (.iconst 1, 1) := by decide +kernel
theorem dX0_isPlace_37 : decode cX0_isPlace 37 = .ok (.goto 4, 3) := by decide +kernel
theorem dX0_isPlace_40 : decode cX0_isPlace 40 = .ok (.iconst 0, 1) := by decide +kernel
theorem dX0_isPlace_41 : decode cX0_isPlace 41 = .ok (.ireturn, 1) := by decide +kernel
theorem dX0_codeAt_0 : decode cX0_codeAt 0 = .ok (.aload_n 0, 1) := by decide +kernel
theorem dX0_codeAt_1 : decode cX0_codeAt 1 = .ok (.getfield 25, 3) := by decide +kernel
theorem dX0_codeAt_4 : decode cX0_codeAt 4 = .ok (.iload_n 1, 1) := by decide +kernel
theorem dX0_codeAt_5 : decode cX0_codeAt 5 = .ok (.laload, 1) := by decide +kernel
theorem dX0_codeAt_6 : decode cX0_codeAt 6 = .ok (.iconst 2, 1) := by decide +kernel
theorem dX0_codeAt_7 : decode cX0_codeAt 7 = .ok (.iload_n 2, 1) := by decide +kernel
theorem dX0_codeAt_8 : decode cX0_codeAt 8 = .ok (.imul, 1) := by decide +kernel
theorem dX0_codeAt_9 : decode cX0_codeAt 9 = .ok (.lushr, 1) := by decide +kernel
theorem dX0_codeAt_10 : decode cX0_codeAt 10 = .ok (.l2i, 1) := by decide +kernel
theorem dX0_codeAt_11 : decode cX0_codeAt 11 = .ok (.iconst 1, 1) := by decide +kernel
theorem dX0_codeAt_12 : decode cX0_codeAt 12 = .ok (.iconst 2, 1) := by decide +kernel
theorem dX0_codeAt_13 : decode cX0_codeAt 13 = .ok (.aload_n 0, 1) := by decide +kernel
theorem dX0_codeAt_14 : decode cX0_codeAt 14 = .ok (.getfield 15, 3) := by decide +kernel
theorem dX0_codeAt_17 : decode cX0_codeAt 17 = .ok (.imul, 1) := by decide +kernel
theorem dX0_codeAt_18 : decode cX0_codeAt 18 = .ok (.ishl, 1) := by decide +kernel
theorem dX0_codeAt_19 : decode cX0_codeAt 19 = .ok (.iconst 1, 1) := by decide +kernel
theorem dX0_codeAt_20 : decode cX0_codeAt 20 = .ok (.isub, 1) := by decide +kernel
theorem dX0_codeAt_21 : decode cX0_codeAt 21 = .ok (.iand, 1) := by decide +kernel
theorem dX0_codeAt_22 : decode cX0_codeAt 22 = .ok (.ireturn, 1) := by decide +kernel
theorem dX0_placesOf_0 : decode cX0_placesOf 0 = .ok (.iconst 0, 1) := by decide +kernel
theorem dX0_placesOf_1 : decode cX0_placesOf 1 = .ok (.istore_n 2, 1) := by decide +kernel
theorem dX0_placesOf_2 : decode cX0_placesOf 2 = .ok (.iconst 0, 1) := by decide +kernel
theorem dX0_placesOf_3 : decode cX0_placesOf 3 = .ok (.istore_n 3, 1) := by decide +kernel
theorem dX0_placesOf_4 : decode cX0_placesOf 4 = .ok (.iload_n 3, 1) := by decide +kernel
theorem dX0_placesOf_5 : decode cX0_placesOf 5 = .ok (.aload_n 0, 1) := by decide +kernel
theorem dX0_placesOf_6 : decode cX0_placesOf 6 = .ok (.iload_n 1, 1) := by decide +kernel
theorem dX0_placesOf_7 : decode cX0_placesOf 7 = .ok (.invokevirtual 66, 3) := by decide +kernel
theorem dX0_placesOf_10 : decode cX0_placesOf 10 = .ok (.if_icmp .gt 21, 3) := by decide +kernel
theorem dX0_placesOf_13 : decode cX0_placesOf 13 = .ok (.aload_n 0, 1) := by decide +kernel
theorem dX0_placesOf_14 : decode cX0_placesOf 14 = .ok (.iload_n 1, 1) := by decide +kernel
theorem dX0_placesOf_15 : decode cX0_placesOf 15 = .ok (.iload_n 3, 1) := by decide +kernel
theorem dX0_placesOf_16 : decode cX0_placesOf 16 = .ok (.invokevirtual 76, 3) := by decide +kernel
theorem dX0_placesOf_19 : decode cX0_placesOf 19 = .ok (.ifCond .eq 6, 3) := by decide +kernel
theorem dX0_placesOf_22 : decode cX0_placesOf 22 = .ok (.iinc 2 1, 3) := by decide +kernel
theorem dX0_placesOf_25 : decode cX0_placesOf 25 = .ok (.iinc 3 1, 3) := by decide +kernel
theorem dX0_placesOf_28 : decode cX0_placesOf 28 = .ok (.goto (-24), 3) := by decide +kernel
theorem dX0_placesOf_31 : decode cX0_placesOf 31 = .ok (.iload_n 2, 1) := by decide +kernel
theorem dX0_placesOf_32 : decode cX0_placesOf 32 = .ok (.ireturn, 1) := by decide +kernel
theorem dX0_allPlaces_0 : decode cX0_allPlaces 0 = .ok (.iconst 0, 1) := by decide +kernel
theorem dX0_allPlaces_1 : decode cX0_allPlaces 1 = .ok (.istore_n 1, 1) := by decide +kernel
theorem dX0_allPlaces_2 : decode cX0_allPlaces 2 = .ok (.iconst 0, 1) := by decide +kernel
theorem dX0_allPlaces_3 : decode cX0_allPlaces 3 = .ok (.istore_n 2, 1) := by decide +kernel
theorem dX0_allPlaces_4 : decode cX0_allPlaces 4 = .ok (.iload_n 2, 1) := by decide +kernel
theorem dX0_allPlaces_5 : decode cX0_allPlaces 5 = .ok (.aload_n 0, 1) := by decide +kernel
theorem dX0_allPlaces_6 : decode cX0_allPlaces 6 = .ok (.getfield 41, 3) := by decide +kernel
theorem dX0_allPlaces_9 : decode cX0_allPlaces 9 = .ok (.if_icmp .ge 17, 3) := by decide +kernel
theorem dX0_allPlaces_12 : decode cX0_allPlaces 12 = .ok (.iload_n 1, 1) := by decide +kernel
theorem dX0_allPlaces_13 : decode cX0_allPlaces 13 = .ok (.aload_n 0, 1) := by decide +kernel
theorem dX0_allPlaces_14 : decode cX0_allPlaces 14 = .ok (.iload_n 2, 1) := by decide +kernel
theorem dX0_allPlaces_15 : decode cX0_allPlaces 15 = .ok (.invokevirtual 80, 3) := by decide +kernel
theorem dX0_allPlaces_18 : decode cX0_allPlaces 18 = .ok (.iadd, 1) := by decide +kernel
theorem dX0_allPlaces_19 : decode cX0_allPlaces 19 = .ok (.istore_n 1, 1) := by decide +kernel
theorem dX0_allPlaces_20 : decode cX0_allPlaces 20 = .ok (.iinc 2 1, 3) := by decide +kernel
theorem dX0_allPlaces_23 : decode cX0_allPlaces 23 = .ok (.goto (-19), 3) := by decide +kernel
theorem dX0_allPlaces_26 : decode cX0_allPlaces 26 = .ok (.iload_n 1, 1) := by decide +kernel
theorem dX0_allPlaces_27 : decode cX0_allPlaces 27 = .ok (.ireturn, 1) := by decide +kernel
theorem dX0_allCovered_0 : decode cX0_allCovered 0 = .ok (.iconst 0, 1) := by decide +kernel
theorem dX0_allCovered_1 : decode cX0_allCovered 1 = .ok (.istore_n 1, 1) := by decide +kernel
theorem dX0_allCovered_2 : decode cX0_allCovered 2 = .ok (.iconst 0, 1) := by decide +kernel
theorem dX0_allCovered_3 : decode cX0_allCovered 3 = .ok (.istore_n 2, 1) := by decide +kernel
theorem dX0_allCovered_4 : decode cX0_allCovered 4 = .ok (.iload_n 2, 1) := by decide +kernel
theorem dX0_allCovered_5 : decode cX0_allCovered 5 = .ok (.aload_n 0, 1) := by decide +kernel
theorem dX0_allCovered_6 : decode cX0_allCovered 6 = .ok (.getfield 41, 3) := by decide +kernel
theorem dX0_allCovered_9 : decode cX0_allCovered 9 = .ok (.if_icmp .ge 21, 3) := by decide +kernel
theorem dX0_allCovered_12 : decode cX0_allCovered 12 = .ok (.iload_n 1, 1) := by decide +kernel
theorem dX0_allCovered_13 : decode cX0_allCovered 13 = .ok (.aload_n 0, 1) := by decide +kernel
theorem dX0_allCovered_14 : decode cX0_allCovered 14 = .ok (.getfield 32, 3) := by decide +kernel
theorem dX0_allCovered_17 : decode cX0_allCovered 17 = .ok (.iload_n 2, 1) := by decide +kernel
theorem dX0_allCovered_18 : decode cX0_allCovered 18 = .ok (.iaload, 1) := by decide +kernel
theorem dX0_allCovered_19 : decode cX0_allCovered 19 = .ok (.invokestatic 60, 3) := by decide +kernel
theorem dX0_allCovered_22 : decode cX0_allCovered 22 = .ok (.iadd, 1) := by decide +kernel
theorem dX0_allCovered_23 : decode cX0_allCovered 23 = .ok (.istore_n 1, 1) := by decide +kernel
theorem dX0_allCovered_24 : decode cX0_allCovered 24 = .ok (.iinc 2 1, 3) := by decide +kernel
theorem dX0_allCovered_27 : decode cX0_allCovered 27 = .ok (.goto (-23), 3) := by decide +kernel
theorem dX0_allCovered_30 : decode cX0_allCovered 30 = .ok (.iload_n 1, 1) := by decide +kernel
theorem dX0_allCovered_31 : decode cX0_allCovered 31 = .ok (.ireturn, 1) := by decide +kernel
theorem dX0_chosenRows_0 : decode cX0_chosenRows 0 = .ok (.iconst 0, 1) := by decide +kernel
theorem dX0_chosenRows_1 : decode cX0_chosenRows 1 = .ok (.istore_n 1, 1) := by decide +kernel
theorem dX0_chosenRows_2 : decode cX0_chosenRows 2 = .ok (.iconst 0, 1) := by decide +kernel
theorem dX0_chosenRows_3 : decode cX0_chosenRows 3 = .ok (.istore_n 2, 1) := by decide +kernel
theorem dX0_chosenRows_4 : decode cX0_chosenRows 4 = .ok (.iload_n 2, 1) := by decide +kernel
theorem dX0_chosenRows_5 : decode cX0_chosenRows 5 = .ok (.aload_n 0, 1) := by decide +kernel
theorem dX0_chosenRows_6 : decode cX0_chosenRows 6 = .ok (.getfield 41, 3) := by decide +kernel
theorem dX0_chosenRows_9 : decode cX0_chosenRows 9 = .ok (.if_icmp .ge 22, 3) := by decide +kernel
theorem dX0_chosenRows_12 : decode cX0_chosenRows 12 = .ok (.aload_n 0, 1) := by decide +kernel
theorem dX0_chosenRows_13 : decode cX0_chosenRows 13 = .ok (.getfield 35, 3) := by decide +kernel
theorem dX0_chosenRows_16 : decode cX0_chosenRows 16 = .ok (.iload_n 2, 1) := by decide +kernel
theorem dX0_chosenRows_17 : decode cX0_chosenRows 17 = .ok (.iaload, 1) := by decide +kernel
theorem dX0_chosenRows_18 : decode cX0_chosenRows 18 = .ok (.iconst (-1), 1) := by decide +kernel
theorem dX0_chosenRows_19 : decode cX0_chosenRows 19 = .ok (.if_icmp .eq 6, 3) := by decide +kernel
theorem dX0_chosenRows_22 : decode cX0_chosenRows 22 = .ok (.iinc 1 1, 3) := by decide +kernel
theorem dX0_chosenRows_25 : decode cX0_chosenRows 25 = .ok (.iinc 2 1, 3) := by decide +kernel
theorem dX0_chosenRows_28 : decode cX0_chosenRows 28 = .ok (.goto (-24), 3) := by decide +kernel
theorem dX0_chosenRows_31 : decode cX0_chosenRows 31 = .ok (.iload_n 1, 1) := by decide +kernel
theorem dX0_chosenRows_32 : decode cX0_chosenRows 32 = .ok (.ireturn, 1) := by decide +kernel
theorem dX0_nearest_0 : decode cX0_nearest 0 = .ok (.iload_n 3, 1) := by decide +kernel
theorem dX0_nearest_1 : decode cX0_nearest 1 = .ok (.istore 4, 2) := by decide +kernel
theorem dX0_nearest_3 : decode cX0_nearest 3 = .ok (.iconst 0, 1) := by decide +kernel
theorem dX0_nearest_4 : decode cX0_nearest 4 = .ok (.istore 5, 2) := by decide +kernel
theorem dX0_nearest_6 : decode cX0_nearest 6 = .ok (.iload 5, 2) := by decide +kernel
theorem dX0_nearest_8 : decode cX0_nearest 8 = .ok (.aload_n 0, 1) := by decide +kernel
theorem dX0_nearest_9 : decode cX0_nearest 9 = .ok (.iload_n 1, 1) := by decide +kernel
theorem dX0_nearest_10 : decode cX0_nearest 10 = .ok (.invokevirtual 66, 3) := by decide +kernel
theorem dX0_nearest_13 : decode cX0_nearest 13 = .ok (.if_icmp .gt 38, 3) := by decide +kernel
theorem dX0_nearest_16 : decode cX0_nearest 16 = .ok (.aload_n 0, 1) := by decide +kernel
theorem dX0_nearest_17 : decode cX0_nearest 17 = .ok (.iload_n 1, 1) := by decide +kernel
theorem dX0_nearest_18 : decode cX0_nearest 18 = .ok (.iload 5, 2) := by decide +kernel
theorem dX0_nearest_20 : decode cX0_nearest 20 = .ok (.invokevirtual 76, 3) := by decide +kernel
theorem dX0_nearest_23 : decode cX0_nearest 23 = .ok (.ifCond .eq 22, 3) := by decide +kernel
theorem dX0_nearest_26 : decode cX0_nearest 26 = .ok (.iload 4, 2) := by decide +kernel
theorem dX0_nearest_28 : decode cX0_nearest 28 = .ok (.aload_n 0, 1) := by decide +kernel
theorem dX0_nearest_29 : decode cX0_nearest 29 = .ok (.iload_n 1, 1) := by decide +kernel
theorem dX0_nearest_30 : decode cX0_nearest 30 = .ok (.iload 5, 2) := by decide +kernel
theorem dX0_nearest_32 : decode cX0_nearest 32 = .ok (.invokevirtual 83, 3) := by decide +kernel
theorem dX0_nearest_35 : decode cX0_nearest 35 = .ok (.iload_n 2, 1) := by decide +kernel
theorem dX0_nearest_36 : decode cX0_nearest 36 = .ok (.iload_n 3, 1) := by decide +kernel
theorem dX0_nearest_37 : decode cX0_nearest 37 = .ok (.invokestatic 86, 3) := by decide +kernel
theorem dX0_nearest_40 : decode cX0_nearest 40 = .ok (.invokestatic 90, 3) := by decide +kernel
theorem dX0_nearest_43 : decode cX0_nearest 43 = .ok (.istore 4, 2) := by decide +kernel
theorem dX0_nearest_45 : decode cX0_nearest 45 = .ok (.iinc 5 1, 3) := by decide +kernel
theorem dX0_nearest_48 : decode cX0_nearest 48 = .ok (.goto (-42), 3) := by decide +kernel
theorem dX0_nearest_51 : decode cX0_nearest 51 = .ok (.iload 4, 2) := by decide +kernel
theorem dX0_nearest_53 : decode cX0_nearest 53 = .ok (.ireturn, 1) := by decide +kernel
theorem dX0_nearestStart_0 : decode cX0_nearestStart 0 = .ok (.iconst (-1), 1) := by decide +kernel
theorem dX0_nearestStart_1 : decode cX0_nearestStart 1 = .ok (.istore_n 3, 1) := by decide +kernel
theorem dX0_nearestStart_2 : decode cX0_nearestStart 2 = .ok (.iconst 0, 1) := by decide +kernel
theorem dX0_nearestStart_3 : decode cX0_nearestStart 3 = .ok (.istore 4, 2) := by decide +kernel
theorem dX0_nearestStart_5 : decode cX0_nearestStart 5 = .ok (.iconst 0, 1) := by decide +kernel
theorem dX0_nearestStart_6 : decode cX0_nearestStart 6 = .ok (.istore 5, 2) := by decide +kernel
theorem dX0_nearestStart_8 : decode cX0_nearestStart 8 = .ok (.iload 5, 2) := by decide +kernel
theorem dX0_nearestStart_10 : decode cX0_nearestStart 10 = .ok (.aload_n 0, 1) := by decide +kernel
theorem dX0_nearestStart_11 : decode cX0_nearestStart 11 = .ok (.iload_n 1, 1) := by decide +kernel
theorem dX0_nearestStart_12 : decode cX0_nearestStart 12 = .ok (.invokevirtual 66, 3) := by decide +kernel
theorem dX0_nearestStart_15 : decode cX0_nearestStart 15 = .ok (.if_icmp .gt 55, 3) := by decide +kernel
theorem dX0_nearestStart_18 : decode cX0_nearestStart 18 = .ok (.aload_n 0, 1) := by decide +kernel
theorem dX0_nearestStart_19 : decode cX0_nearestStart 19 = .ok (.iload_n 1, 1) := by decide +kernel
theorem dX0_nearestStart_20 : decode cX0_nearestStart 20 = .ok (.iload 5, 2) := by decide +kernel
theorem dX0_nearestStart_22 : decode cX0_nearestStart 22 = .ok (.invokevirtual 76, 3) := by decide +kernel
theorem dX0_nearestStart_25 : decode cX0_nearestStart 25 = .ok (.ifCond .eq 39, 3) := by decide +kernel
theorem dX0_nearestStart_28 : decode cX0_nearestStart 28 = .ok (.aload_n 0, 1) := by decide +kernel
theorem dX0_nearestStart_29 : decode cX0_nearestStart 29 = .ok (.iload_n 1, 1) := by decide +kernel
theorem dX0_nearestStart_30 : decode cX0_nearestStart 30 = .ok (.iload 5, 2) := by decide +kernel
theorem dX0_nearestStart_32 : decode cX0_nearestStart 32 = .ok (.invokevirtual 83, 3) := by decide +kernel
theorem dX0_nearestStart_35 : decode cX0_nearestStart 35 = .ok (.iload_n 2, 1) := by decide +kernel
theorem dX0_nearestStart_36 : decode cX0_nearestStart 36 = .ok (.aload_n 0, 1) := by decide +kernel
theorem dX0_nearestStart_37 : decode cX0_nearestStart 37 = .ok (.getfield 15, 3) := by decide +kernel
theorem dX0_nearestStart_40 : decode cX0_nearestStart 40 = .ok (.invokestatic 86, 3) := by decide +kernel
theorem dX0_nearestStart_43 : decode cX0_nearestStart 43 = .ok (.istore 6, 2) := by decide +kernel
theorem dX0_nearestStart_45 : decode cX0_nearestStart 45 = .ok (.iload_n 3, 1) := by decide +kernel
theorem dX0_nearestStart_46 : decode cX0_nearestStart 46 = .ok (.iconst (-1), 1) := by decide +kernel
theorem dX0_nearestStart_47 : decode cX0_nearestStart 47 = .ok (.if_icmp .eq 10, 3) := by decide +kernel
theorem dX0_nearestStart_50 : decode cX0_nearestStart 50 = .ok (.iload 6, 2) := by decide +kernel
theorem dX0_nearestStart_52 : decode cX0_nearestStart 52 = .ok (.iload 4, 2) := by decide +kernel
theorem dX0_nearestStart_54 : decode cX0_nearestStart 54 = .ok (.if_icmp .ge 10, 3) := by decide +kernel
theorem dX0_nearestStart_57 : decode cX0_nearestStart 57 = .ok (.iload 5, 2) := by decide +kernel
theorem dX0_nearestStart_59 : decode cX0_nearestStart 59 = .ok (.istore_n 3, 1) := by decide +kernel
theorem dX0_nearestStart_60 : decode cX0_nearestStart 60 = .ok (.iload 6, 2) := by decide +kernel
theorem dX0_nearestStart_62 : decode cX0_nearestStart 62 = .ok (.istore 4, 2) := by decide +kernel
theorem dX0_nearestStart_64 : decode cX0_nearestStart 64 = .ok (.iinc 5 1, 3) := by decide +kernel
theorem dX0_nearestStart_67 : decode cX0_nearestStart 67 = .ok (.goto (-59), 3) := by decide +kernel
theorem dX0_nearestStart_70 : decode cX0_nearestStart 70 = .ok (.iload_n 3, 1) := by decide +kernel
theorem dX0_nearestStart_71 : decode cX0_nearestStart 71 = .ok (.ireturn, 1) := by decide +kernel
theorem dX0_boundOf_0 : decode cX0_boundOf 0 = .ok (.iconst 0, 1) := by decide +kernel
theorem dX0_boundOf_1 : decode cX0_boundOf 1 = .ok (.istore_n 3, 1) := by decide +kernel
theorem dX0_boundOf_2 : decode cX0_boundOf 2 = .ok (.iconst 0, 1) := by decide +kernel
theorem dX0_boundOf_3 : decode cX0_boundOf 3 = .ok (.istore 4, 2) := by decide +kernel
theorem dX0_boundOf_5 : decode cX0_boundOf 5 = .ok (.iload 4, 2) := by decide +kernel
theorem dX0_boundOf_7 : decode cX0_boundOf 7 = .ok (.aload_n 0, 1) := by decide +kernel
theorem dX0_boundOf_8 : decode cX0_boundOf 8 = .ok (.getfield 41, 3) := by decide +kernel
theorem dX0_boundOf_11 : decode cX0_boundOf 11 = .ok (.if_icmp .ge 29, 3) := by decide +kernel
theorem dX0_boundOf_14 : decode cX0_boundOf 14 = .ok (.aload_n 0, 1) := by decide +kernel
theorem dX0_boundOf_15 : decode cX0_boundOf 15 = .ok (.iload 4, 2) := by decide +kernel
theorem dX0_boundOf_17 : decode cX0_boundOf 17 = .ok (.invokevirtual 69, 3) := by decide +kernel
theorem dX0_boundOf_20 : decode cX0_boundOf 20 = .ok (.ifCond .ne 14, 3) := by decide +kernel
theorem dX0_boundOf_23 : decode cX0_boundOf 23 = .ok (.iload_n 3, 1) := by decide +kernel
theorem dX0_boundOf_24 : decode cX0_boundOf 24 = .ok (.aload_n 0, 1) := by decide +kernel
theorem dX0_boundOf_25 : decode cX0_boundOf 25 = .ok (.iload 4, 2) := by decide +kernel
theorem dX0_boundOf_27 : decode cX0_boundOf 27 = .ok (.iload_n 1, 1) := by decide +kernel
theorem dX0_boundOf_28 : decode cX0_boundOf 28 = .ok (.iload_n 2, 1) := by decide +kernel
theorem dX0_boundOf_29 : decode cX0_boundOf 29 = .ok (.invokevirtual 93, 3) := by decide +kernel
theorem dX0_boundOf_32 : decode cX0_boundOf 32 = .ok (.iadd, 1) := by decide +kernel
theorem dX0_boundOf_33 : decode cX0_boundOf 33 = .ok (.istore_n 3, 1) := by decide +kernel
theorem dX0_boundOf_34 : decode cX0_boundOf 34 = .ok (.iinc 4 1, 3) := by decide +kernel
theorem dX0_boundOf_37 : decode cX0_boundOf 37 = .ok (.goto (-32), 3) := by decide +kernel
theorem dX0_boundOf_40 : decode cX0_boundOf 40 = .ok (.iload_n 3, 1) := by decide +kernel
theorem dX0_boundOf_41 : decode cX0_boundOf 41 = .ok (.ireturn, 1) := by decide +kernel
theorem dX0_rowsHaving_0 : decode cX0_rowsHaving 0 = .ok (.iconst 0, 1) := by decide +kernel
theorem dX0_rowsHaving_1 : decode cX0_rowsHaving 1 = .ok (.istore_n 2, 1) := by decide +kernel
theorem dX0_rowsHaving_2 : decode cX0_rowsHaving 2 = .ok (.iconst 0, 1) := by decide +kernel
theorem dX0_rowsHaving_3 : decode cX0_rowsHaving 3 = .ok (.istore_n 3, 1) := by decide +kernel
theorem dX0_rowsHaving_4 : decode cX0_rowsHaving 4 = .ok (.iload_n 3, 1) := by decide +kernel
theorem dX0_rowsHaving_5 : decode cX0_rowsHaving 5 = .ok (.aload_n 0, 1) := by decide +kernel
theorem dX0_rowsHaving_6 : decode cX0_rowsHaving 6 = .ok (.getfield 41, 3) := by decide +kernel
theorem dX0_rowsHaving_9 : decode cX0_rowsHaving 9 = .ok (.if_icmp .ge 40, 3) := by decide +kernel
theorem dX0_rowsHaving_12 : decode cX0_rowsHaving 12 = .ok (.aload_n 0, 1) := by decide +kernel
theorem dX0_rowsHaving_13 : decode cX0_rowsHaving 13 = .ok (.iload_n 3, 1) := by decide +kernel
theorem dX0_rowsHaving_14 : decode cX0_rowsHaving 14 = .ok (.invokevirtual 69, 3) := by decide +kernel
theorem dX0_rowsHaving_17 : decode cX0_rowsHaving 17 = .ok (.ifCond .ne 26, 3) := by decide +kernel
theorem dX0_rowsHaving_20 : decode cX0_rowsHaving 20 = .ok (.aload_n 0, 1) := by decide +kernel
theorem dX0_rowsHaving_21 : decode cX0_rowsHaving 21 = .ok (.iload_n 3, 1) := by decide +kernel
theorem dX0_rowsHaving_22 : decode cX0_rowsHaving 22 = .ok (.iload_n 1, 1) := by decide +kernel
theorem dX0_rowsHaving_23 : decode cX0_rowsHaving 23 = .ok (.aload_n 0, 1) := by decide +kernel
theorem dX0_rowsHaving_24 : decode cX0_rowsHaving 24 = .ok (.getfield 15, 3) := by decide +kernel
theorem dX0_rowsHaving_27 : decode cX0_rowsHaving 27 = .ok (.invokevirtual 93, 3) := by decide +kernel
theorem dX0_rowsHaving_30 : decode cX0_rowsHaving 30 = .ok (.aload_n 0, 1) := by decide +kernel
theorem dX0_rowsHaving_31 : decode cX0_rowsHaving 31 = .ok (.getfield 18, 3) := by decide +kernel
theorem dX0_rowsHaving_34 : decode cX0_rowsHaving 34 = .ok (.if_icmp .gt 9, 3) := by decide +kernel
theorem dX0_rowsHaving_37 : decode cX0_rowsHaving 37 = .ok (.iload_n 2, 1) := by decide +kernel
theorem dX0_rowsHaving_38 : decode cX0_rowsHaving 38 = .ok (.iconst 1, 1) := by decide +kernel
theorem dX0_rowsHaving_39 : decode cX0_rowsHaving 39 = .ok (.iload_n 3, 1) := by decide +kernel
theorem dX0_rowsHaving_40 : decode cX0_rowsHaving 40 = .ok (.ishl, 1) := by decide +kernel
theorem dX0_rowsHaving_41 : decode cX0_rowsHaving 41 = .ok (.ior, 1) := by decide +kernel
theorem dX0_rowsHaving_42 : decode cX0_rowsHaving 42 = .ok (.istore_n 2, 1) := by decide +kernel
theorem dX0_rowsHaving_43 : decode cX0_rowsHaving 43 = .ok (.iinc 3 1, 3) := by decide +kernel
theorem dX0_rowsHaving_46 : decode cX0_rowsHaving 46 = .ok (.goto (-42), 3) := by decide +kernel
theorem dX0_rowsHaving_49 : decode cX0_rowsHaving 49 = .ok (.iload_n 2, 1) := by decide +kernel
theorem dX0_rowsHaving_50 : decode cX0_rowsHaving 50 = .ok (.ireturn, 1) := by decide +kernel
theorem dX0_isHit_0 : decode cX0_isHit 0 = .ok (.aload_n 0, 1) := by decide +kernel
theorem dX0_isHit_1 : decode cX0_isHit 1 = .ok (.iload_n 1, 1) := by decide +kernel
theorem dX0_isHit_2 : decode cX0_isHit 2 = .ok (.iload_n 2, 1) := by decide +kernel
theorem dX0_isHit_3 : decode cX0_isHit 3 = .ok (.invokevirtual 76, 3) := by decide +kernel
theorem dX0_isHit_6 : decode cX0_isHit 6 = .ok (.ifCond .eq 28, 3) := by decide +kernel
theorem dX0_isHit_9 : decode cX0_isHit 9 = .ok (.aload_n 0, 1) := by decide +kernel
theorem dX0_isHit_10 : decode cX0_isHit 10 = .ok (.iload_n 1, 1) := by decide +kernel
theorem dX0_isHit_11 : decode cX0_isHit 11 = .ok (.iload_n 2, 1) := by decide +kernel
theorem dX0_isHit_12 : decode cX0_isHit 12 = .ok (.invokevirtual 83, 3) := by decide +kernel
theorem dX0_isHit_15 : decode cX0_isHit 15 = .ok (.iload_n 3, 1) := by decide +kernel
theorem dX0_isHit_16 : decode cX0_isHit 16 = .ok (.aload_n 0, 1) := by decide +kernel
theorem dX0_isHit_17 : decode cX0_isHit 17 = .ok (.getfield 15, 3) := by decide +kernel
theorem dX0_isHit_20 : decode cX0_isHit 20 = .ok (.invokestatic 86, 3) := by decide +kernel
theorem dX0_isHit_23 : decode cX0_isHit 23 = .ok (.aload_n 0, 1) := by decide +kernel
theorem dX0_isHit_24 : decode cX0_isHit 24 = .ok (.getfield 18, 3) := by decide +kernel
theorem dX0_isHit_27 : decode cX0_isHit 27 = .ok (.if_icmp .gt 7, 3) := by decide +kernel
theorem dX0_isHit_30 : decode cX0_isHit 30 = .ok (.iconst 1, 1) := by decide +kernel
theorem dX0_isHit_31 : decode cX0_isHit 31 = .ok (.goto 4, 3) := by decide +kernel
theorem dX0_isHit_34 : decode cX0_isHit 34 = .ok (.iconst 0, 1) := by decide +kernel
theorem dX0_isHit_35 : decode cX0_isHit 35 = .ok (.ireturn, 1) := by decide +kernel
theorem dX0_hitNumber_0 : decode cX0_hitNumber 0 = .ok (.iconst 0, 1) := by decide +kernel
theorem dX0_hitNumber_1 : decode cX0_hitNumber 1 = .ok (.istore_n 3, 1) := by decide +kernel
theorem dX0_hitNumber_2 : decode cX0_hitNumber 2 = .ok (.iconst 0, 1) := by decide +kernel
theorem dX0_hitNumber_3 : decode cX0_hitNumber 3 = .ok (.istore 4, 2) := by decide +kernel
theorem dX0_hitNumber_5 : decode cX0_hitNumber 5 = .ok (.iload 4, 2) := by decide +kernel
theorem dX0_hitNumber_7 : decode cX0_hitNumber 7 = .ok (.aload_n 0, 1) := by decide +kernel
theorem dX0_hitNumber_8 : decode cX0_hitNumber 8 = .ok (.getfield 41, 3) := by decide +kernel
theorem dX0_hitNumber_11 : decode cX0_hitNumber 11 = .ok (.if_icmp .ge 58, 3) := by decide +kernel
theorem dX0_hitNumber_14 : decode cX0_hitNumber 14 = .ok (.iconst 0, 1) := by decide +kernel
theorem dX0_hitNumber_15 : decode cX0_hitNumber 15 = .ok (.istore 5, 2) := by decide +kernel
theorem dX0_hitNumber_17 : decode cX0_hitNumber 17 = .ok (.iload 5, 2) := by decide +kernel
theorem dX0_hitNumber_19 : decode cX0_hitNumber 19 = .ok (.aload_n 0, 1) := by decide +kernel
theorem dX0_hitNumber_20 : decode cX0_hitNumber 20 = .ok (.iload 4, 2) := by decide +kernel
theorem dX0_hitNumber_22 : decode cX0_hitNumber 22 = .ok (.invokevirtual 66, 3) := by decide +kernel
theorem dX0_hitNumber_25 : decode cX0_hitNumber 25 = .ok (.if_icmp .gt 38, 3) := by decide +kernel
theorem dX0_hitNumber_28 : decode cX0_hitNumber 28 = .ok (.aload_n 0, 1) := by decide +kernel
theorem dX0_hitNumber_29 : decode cX0_hitNumber 29 = .ok (.iload 4, 2) := by decide +kernel
theorem dX0_hitNumber_31 : decode cX0_hitNumber 31 = .ok (.iload 5, 2) := by decide +kernel
theorem dX0_hitNumber_33 : decode cX0_hitNumber 33 = .ok (.iload_n 1, 1) := by decide +kernel
theorem dX0_hitNumber_34 : decode cX0_hitNumber 34 = .ok (.invokevirtual 96, 3) := by decide +kernel
theorem dX0_hitNumber_37 : decode cX0_hitNumber 37 = .ok (.ifCond .eq 20, 3) := by decide +kernel
theorem dX0_hitNumber_40 : decode cX0_hitNumber 40 = .ok (.iload_n 3, 1) := by decide +kernel
theorem dX0_hitNumber_41 : decode cX0_hitNumber 41 = .ok (.iload_n 2, 1) := by decide +kernel
theorem dX0_hitNumber_42 : decode cX0_hitNumber 42 = .ok (.if_icmp .ne 12, 3) := by decide +kernel
theorem dX0_hitNumber_45 : decode cX0_hitNumber 45 = .ok (.bipush 30, 2) := by decide +kernel
theorem dX0_hitNumber_47 : decode cX0_hitNumber 47 = .ok (.iload 4, 2) := by decide +kernel
theorem dX0_hitNumber_49 : decode cX0_hitNumber 49 = .ok (.imul, 1) := by decide +kernel
theorem dX0_hitNumber_50 : decode cX0_hitNumber 50 = .ok (.iload 5, 2) := by decide +kernel
theorem dX0_hitNumber_52 : decode cX0_hitNumber 52 = .ok (.iadd, 1) := by decide +kernel
theorem dX0_hitNumber_53 : decode cX0_hitNumber 53 = .ok (.ireturn, 1) := by decide +kernel
theorem dX0_hitNumber_54 : decode cX0_hitNumber 54 = .ok (.iinc 3 1, 3) := by decide +kernel
theorem dX0_hitNumber_57 : decode cX0_hitNumber 57 = .ok (.iinc 5 1, 3) := by decide +kernel
theorem dX0_hitNumber_60 : decode cX0_hitNumber 60 = .ok (.goto (-43), 3) := by decide +kernel
theorem dX0_hitNumber_63 : decode cX0_hitNumber 63 = .ok (.iinc 4 1, 3) := by decide +kernel
theorem dX0_hitNumber_66 : decode cX0_hitNumber 66 = .ok (.goto (-61), 3) := by decide +kernel
theorem dX0_hitNumber_69 : decode cX0_hitNumber 69 = .ok (.iconst (-1), 1) := by decide +kernel
theorem dX0_hitNumber_70 : decode cX0_hitNumber 70 = .ok (.ireturn, 1) := by decide +kernel
theorem dX0_reasonAgainst_0 : decode cX0_reasonAgainst 0 = .ok (.aload_n 0, 1) := by decide +kernel
theorem dX0_reasonAgainst_1 : decode cX0_reasonAgainst 1 = .ok (.getfield 47, 3) := by decide +kernel
theorem dX0_reasonAgainst_4 : decode cX0_reasonAgainst 4 = .ok (.bipush 6, 2) := by decide +kernel
theorem dX0_reasonAgainst_6 : decode cX0_reasonAgainst 6 = .ok (.if_icmp .lt 5, 3) := by decide +kernel
theorem dX0_reasonAgainst_9 : decode cX0_reasonAgainst 9 = .ok (.iconst 1, 1) := by decide +kernel
theorem dX0_reasonAgainst_10 : decode cX0_reasonAgainst 10 = .ok (.ireturn, 1) := by decide +kernel
theorem dX0_reasonAgainst_11 : decode cX0_reasonAgainst 11 = .ok (.aload_n 0, 1) := by decide +kernel
theorem dX0_reasonAgainst_12 : decode cX0_reasonAgainst 12 = .ok (.aload_n 0, 1) := by decide +kernel
theorem dX0_reasonAgainst_13 : decode cX0_reasonAgainst 13 = .ok (.iload_n 1, 1) := by decide +kernel
theorem dX0_reasonAgainst_14 : decode cX0_reasonAgainst 14 = .ok (.invokevirtual 100, 3) := by decide +kernel
theorem dX0_reasonAgainst_17 : decode cX0_reasonAgainst 17 = .ok (.invokevirtual 103, 3) := by decide +kernel
theorem dX0_reasonAgainst_20 : decode cX0_reasonAgainst 20 = .ok (.ifCond .ne 7, 3) := by decide +kernel
theorem dX0_reasonAgainst_23 : decode cX0_reasonAgainst 23 = .ok (.iconst 2, 1) := by decide +kernel
theorem dX0_reasonAgainst_24 : decode cX0_reasonAgainst 24 = .ok (.goto 4, 3) := by decide +kernel
theorem dX0_reasonAgainst_27 : decode cX0_reasonAgainst 27 = .ok (.iconst 0, 1) := by decide +kernel
theorem dX0_reasonAgainst_28 : decode cX0_reasonAgainst 28 = .ok (.ireturn, 1) := by decide +kernel
theorem dX0_cover_0 : decode cX0_cover 0 = .ok (.aload_n 0, 1) := by decide +kernel
theorem dX0_cover_1 : decode cX0_cover 1 = .ok (.iload_n 1, 1) := by decide +kernel
theorem dX0_cover_2 : decode cX0_cover 2 = .ok (.invokevirtual 100, 3) := by decide +kernel
theorem dX0_cover_5 : decode cX0_cover 5 = .ok (.istore_n 2, 1) := by decide +kernel
theorem dX0_cover_6 : decode cX0_cover 6 = .ok (.aload_n 0, 1) := by decide +kernel
theorem dX0_cover_7 : decode cX0_cover 7 = .ok (.getfield 47, 3) := by decide +kernel
theorem dX0_cover_10 : decode cX0_cover 10 = .ok (.bipush 6, 2) := by decide +kernel
theorem dX0_cover_12 : decode cX0_cover 12 = .ok (.if_icmp .ge 11, 3) := by decide +kernel
theorem dX0_cover_15 : decode cX0_cover 15 = .ok (.aload_n 0, 1) := by decide +kernel
theorem dX0_cover_16 : decode cX0_cover 16 = .ok (.iload_n 2, 1) := by decide +kernel
theorem dX0_cover_17 : decode cX0_cover 17 = .ok (.invokevirtual 103, 3) := by decide +kernel
theorem dX0_cover_20 : decode cX0_cover 20 = .ok (.goto 4, 3) := by decide +kernel
theorem dX0_cover_23 : decode cX0_cover 23 = .ok (.iconst 0, 1) := by decide +kernel
theorem dX0_cover_24 : decode cX0_cover 24 = .ok (.istore_n 3, 1) := by decide +kernel
theorem dX0_cover_25 : decode cX0_cover 25 = .ok (.iload_n 3, 1) := by decide +kernel
theorem dX0_cover_26 : decode cX0_cover 26 = .ok (.ifCond .ne 5, 3) := by decide +kernel
theorem dX0_cover_29 : decode cX0_cover 29 = .ok (.iconst 0, 1) := by decide +kernel
theorem dX0_cover_30 : decode cX0_cover 30 = .ok (.ireturn, 1) := by decide +kernel
theorem dX0_cover_31 : decode cX0_cover 31 = .ok (.aload_n 0, 1) := by decide +kernel
theorem dX0_cover_32 : decode cX0_cover 32 = .ok (.getfield 38, 3) := by decide +kernel
theorem dX0_cover_35 : decode cX0_cover 35 = .ok (.aload_n 0, 1) := by decide +kernel
theorem dX0_cover_36 : decode cX0_cover 36 = .ok (.getfield 47, 3) := by decide +kernel
theorem dX0_cover_39 : decode cX0_cover 39 = .ok (.iload_n 1, 1) := by decide +kernel
theorem dX0_cover_40 : decode cX0_cover 40 = .ok (.iastore, 1) := by decide +kernel
theorem dX0_cover_41 : decode cX0_cover 41 = .ok (.aload_n 0, 1) := by decide +kernel
theorem dX0_cover_42 : decode cX0_cover 42 = .ok (.dup, 1) := by decide +kernel
theorem dX0_cover_43 : decode cX0_cover 43 = .ok (.getfield 47, 3) := by decide +kernel
theorem dX0_cover_46 : decode cX0_cover 46 = .ok (.iconst 1, 1) := by decide +kernel
theorem dX0_cover_47 : decode cX0_cover 47 = .ok (.iadd, 1) := by decide +kernel
theorem dX0_cover_48 : decode cX0_cover 48 = .ok (.putfield 47, 3) := by decide +kernel
theorem dX0_cover_51 : decode cX0_cover 51 = .ok (.iconst 0, 1) := by decide +kernel
theorem dX0_cover_52 : decode cX0_cover 52 = .ok (.istore 4, 2) := by decide +kernel
theorem dX0_cover_54 : decode cX0_cover 54 = .ok (.iload 4, 2) := by decide +kernel
theorem dX0_cover_56 : decode cX0_cover 56 = .ok (.aload_n 0, 1) := by decide +kernel
theorem dX0_cover_57 : decode cX0_cover 57 = .ok (.getfield 41, 3) := by decide +kernel
theorem dX0_cover_60 : decode cX0_cover 60 = .ok (.if_icmp .ge 88, 3) := by decide +kernel
theorem dX0_cover_63 : decode cX0_cover 63 = .ok (.iload_n 3, 1) := by decide +kernel
theorem dX0_cover_64 : decode cX0_cover 64 = .ok (.iload 4, 2) := by decide +kernel
theorem dX0_cover_66 : decode cX0_cover 66 = .ok (.iushr, 1) := by decide +kernel
theorem dX0_cover_67 : decode cX0_cover 67 = .ok (.iconst 1, 1) := by decide +kernel
theorem dX0_cover_68 : decode cX0_cover 68 = .ok (.iand, 1) := by decide +kernel
theorem dX0_cover_69 : decode cX0_cover 69 = .ok (.ifCond .eq 13, 3) := by decide +kernel
theorem dX0_cover_72 : decode cX0_cover 72 = .ok (.aload_n 0, 1) := by decide +kernel
theorem dX0_cover_73 : decode cX0_cover 73 = .ok (.iload 4, 2) := by decide +kernel
theorem dX0_cover_75 : decode cX0_cover 75 = .ok (.iload_n 2, 1) := by decide +kernel
theorem dX0_cover_76 : decode cX0_cover 76 = .ok (.invokevirtual 106, 3) := by decide +kernel
theorem dX0_cover_79 : decode cX0_cover 79 = .ok (.goto 4, 3) := by decide +kernel
theorem dX0_cover_82 : decode cX0_cover 82 = .ok (.iconst (-1), 1) := by decide +kernel
theorem dX0_cover_83 : decode cX0_cover 83 = .ok (.istore 5, 2) := by decide +kernel
theorem dX0_cover_85 : decode cX0_cover 85 = .ok (.iload 5, 2) := by decide +kernel
theorem dX0_cover_87 : decode cX0_cover 87 = .ok (.iconst (-1), 1) := by decide +kernel
theorem dX0_cover_88 : decode cX0_cover 88 = .ok (.if_icmp .eq 19, 3) := by decide +kernel
theorem dX0_cover_91 : decode cX0_cover 91 = .ok (.aload_n 0, 1) := by decide +kernel
theorem dX0_cover_92 : decode cX0_cover 92 = .ok (.getfield 32, 3) := by decide +kernel
theorem dX0_cover_95 : decode cX0_cover 95 = .ok (.iload 4, 2) := by decide +kernel
theorem dX0_cover_97 : decode cX0_cover 97 = .ok (.dup2, 1) := by decide +kernel
theorem dX0_cover_98 : decode cX0_cover 98 = .ok (.iaload, 1) := by decide +kernel
theorem dX0_cover_99 : decode cX0_cover 99 = .ok (.aload_n 0, 1) := by decide +kernel
theorem dX0_cover_100 : decode cX0_cover 100 = .ok (.iload 5, 2) := by decide +kernel
theorem dX0_cover_102 : decode cX0_cover 102 = .ok (.invokevirtual 73, 3) := by decide +kernel
theorem dX0_cover_105 : decode cX0_cover 105 = .ok (.ior, 1) := by decide +kernel
theorem dX0_cover_106 : decode cX0_cover 106 = .ok (.iastore, 1) := by decide +kernel
theorem dX0_cover_107 : decode cX0_cover 107 = .ok (.aload_n 0, 1) := by decide +kernel
theorem dX0_cover_108 : decode cX0_cover 108 = .ok (.getfield 35, 3) := by decide +kernel
theorem dX0_cover_111 : decode cX0_cover 111 = .ok (.iload 4, 2) := by decide +kernel
theorem dX0_cover_113 : decode cX0_cover 113 = .ok (.iaload, 1) := by decide +kernel
theorem dX0_cover_114 : decode cX0_cover 114 = .ok (.iconst (-1), 1) := by decide +kernel
theorem dX0_cover_115 : decode cX0_cover 115 = .ok (.if_icmp .eq 27, 3) := by decide +kernel
theorem dX0_cover_118 : decode cX0_cover 118 = .ok (.aload_n 0, 1) := by decide +kernel
theorem dX0_cover_119 : decode cX0_cover 119 = .ok (.iload 4, 2) := by decide +kernel
theorem dX0_cover_121 : decode cX0_cover 121 = .ok (.aload_n 0, 1) := by decide +kernel
theorem dX0_cover_122 : decode cX0_cover 122 = .ok (.getfield 35, 3) := by decide +kernel
theorem dX0_cover_125 : decode cX0_cover 125 = .ok (.iload 4, 2) := by decide +kernel
theorem dX0_cover_127 : decode cX0_cover 127 = .ok (.iaload, 1) := by decide +kernel
theorem dX0_cover_128 : decode cX0_cover 128 = .ok (.invokevirtual 76, 3) := by decide +kernel
theorem dX0_cover_131 : decode cX0_cover 131 = .ok (.ifCond .ne 11, 3) := by decide +kernel
theorem dX0_cover_134 : decode cX0_cover 134 = .ok (.aload_n 0, 1) := by decide +kernel
theorem dX0_cover_135 : decode cX0_cover 135 = .ok (.getfield 35, 3) := by decide +kernel
theorem dX0_cover_138 : decode cX0_cover 138 = .ok (.iload 4, 2) := by decide +kernel
theorem dX0_cover_140 : decode cX0_cover 140 = .ok (.iconst (-1), 1) := by decide +kernel
theorem dX0_cover_141 : decode cX0_cover 141 = .ok (.iastore, 1) := by decide +kernel
theorem dX0_cover_142 : decode cX0_cover 142 = .ok (.iinc 4 1, 3) := by decide +kernel
theorem dX0_cover_145 : decode cX0_cover 145 = .ok (.goto (-91), 3) := by decide +kernel
theorem dX0_cover_148 : decode cX0_cover 148 = .ok (.iload_n 3, 1) := by decide +kernel
theorem dX0_cover_149 : decode cX0_cover 149 = .ok (.invokestatic 60, 3) := by decide +kernel
theorem dX0_cover_152 : decode cX0_cover 152 = .ok (.ireturn, 1) := by decide +kernel
theorem dX1_init_0 : decode cX1_init 0 = .ok (.aload_n 0, 1) := by decide +kernel
theorem dX1_init_1 : decode cX1_init 1 = .ok (.invokespecial 3, 3) := by decide +kernel
theorem dX1_init_4 : decode cX1_init 4 = .ok (.aload_n 0, 1) := by decide +kernel
theorem dX1_init_5 : decode cX1_init 5 = .ok (.bipush 24, 2) := by decide +kernel
theorem dX1_init_7 : decode cX1_init 7 = .ok (.newarray .int, 2) := by decide +kernel
theorem dX1_init_9 : decode cX1_init 9 = .ok (.putfield 9, 3) := by decide +kernel
theorem dX1_init_12 : decode cX1_init 12 = .ok (.return_, 1) := by decide +kernel
theorem dX1_fill_0 : decode cX1_fill 0 = .ok (.aload_n 0, 1) := by decide +kernel
theorem dX1_fill_1 : decode cX1_fill 1 = .ok (.aload_n 1, 1) := by decide +kernel
theorem dX1_fill_2 : decode cX1_fill 2 = .ok (.getfield 15, 3) := by decide +kernel
theorem dX1_fill_5 : decode cX1_fill 5 = .ok (.putfield 21, 3) := by decide +kernel
theorem dX1_fill_8 : decode cX1_fill 8 = .ok (.aload_n 0, 1) := by decide +kernel
theorem dX1_fill_9 : decode cX1_fill 9 = .ok (.aload_n 1, 1) := by decide +kernel
theorem dX1_fill_10 : decode cX1_fill 10 = .ok (.getfield 22, 3) := by decide +kernel
theorem dX1_fill_13 : decode cX1_fill 13 = .ok (.putfield 25, 3) := by decide +kernel
theorem dX1_fill_16 : decode cX1_fill 16 = .ok (.iconst 0, 1) := by decide +kernel
theorem dX1_fill_17 : decode cX1_fill 17 = .ok (.istore_n 3, 1) := by decide +kernel
theorem dX1_fill_18 : decode cX1_fill 18 = .ok (.iload_n 3, 1) := by decide +kernel
theorem dX1_fill_19 : decode cX1_fill 19 = .ok (.aload_n 0, 1) := by decide +kernel
theorem dX1_fill_20 : decode cX1_fill 20 = .ok (.getfield 9, 3) := by decide +kernel
theorem dX1_fill_23 : decode cX1_fill 23 = .ok (.arraylength, 1) := by decide +kernel
theorem dX1_fill_24 : decode cX1_fill 24 = .ok (.if_icmp .ge 16, 3) := by decide +kernel
theorem dX1_fill_27 : decode cX1_fill 27 = .ok (.aload_n 0, 1) := by decide +kernel
theorem dX1_fill_28 : decode cX1_fill 28 = .ok (.getfield 9, 3) := by decide +kernel
theorem dX1_fill_31 : decode cX1_fill 31 = .ok (.iload_n 3, 1) := by decide +kernel
theorem dX1_fill_32 : decode cX1_fill 32 = .ok (.iconst 0, 1) := by decide +kernel
theorem dX1_fill_33 : decode cX1_fill 33 = .ok (.iastore, 1) := by decide +kernel
theorem dX1_fill_34 : decode cX1_fill 34 = .ok (.iinc 3 1, 3) := by decide +kernel
theorem dX1_fill_37 : decode cX1_fill 37 = .ok (.goto (-19), 3) := by decide +kernel
theorem dX1_fill_40 : decode cX1_fill 40 = .ok (.iconst 0, 1) := by decide +kernel
theorem dX1_fill_41 : decode cX1_fill 41 = .ok (.istore_n 3, 1) := by decide +kernel
theorem dX1_fill_42 : decode cX1_fill 42 = .ok (.iload_n 3, 1) := by decide +kernel
theorem dX1_fill_43 : decode cX1_fill 43 = .ok (.aload_n 1, 1) := by decide +kernel
theorem dX1_fill_44 : decode cX1_fill 44 = .ok (.getfield 26, 3) := by decide +kernel
theorem dX1_fill_47 : decode cX1_fill 47 = .ok (.if_icmp .ge 76, 3) := by decide +kernel
theorem dX1_fill_50 : decode cX1_fill 50 = .ok (.iload_n 3, 1) := by decide +kernel
theorem dX1_fill_51 : decode cX1_fill 51 = .ok (.iload_n 2, 1) := by decide +kernel
theorem dX1_fill_52 : decode cX1_fill 52 = .ok (.if_icmp .eq 65, 3) := by decide +kernel
theorem dX1_fill_55 : decode cX1_fill 55 = .ok (.aload_n 1, 1) := by decide +kernel
theorem dX1_fill_56 : decode cX1_fill 56 = .ok (.getfield 29, 3) := by decide +kernel
theorem dX1_fill_59 : decode cX1_fill 59 = .ok (.iload_n 3, 1) := by decide +kernel
theorem dX1_fill_60 : decode cX1_fill 60 = .ok (.iaload, 1) := by decide +kernel
theorem dX1_fill_61 : decode cX1_fill 61 = .ok (.iconst (-1), 1) := by decide +kernel
theorem dX1_fill_62 : decode cX1_fill 62 = .ok (.if_icmp .eq 55, 3) := by decide +kernel
theorem dX1_fill_65 : decode cX1_fill 65 = .ok (.aload_n 1, 1) := by decide +kernel
theorem dX1_fill_66 : decode cX1_fill 66 = .ok (.iload_n 3, 1) := by decide +kernel
theorem dX1_fill_67 : decode cX1_fill 67 = .ok (.aload_n 1, 1) := by decide +kernel
theorem dX1_fill_68 : decode cX1_fill 68 = .ok (.getfield 29, 3) := by decide +kernel
theorem dX1_fill_71 : decode cX1_fill 71 = .ok (.iload_n 3, 1) := by decide +kernel
theorem dX1_fill_72 : decode cX1_fill 72 = .ok (.iaload, 1) := by decide +kernel
theorem dX1_fill_73 : decode cX1_fill 73 = .ok (.invokevirtual 32, 3) := by decide +kernel
theorem dX1_fill_76 : decode cX1_fill 76 = .ok (.istore 4, 2) := by decide +kernel
theorem dX1_fill_78 : decode cX1_fill 78 = .ok (.iconst 0, 1) := by decide +kernel
theorem dX1_fill_79 : decode cX1_fill 79 = .ok (.istore 5, 2) := by decide +kernel
theorem dX1_fill_81 : decode cX1_fill 81 = .ok (.iload 5, 2) := by decide +kernel
theorem dX1_fill_83 : decode cX1_fill 83 = .ok (.aload_n 0, 1) := by decide +kernel
theorem dX1_fill_84 : decode cX1_fill 84 = .ok (.getfield 25, 3) := by decide +kernel
theorem dX1_fill_87 : decode cX1_fill 87 = .ok (.if_icmp .ge 30, 3) := by decide +kernel
theorem dX1_fill_90 : decode cX1_fill 90 = .ok (.aload_n 0, 1) := by decide +kernel
theorem dX1_fill_91 : decode cX1_fill 91 = .ok (.getfield 9, 3) := by decide +kernel
theorem dX1_fill_94 : decode cX1_fill 94 = .ok (.iconst 4, 1) := by decide +kernel
theorem dX1_fill_95 : decode cX1_fill 95 = .ok (.iload 5, 2) := by decide +kernel
theorem dX1_fill_97 : decode cX1_fill 97 = .ok (.imul, 1) := by decide +kernel
theorem dX1_fill_98 : decode cX1_fill 98 = .ok (.iload 4, 2) := by decide +kernel
theorem dX1_fill_100 : decode cX1_fill 100 = .ok (.iload 5, 2) := by decide +kernel
theorem dX1_fill_102 : decode cX1_fill 102 = .ok (.invokestatic 36, 3) := by decide +kernel
theorem dX1_fill_105 : decode cX1_fill 105 = .ok (.iadd, 1) := by decide +kernel
theorem dX1_fill_106 : decode cX1_fill 106 = .ok (.dup2, 1) := by decide +kernel
theorem dX1_fill_107 : decode cX1_fill 107 = .ok (.iaload, 1) := by decide +kernel
theorem dX1_fill_108 : decode cX1_fill 108 = .ok (.iconst 1, 1) := by decide +kernel
theorem dX1_fill_109 : decode cX1_fill 109 = .ok (.iadd, 1) := by decide +kernel
theorem dX1_fill_110 : decode cX1_fill 110 = .ok (.iastore, 1) := by decide +kernel
theorem dX1_fill_111 : decode cX1_fill 111 = .ok (.iinc 5 1, 3) := by decide +kernel
theorem dX1_fill_114 : decode cX1_fill 114 = .ok (.goto (-33), 3) := by decide +kernel
theorem dX1_fill_117 : decode cX1_fill 117 = .ok (.iinc 3 1, 3) := by decide +kernel
theorem dX1_fill_120 : decode cX1_fill 120 = .ok (.goto (-78), 3) := by decide +kernel
theorem dX1_fill_123 : decode cX1_fill 123 = .ok (.return_, 1) := by decide +kernel
theorem dX1_countOf_0 : decode cX1_countOf 0 = .ok (.aload_n 0, 1) := by decide +kernel
theorem dX1_countOf_1 : decode cX1_countOf 1 = .ok (.getfield 9, 3) := by decide +kernel
theorem dX1_countOf_4 : decode cX1_countOf 4 = .ok (.iconst 4, 1) := by decide +kernel
theorem dX1_countOf_5 : decode cX1_countOf 5 = .ok (.iload_n 1, 1) := by decide +kernel
theorem dX1_countOf_6 : decode cX1_countOf 6 = .ok (.imul, 1) := by decide +kernel
theorem dX1_countOf_7 : decode cX1_countOf 7 = .ok (.iload_n 2, 1) := by decide +kernel
theorem dX1_countOf_8 : decode cX1_countOf 8 = .ok (.iadd, 1) := by decide +kernel
theorem dX1_countOf_9 : decode cX1_countOf 9 = .ok (.iaload, 1) := by decide +kernel
theorem dX1_countOf_10 : decode cX1_countOf 10 = .ok (.ireturn, 1) := by decide +kernel
theorem dX1_commonLetter_0 : decode cX1_commonLetter 0 = .ok (.iconst 0, 1) := by decide +kernel
theorem dX1_commonLetter_1 : decode cX1_commonLetter 1 = .ok (.istore_n 2, 1) := by decide +kernel
theorem dX1_commonLetter_2 : decode cX1_commonLetter 2 = .ok (.iconst 1, 1) := by decide +kernel
theorem dX1_commonLetter_3 : decode cX1_commonLetter 3 = .ok (.istore_n 3, 1) := by decide +kernel
theorem dX1_commonLetter_4 : decode cX1_commonLetter 4 = .ok (.iload_n 3, 1) := by decide +kernel
theorem dX1_commonLetter_5 : decode cX1_commonLetter 5 = .ok (.aload_n 0, 1) := by decide +kernel
theorem dX1_commonLetter_6 : decode cX1_commonLetter 6 = .ok (.getfield 21, 3) := by decide +kernel
theorem dX1_commonLetter_9 : decode cX1_commonLetter 9 = .ok (.if_icmp .ge 26, 3) := by decide +kernel
theorem dX1_commonLetter_12 : decode cX1_commonLetter 12 = .ok (.aload_n 0, 1) := by decide +kernel
theorem dX1_commonLetter_13 : decode cX1_commonLetter 13 = .ok (.iload_n 1, 1) := by decide +kernel
theorem dX1_commonLetter_14 : decode cX1_commonLetter 14 = .ok (.iload_n 3, 1) := by decide +kernel
theorem dX1_commonLetter_15 : decode cX1_commonLetter 15 = .ok (.invokevirtual 39, 3) := by decide +kernel
theorem dX1_commonLetter_18 : decode cX1_commonLetter 18 = .ok (.aload_n 0, 1) := by decide +kernel
theorem dX1_commonLetter_19 : decode cX1_commonLetter 19 = .ok (.iload_n 1, 1) := by decide +kernel
theorem dX1_commonLetter_20 : decode cX1_commonLetter 20 = .ok (.iload_n 2, 1) := by decide +kernel
theorem dX1_commonLetter_21 : decode cX1_commonLetter 21 = .ok (.invokevirtual 39, 3) := by decide +kernel
theorem dX1_commonLetter_24 : decode cX1_commonLetter 24 = .ok (.if_icmp .le 5, 3) := by decide +kernel
theorem dX1_commonLetter_27 : decode cX1_commonLetter 27 = .ok (.iload_n 3, 1) := by decide +kernel
theorem dX1_commonLetter_28 : decode cX1_commonLetter 28 = .ok (.istore_n 2, 1) := by decide +kernel
theorem dX1_commonLetter_29 : decode cX1_commonLetter 29 = .ok (.iinc 3 1, 3) := by decide +kernel
theorem dX1_commonLetter_32 : decode cX1_commonLetter 32 = .ok (.goto (-28), 3) := by decide +kernel
theorem dX1_commonLetter_35 : decode cX1_commonLetter 35 = .ok (.iload_n 2, 1) := by decide +kernel
theorem dX1_commonLetter_36 : decode cX1_commonLetter 36 = .ok (.ireturn, 1) := by decide +kernel
theorem dX1_commonCode_0 : decode cX1_commonCode 0 = .ok (.lconst 0, 1) := by decide +kernel
theorem dX1_commonCode_1 : decode cX1_commonCode 1 = .ok (.lstore_n 1, 1) := by decide +kernel
theorem dX1_commonCode_2 : decode cX1_commonCode 2 = .ok (.iconst 0, 1) := by decide +kernel
theorem dX1_commonCode_3 : decode cX1_commonCode 3 = .ok (.istore_n 3, 1) := by decide +kernel
theorem dX1_commonCode_4 : decode cX1_commonCode 4 = .ok (.iload_n 3, 1) := by decide +kernel
theorem dX1_commonCode_5 : decode cX1_commonCode 5 = .ok (.aload_n 0, 1) := by decide +kernel
theorem dX1_commonCode_6 : decode cX1_commonCode 6 = .ok (.getfield 25, 3) := by decide +kernel
theorem dX1_commonCode_9 : decode cX1_commonCode 9 = .ok (.if_icmp .ge 20, 3) := by decide +kernel
theorem dX1_commonCode_12 : decode cX1_commonCode 12 = .ok (.lload_n 1, 1) := by decide +kernel
theorem dX1_commonCode_13 : decode cX1_commonCode 13 = .ok (.iload_n 3, 1) := by decide +kernel
theorem dX1_commonCode_14 : decode cX1_commonCode 14 = .ok (.aload_n 0, 1) := by decide +kernel
theorem dX1_commonCode_15 : decode cX1_commonCode 15 = .ok (.iload_n 3, 1) := by decide +kernel
theorem dX1_commonCode_16 : decode cX1_commonCode 16 = .ok (.invokevirtual 42, 3) := by decide +kernel
theorem dX1_commonCode_19 : decode cX1_commonCode 19 = .ok (.invokestatic 46, 3) := by decide +kernel
theorem dX1_commonCode_22 : decode cX1_commonCode 22 = .ok (.lstore_n 1, 1) := by decide +kernel
theorem dX1_commonCode_23 : decode cX1_commonCode 23 = .ok (.iinc 3 1, 3) := by decide +kernel
theorem dX1_commonCode_26 : decode cX1_commonCode 26 = .ok (.goto (-22), 3) := by decide +kernel
theorem dX1_commonCode_29 : decode cX1_commonCode 29 = .ok (.lload_n 1, 1) := by decide +kernel
theorem dX1_commonCode_30 : decode cX1_commonCode 30 = .ok (.l2i, 1) := by decide +kernel
theorem dX1_commonCode_31 : decode cX1_commonCode 31 = .ok (.ireturn, 1) := by decide +kernel
theorem dX1_agreementOf_0 : decode cX1_agreementOf 0 = .ok (.aload_n 0, 1) := by decide +kernel
theorem dX1_agreementOf_1 : decode cX1_agreementOf 1 = .ok (.aload_n 1, 1) := by decide +kernel
theorem dX1_agreementOf_2 : decode cX1_agreementOf 2 = .ok (.iconst (-1), 1) := by decide +kernel
theorem dX1_agreementOf_3 : decode cX1_agreementOf 3 = .ok (.invokevirtual 50, 3) := by decide +kernel
theorem dX1_agreementOf_6 : decode cX1_agreementOf 6 = .ok (.iconst 0, 1) := by decide +kernel
theorem dX1_agreementOf_7 : decode cX1_agreementOf 7 = .ok (.istore_n 2, 1) := by decide +kernel
theorem dX1_agreementOf_8 : decode cX1_agreementOf 8 = .ok (.iconst 0, 1) := by decide +kernel
theorem dX1_agreementOf_9 : decode cX1_agreementOf 9 = .ok (.istore_n 3, 1) := by decide +kernel
theorem dX1_agreementOf_10 : decode cX1_agreementOf 10 = .ok (.iload_n 3, 1) := by decide +kernel
theorem dX1_agreementOf_11 : decode cX1_agreementOf 11 = .ok (.aload_n 0, 1) := by decide +kernel
theorem dX1_agreementOf_12 : decode cX1_agreementOf 12 = .ok (.getfield 25, 3) := by decide +kernel
theorem dX1_agreementOf_15 : decode cX1_agreementOf 15 = .ok (.if_icmp .ge 22, 3) := by decide +kernel
theorem dX1_agreementOf_18 : decode cX1_agreementOf 18 = .ok (.iload_n 2, 1) := by decide +kernel
theorem dX1_agreementOf_19 : decode cX1_agreementOf 19 = .ok (.aload_n 0, 1) := by decide +kernel
theorem dX1_agreementOf_20 : decode cX1_agreementOf 20 = .ok (.iload_n 3, 1) := by decide +kernel
theorem dX1_agreementOf_21 : decode cX1_agreementOf 21 = .ok (.aload_n 0, 1) := by decide +kernel
theorem dX1_agreementOf_22 : decode cX1_agreementOf 22 = .ok (.iload_n 3, 1) := by decide +kernel
theorem dX1_agreementOf_23 : decode cX1_agreementOf 23 = .ok (.invokevirtual 42, 3) := by decide +kernel
theorem dX1_agreementOf_26 : decode cX1_agreementOf 26 = .ok (.invokevirtual 39, 3) := by decide +kernel
theorem dX1_agreementOf_29 : decode cX1_agreementOf 29 = .ok (.iadd, 1) := by decide +kernel
theorem dX1_agreementOf_30 : decode cX1_agreementOf 30 = .ok (.istore_n 2, 1) := by decide +kernel
theorem dX1_agreementOf_31 : decode cX1_agreementOf 31 = .ok (.iinc 3 1, 3) := by decide +kernel
theorem dX1_agreementOf_34 : decode cX1_agreementOf 34 = .ok (.goto (-24), 3) := by decide +kernel
theorem dX1_agreementOf_37 : decode cX1_agreementOf 37 = .ok (.iload_n 2, 1) := by decide +kernel
theorem dX1_agreementOf_38 : decode cX1_agreementOf 38 = .ok (.ireturn, 1) := by decide +kernel
theorem dX1_weightOf_0 : decode cX1_weightOf 0 = .ok (.iconst 1, 1) := by decide +kernel
theorem dX1_weightOf_1 : decode cX1_weightOf 1 = .ok (.istore_n 2, 1) := by decide +kernel
theorem dX1_weightOf_2 : decode cX1_weightOf 2 = .ok (.iconst 0, 1) := by decide +kernel
theorem dX1_weightOf_3 : decode cX1_weightOf 3 = .ok (.istore_n 3, 1) := by decide +kernel
theorem dX1_weightOf_4 : decode cX1_weightOf 4 = .ok (.iload_n 3, 1) := by decide +kernel
theorem dX1_weightOf_5 : decode cX1_weightOf 5 = .ok (.aload_n 0, 1) := by decide +kernel
theorem dX1_weightOf_6 : decode cX1_weightOf 6 = .ok (.getfield 25, 3) := by decide +kernel
theorem dX1_weightOf_9 : decode cX1_weightOf 9 = .ok (.if_icmp .ge 24, 3) := by decide +kernel
theorem dX1_weightOf_12 : decode cX1_weightOf 12 = .ok (.iload_n 2, 1) := by decide +kernel
theorem dX1_weightOf_13 : decode cX1_weightOf 13 = .ok (.iconst 1, 1) := by decide +kernel
theorem dX1_weightOf_14 : decode cX1_weightOf 14 = .ok (.aload_n 0, 1) := by decide +kernel
theorem dX1_weightOf_15 : decode cX1_weightOf 15 = .ok (.iload_n 3, 1) := by decide +kernel
theorem dX1_weightOf_16 : decode cX1_weightOf 16 = .ok (.iload_n 1, 1) := by decide +kernel
theorem dX1_weightOf_17 : decode cX1_weightOf 17 = .ok (.iload_n 3, 1) := by decide +kernel
theorem dX1_weightOf_18 : decode cX1_weightOf 18 = .ok (.invokestatic 36, 3) := by decide +kernel
theorem dX1_weightOf_21 : decode cX1_weightOf 21 = .ok (.invokevirtual 39, 3) := by decide +kernel
theorem dX1_weightOf_24 : decode cX1_weightOf 24 = .ok (.iadd, 1) := by decide +kernel
theorem dX1_weightOf_25 : decode cX1_weightOf 25 = .ok (.imul, 1) := by decide +kernel
theorem dX1_weightOf_26 : decode cX1_weightOf 26 = .ok (.istore_n 2, 1) := by decide +kernel
theorem dX1_weightOf_27 : decode cX1_weightOf 27 = .ok (.iinc 3 1, 3) := by decide +kernel
theorem dX1_weightOf_30 : decode cX1_weightOf 30 = .ok (.goto (-26), 3) := by decide +kernel
theorem dX1_weightOf_33 : decode cX1_weightOf 33 = .ok (.iload_n 2, 1) := by decide +kernel
theorem dX1_weightOf_34 : decode cX1_weightOf 34 = .ok (.ireturn, 1) := by decide +kernel
theorem dX1_betterRow_0 : decode cX1_betterRow 0 = .ok (.aload_n 0, 1) := by decide +kernel
theorem dX1_betterRow_1 : decode cX1_betterRow 1 = .ok (.aload_n 1, 1) := by decide +kernel
theorem dX1_betterRow_2 : decode cX1_betterRow 2 = .ok (.iload_n 2, 1) := by decide +kernel
theorem dX1_betterRow_3 : decode cX1_betterRow 3 = .ok (.invokevirtual 50, 3) := by decide +kernel
theorem dX1_betterRow_6 : decode cX1_betterRow 6 = .ok (.iconst (-1), 1) := by decide +kernel
theorem dX1_betterRow_7 : decode cX1_betterRow 7 = .ok (.istore_n 3, 1) := by decide +kernel
theorem dX1_betterRow_8 : decode cX1_betterRow 8 = .ok (.iconst 0, 1) := by decide +kernel
theorem dX1_betterRow_9 : decode cX1_betterRow 9 = .ok (.istore 4, 2) := by decide +kernel
theorem dX1_betterRow_11 : decode cX1_betterRow 11 = .ok (.iconst 0, 1) := by decide +kernel
theorem dX1_betterRow_12 : decode cX1_betterRow 12 = .ok (.istore 5, 2) := by decide +kernel
theorem dX1_betterRow_14 : decode cX1_betterRow 14 = .ok (.iload 5, 2) := by decide +kernel
theorem dX1_betterRow_16 : decode cX1_betterRow 16 = .ok (.aload_n 1, 1) := by decide +kernel
theorem dX1_betterRow_17 : decode cX1_betterRow 17 = .ok (.iload_n 2, 1) := by decide +kernel
theorem dX1_betterRow_18 : decode cX1_betterRow 18 = .ok (.invokevirtual 54, 3) := by decide +kernel
theorem dX1_betterRow_21 : decode cX1_betterRow 21 = .ok (.if_icmp .gt 46, 3) := by decide +kernel
theorem dX1_betterRow_24 : decode cX1_betterRow 24 = .ok (.aload_n 1, 1) := by decide +kernel
theorem dX1_betterRow_25 : decode cX1_betterRow 25 = .ok (.iload_n 2, 1) := by decide +kernel
theorem dX1_betterRow_26 : decode cX1_betterRow 26 = .ok (.iload 5, 2) := by decide +kernel
theorem dX1_betterRow_28 : decode cX1_betterRow 28 = .ok (.invokevirtual 57, 3) := by decide +kernel
theorem dX1_betterRow_31 : decode cX1_betterRow 31 = .ok (.ifCond .eq 30, 3) := by decide +kernel
theorem dX1_betterRow_34 : decode cX1_betterRow 34 = .ok (.aload_n 0, 1) := by decide +kernel
theorem dX1_betterRow_35 : decode cX1_betterRow 35 = .ok (.aload_n 1, 1) := by decide +kernel
theorem dX1_betterRow_36 : decode cX1_betterRow 36 = .ok (.iload_n 2, 1) := by decide +kernel
theorem dX1_betterRow_37 : decode cX1_betterRow 37 = .ok (.iload 5, 2) := by decide +kernel
theorem dX1_betterRow_39 : decode cX1_betterRow 39 = .ok (.invokevirtual 32, 3) := by decide +kernel
theorem dX1_betterRow_42 : decode cX1_betterRow 42 = .ok (.invokevirtual 61, 3) := by decide +kernel
theorem dX1_betterRow_45 : decode cX1_betterRow 45 = .ok (.istore 6, 2) := by decide +kernel
theorem dX1_betterRow_47 : decode cX1_betterRow 47 = .ok (.iload 6, 2) := by decide +kernel
theorem dX1_betterRow_49 : decode cX1_betterRow 49 = .ok (.iload 4, 2) := by decide +kernel
theorem dX1_betterRow_51 : decode cX1_betterRow 51 = .ok (.if_icmp .le 10, 3) := by decide +kernel
theorem dX1_betterRow_54 : decode cX1_betterRow 54 = .ok (.iload 5, 2) := by decide +kernel
theorem dX1_betterRow_56 : decode cX1_betterRow 56 = .ok (.istore_n 3, 1) := by decide +kernel
theorem dX1_betterRow_57 : decode cX1_betterRow 57 = .ok (.iload 6, 2) := by decide +kernel
theorem dX1_betterRow_59 : decode cX1_betterRow 59 = .ok (.istore 4, 2) := by decide +kernel
theorem dX1_betterRow_61 : decode cX1_betterRow 61 = .ok (.iinc 5 1, 3) := by decide +kernel
theorem dX1_betterRow_64 : decode cX1_betterRow 64 = .ok (.goto (-50), 3) := by decide +kernel
theorem dX1_betterRow_67 : decode cX1_betterRow 67 = .ok (.aload_n 1, 1) := by decide +kernel
theorem dX1_betterRow_68 : decode cX1_betterRow 68 = .ok (.getfield 29, 3) := by decide +kernel
theorem dX1_betterRow_71 : decode cX1_betterRow 71 = .ok (.iload_n 2, 1) := by decide +kernel
theorem dX1_betterRow_72 : decode cX1_betterRow 72 = .ok (.iaload, 1) := by decide +kernel
theorem dX1_betterRow_73 : decode cX1_betterRow 73 = .ok (.iload_n 3, 1) := by decide +kernel
theorem dX1_betterRow_74 : decode cX1_betterRow 74 = .ok (.if_icmp .eq 7, 3) := by decide +kernel
theorem dX1_betterRow_77 : decode cX1_betterRow 77 = .ok (.iconst 1, 1) := by decide +kernel
theorem dX1_betterRow_78 : decode cX1_betterRow 78 = .ok (.goto 4, 3) := by decide +kernel
theorem dX1_betterRow_81 : decode cX1_betterRow 81 = .ok (.iconst 0, 1) := by decide +kernel
theorem dX1_betterRow_82 : decode cX1_betterRow 82 = .ok (.istore 5, 2) := by decide +kernel
theorem dX1_betterRow_84 : decode cX1_betterRow 84 = .ok (.aload_n 1, 1) := by decide +kernel
theorem dX1_betterRow_85 : decode cX1_betterRow 85 = .ok (.getfield 29, 3) := by decide +kernel
theorem dX1_betterRow_88 : decode cX1_betterRow 88 = .ok (.iload_n 2, 1) := by decide +kernel
theorem dX1_betterRow_89 : decode cX1_betterRow 89 = .ok (.iload_n 3, 1) := by decide +kernel
theorem dX1_betterRow_90 : decode cX1_betterRow 90 = .ok (.iastore, 1) := by decide +kernel
theorem dX1_betterRow_91 : decode cX1_betterRow 91 = .ok (.iload 5, 2) := by decide +kernel
theorem dX1_betterRow_93 : decode cX1_betterRow 93 = .ok (.ireturn, 1) := by decide +kernel
theorem dX1_improveOnce_0 : decode cX1_improveOnce 0 = .ok (.iconst 0, 1) := by decide +kernel
theorem dX1_improveOnce_1 : decode cX1_improveOnce 1 = .ok (.istore_n 2, 1) := by decide +kernel
theorem dX1_improveOnce_2 : decode cX1_improveOnce 2 = .ok (.iconst 0, 1) := by decide +kernel
theorem dX1_improveOnce_3 : decode cX1_improveOnce 3 = .ok (.istore_n 3, 1) := by decide +kernel
theorem dX1_improveOnce_4 : decode cX1_improveOnce 4 = .ok (.iload_n 3, 1) := by decide +kernel
theorem dX1_improveOnce_5 : decode cX1_improveOnce 5 = .ok (.aload_n 1, 1) := by decide +kernel
theorem dX1_improveOnce_6 : decode cX1_improveOnce 6 = .ok (.getfield 26, 3) := by decide +kernel
theorem dX1_improveOnce_9 : decode cX1_improveOnce 9 = .ok (.if_icmp .ge 28, 3) := by decide +kernel
theorem dX1_improveOnce_12 : decode cX1_improveOnce 12 = .ok (.aload_n 1, 1) := by decide +kernel
theorem dX1_improveOnce_13 : decode cX1_improveOnce 13 = .ok (.iload_n 3, 1) := by decide +kernel
theorem dX1_improveOnce_14 : decode cX1_improveOnce 14 = .ok (.invokevirtual 64, 3) := by decide +kernel
theorem dX1_improveOnce_17 : decode cX1_improveOnce 17 = .ok (.ifCond .ne 14, 3) := by decide +kernel
theorem dX1_improveOnce_20 : decode cX1_improveOnce 20 = .ok (.aload_n 0, 1) := by decide +kernel
theorem dX1_improveOnce_21 : decode cX1_improveOnce 21 = .ok (.aload_n 1, 1) := by decide +kernel
theorem dX1_improveOnce_22 : decode cX1_improveOnce 22 = .ok (.iload_n 3, 1) := by decide +kernel
theorem dX1_improveOnce_23 : decode cX1_improveOnce 23 = .ok (.invokevirtual 68, 3) := by decide +kernel
theorem dX1_improveOnce_26 : decode cX1_improveOnce 26 = .ok (.ifCond .eq 5, 3) := by decide +kernel
theorem dX1_improveOnce_29 : decode cX1_improveOnce 29 = .ok (.iconst 1, 1) := by decide +kernel
theorem dX1_improveOnce_30 : decode cX1_improveOnce 30 = .ok (.istore_n 2, 1) := by decide +kernel
theorem dX1_improveOnce_31 : decode cX1_improveOnce 31 = .ok (.iinc 3 1, 3) := by decide +kernel
theorem dX1_improveOnce_34 : decode cX1_improveOnce 34 = .ok (.goto (-30), 3) := by decide +kernel
theorem dX1_improveOnce_37 : decode cX1_improveOnce 37 = .ok (.iload_n 2, 1) := by decide +kernel
theorem dX1_improveOnce_38 : decode cX1_improveOnce 38 = .ok (.ireturn, 1) := by decide +kernel
theorem dX1_improveAtMost_0 : decode cX1_improveAtMost 0 = .ok (.iconst 1, 1) := by decide +kernel
theorem dX1_improveAtMost_1 : decode cX1_improveAtMost 1 = .ok (.istore_n 3, 1) := by decide +kernel
theorem dX1_improveAtMost_2 : decode cX1_improveAtMost 2 = .ok (.iload_n 3, 1) := by decide +kernel
theorem dX1_improveAtMost_3 : decode cX1_improveAtMost 3 = .ok (.iload_n 2, 1) := by decide +kernel
theorem dX1_improveAtMost_4 : decode cX1_improveAtMost 4 = .ok (.if_icmp .ge 19, 3) := by decide +kernel
theorem dX1_improveAtMost_7 : decode cX1_improveAtMost 7 = .ok (.aload_n 0, 1) := by decide +kernel
theorem dX1_improveAtMost_8 : decode cX1_improveAtMost 8 = .ok (.aload_n 1, 1) := by decide +kernel
theorem dX1_improveAtMost_9 : decode cX1_improveAtMost 9 = .ok (.invokevirtual 72, 3) := by decide +kernel
theorem dX1_improveAtMost_12 : decode cX1_improveAtMost 12 = .ok (.ifCond .ne 5, 3) := by decide +kernel
theorem dX1_improveAtMost_15 : decode cX1_improveAtMost 15 = .ok (.iload_n 3, 1) := by decide +kernel
theorem dX1_improveAtMost_16 : decode cX1_improveAtMost 16 = .ok (.ireturn, 1) := by decide +kernel
theorem dX1_improveAtMost_17 : decode cX1_improveAtMost 17 = .ok (.iinc 3 1, 3) := by decide +kernel
theorem dX1_improveAtMost_20 : decode cX1_improveAtMost 20 = .ok (.goto (-18), 3) := by decide +kernel
theorem dX1_improveAtMost_23 : decode cX1_improveAtMost 23 = .ok (.aload_n 0, 1) := by decide +kernel
theorem dX1_improveAtMost_24 : decode cX1_improveAtMost 24 = .ok (.aload_n 1, 1) := by decide +kernel
theorem dX1_improveAtMost_25 : decode cX1_improveAtMost 25 = .ok (.invokevirtual 72, 3) := by decide +kernel
theorem dX1_improveAtMost_28 : decode cX1_improveAtMost 28 = .ok (.pop, 1) := by decide +kernel
theorem dX1_improveAtMost_29 : decode cX1_improveAtMost 29 = .ok (.iload_n 2, 1) := by decide +kernel
theorem dX1_improveAtMost_30 : decode cX1_improveAtMost 30 = .ok (.ireturn, 1) := by decide +kernel
theorem dX2_init_0 : decode cX2_init 0 = .ok (.aload_n 0, 1) := by decide +kernel
theorem dX2_init_1 : decode cX2_init 1 = .ok (.invokespecial 3, 3) := by decide +kernel
theorem dX2_init_4 : decode cX2_init 4 = .ok (.aload_n 0, 1) := by decide +kernel
theorem dX2_init_5 : decode cX2_init 5 = .ok (.bipush 30, 2) := by decide +kernel
theorem dX2_init_7 : decode cX2_init 7 = .ok (.newarray .int, 2) := by decide +kernel
theorem dX2_init_9 : decode cX2_init 9 = .ok (.putfield 11, 3) := by decide +kernel
theorem dX2_init_12 : decode cX2_init 12 = .ok (.aload_n 0, 1) := by decide +kernel
theorem dX2_init_13 : decode cX2_init 13 = .ok (.bipush 30, 2) := by decide +kernel
theorem dX2_init_15 : decode cX2_init 15 = .ok (.newarray .int, 2) := by decide +kernel
theorem dX2_init_17 : decode cX2_init 17 = .ok (.putfield 15, 3) := by decide +kernel
theorem dX2_init_20 : decode cX2_init 20 = .ok (.aload_n 0, 1) := by decide +kernel
theorem dX2_init_21 : decode cX2_init 21 = .ok (.bipush 30, 2) := by decide +kernel
theorem dX2_init_23 : decode cX2_init 23 = .ok (.newarray .int, 2) := by decide +kernel
theorem dX2_init_25 : decode cX2_init 25 = .ok (.putfield 18, 3) := by decide +kernel
theorem dX2_init_28 : decode cX2_init 28 = .ok (.aload_n 0, 1) := by decide +kernel
theorem dX2_init_29 : decode cX2_init 29 = .ok (.bipush 30, 2) := by decide +kernel
theorem dX2_init_31 : decode cX2_init 31 = .ok (.newarray .int, 2) := by decide +kernel
theorem dX2_init_33 : decode cX2_init 33 = .ok (.putfield 21, 3) := by decide +kernel
theorem dX2_init_36 : decode cX2_init 36 = .ok (.aload_n 0, 1) := by decide +kernel
theorem dX2_init_37 : decode cX2_init 37 = .ok (.iconst 2, 1) := by decide +kernel
theorem dX2_init_38 : decode cX2_init 38 = .ok (.newarray .int, 2) := by decide +kernel
theorem dX2_init_40 : decode cX2_init 40 = .ok (.putfield 24, 3) := by decide +kernel
theorem dX2_init_43 : decode cX2_init 43 = .ok (.return_, 1) := by decide +kernel
theorem dX2_behind_0 : decode cX2_behind 0 = .ok (.iload_n 1, 1) := by decide +kernel
theorem dX2_behind_1 : decode cX2_behind 1 = .ok (.iconst 1, 1) := by decide +kernel
theorem dX2_behind_2 : decode cX2_behind 2 = .ok (.iadd, 1) := by decide +kernel
theorem dX2_behind_3 : decode cX2_behind 3 = .ok (.aload_n 0, 1) := by decide +kernel
theorem dX2_behind_4 : decode cX2_behind 4 = .ok (.getfield 21, 3) := by decide +kernel
theorem dX2_behind_7 : decode cX2_behind 7 = .ok (.iload_n 1, 1) := by decide +kernel
theorem dX2_behind_8 : decode cX2_behind 8 = .ok (.iaload, 1) := by decide +kernel
theorem dX2_behind_9 : decode cX2_behind 9 = .ok (.invokestatic 27, 3) := by decide +kernel
theorem dX2_behind_12 : decode cX2_behind 12 = .ok (.ireturn, 1) := by decide +kernel
theorem dX2_read_0 : decode cX2_read 0 = .ok (.aload_n 0, 1) := by decide +kernel
theorem dX2_read_1 : decode cX2_read 1 = .ok (.iconst 0, 1) := by decide +kernel
theorem dX2_read_2 : decode cX2_read 2 = .ok (.putfield 33, 3) := by decide +kernel
theorem dX2_read_5 : decode cX2_read 5 = .ok (.aload_n 0, 1) := by decide +kernel
theorem dX2_read_6 : decode cX2_read 6 = .ok (.iconst 0, 1) := by decide +kernel
theorem dX2_read_7 : decode cX2_read 7 = .ok (.putfield 37, 3) := by decide +kernel
theorem dX2_read_10 : decode cX2_read 10 = .ok (.aload_n 1, 1) := by decide +kernel
theorem dX2_read_11 : decode cX2_read 11 = .ok (.invokevirtual 40, 3) := by decide +kernel
theorem dX2_read_14 : decode cX2_read 14 = .ok (.iconst 0, 1) := by decide +kernel
theorem dX2_read_15 : decode cX2_read 15 = .ok (.istore_n 3, 1) := by decide +kernel
theorem dX2_read_16 : decode cX2_read 16 = .ok (.iload_n 3, 1) := by decide +kernel
theorem dX2_read_17 : decode cX2_read 17 = .ok (.sipush 600, 3) := by decide +kernel
theorem dX2_read_20 : decode cX2_read 20 = .ok (.if_icmp .ge 54, 3) := by decide +kernel
theorem dX2_read_23 : decode cX2_read 23 = .ok (.aload_n 1, 1) := by decide +kernel
theorem dX2_read_24 : decode cX2_read 24 = .ok (.getfield 45, 3) := by decide +kernel
theorem dX2_read_27 : decode cX2_read 27 = .ok (.ifCond .ne 47, 3) := by decide +kernel
theorem dX2_read_30 : decode cX2_read 30 = .ok (.aload_n 0, 1) := by decide +kernel
theorem dX2_read_31 : decode cX2_read 31 = .ok (.aload_n 1, 1) := by decide +kernel
theorem dX2_read_32 : decode cX2_read 32 = .ok (.invokevirtual 48, 3) := by decide +kernel
theorem dX2_read_35 : decode cX2_read 35 = .ok (.ifCond .ne 39, 3) := by decide +kernel
theorem dX2_read_38 : decode cX2_read 38 = .ok (.aload_n 0, 1) := by decide +kernel
theorem dX2_read_39 : decode cX2_read 39 = .ok (.getfield 37, 3) := by decide +kernel
theorem dX2_read_42 : decode cX2_read 42 = .ok (.ifCond .le 20, 3) := by decide +kernel
theorem dX2_read_45 : decode cX2_read 45 = .ok (.aload_n 1, 1) := by decide +kernel
theorem dX2_read_46 : decode cX2_read 46 = .ok (.bipush 41, 2) := by decide +kernel
theorem dX2_read_48 : decode cX2_read 48 = .ok (.invokevirtual 52, 3) := by decide +kernel
theorem dX2_read_51 : decode cX2_read 51 = .ok (.ifCond .eq 11, 3) := by decide +kernel
theorem dX2_read_54 : decode cX2_read 54 = .ok (.aload_n 0, 1) := by decide +kernel
theorem dX2_read_55 : decode cX2_read 55 = .ok (.aload_n 1, 1) := by decide +kernel
theorem dX2_read_56 : decode cX2_read 56 = .ok (.invokevirtual 56, 3) := by decide +kernel
theorem dX2_read_59 : decode cX2_read 59 = .ok (.goto 9, 3) := by decide +kernel
theorem dX2_read_62 : decode cX2_read 62 = .ok (.aload_n 0, 1) := by decide +kernel
theorem dX2_read_63 : decode cX2_read 63 = .ok (.aload_n 1, 1) := by decide +kernel
theorem dX2_read_64 : decode cX2_read 64 = .ok (.aload_n 2, 1) := by decide +kernel
theorem dX2_read_65 : decode cX2_read 65 = .ok (.invokevirtual 60, 3) := by decide +kernel
theorem dX2_read_68 : decode cX2_read 68 = .ok (.iinc 3 1, 3) := by decide +kernel
theorem dX2_read_71 : decode cX2_read 71 = .ok (.goto (-55), 3) := by decide +kernel
theorem dX2_read_74 : decode cX2_read 74 = .ok (.aload_n 1, 1) := by decide +kernel
theorem dX2_read_75 : decode cX2_read 75 = .ok (.getfield 45, 3) := by decide +kernel
theorem dX2_read_78 : decode cX2_read 78 = .ok (.ifCond .ne 7, 3) := by decide +kernel
theorem dX2_read_81 : decode cX2_read 81 = .ok (.iconst 1, 1) := by decide +kernel
theorem dX2_read_82 : decode cX2_read 82 = .ok (.goto 4, 3) := by decide +kernel
theorem dX2_read_85 : decode cX2_read 85 = .ok (.iconst 0, 1) := by decide +kernel
theorem dX2_read_86 : decode cX2_read 86 = .ok (.ireturn, 1) := by decide +kernel
theorem dX2_isAtEnd_0 : decode cX2_isAtEnd 0 = .ok (.aload_n 0, 1) := by decide +kernel
theorem dX2_isAtEnd_1 : decode cX2_isAtEnd 1 = .ok (.getfield 37, 3) := by decide +kernel
theorem dX2_isAtEnd_4 : decode cX2_isAtEnd 4 = .ok (.ifCond .ne 14, 3) := by decide +kernel
theorem dX2_isAtEnd_7 : decode cX2_isAtEnd 7 = .ok (.aload_n 1, 1) := by decide +kernel
theorem dX2_isAtEnd_8 : decode cX2_isAtEnd 8 = .ok (.getfield 64, 3) := by decide +kernel
theorem dX2_isAtEnd_11 : decode cX2_isAtEnd 11 = .ok (.ifCond .ne 7, 3) := by decide +kernel
theorem dX2_isAtEnd_14 : decode cX2_isAtEnd 14 = .ok (.iconst 1, 1) := by decide +kernel
theorem dX2_isAtEnd_15 : decode cX2_isAtEnd 15 = .ok (.goto 4, 3) := by decide +kernel
theorem dX2_isAtEnd_18 : decode cX2_isAtEnd 18 = .ok (.iconst 0, 1) := by decide +kernel
theorem dX2_isAtEnd_19 : decode cX2_isAtEnd 19 = .ok (.ireturn, 1) := by decide +kernel
theorem dX2_closeRepeat_0 : decode cX2_closeRepeat 0 = .ok (.aload_n 0, 1) := by decide +kernel
theorem dX2_closeRepeat_1 : decode cX2_closeRepeat 1 = .ok (.dup, 1) := by decide +kernel
theorem dX2_closeRepeat_2 : decode cX2_closeRepeat 2 = .ok (.getfield 37, 3) := by decide +kernel
theorem dX2_closeRepeat_5 : decode cX2_closeRepeat 5 = .ok (.iconst 1, 1) := by decide +kernel
theorem dX2_closeRepeat_6 : decode cX2_closeRepeat 6 = .ok (.isub, 1) := by decide +kernel
theorem dX2_closeRepeat_7 : decode cX2_closeRepeat 7 = .ok (.putfield 37, 3) := by decide +kernel
theorem dX2_closeRepeat_10 : decode cX2_closeRepeat 10 = .ok (.aload_n 0, 1) := by decide +kernel
theorem dX2_closeRepeat_11 : decode cX2_closeRepeat 11 = .ok (.getfield 21, 3) := by decide +kernel
theorem dX2_closeRepeat_14 : decode cX2_closeRepeat 14 = .ok (.aload_n 0, 1) := by decide +kernel
theorem dX2_closeRepeat_15 : decode cX2_closeRepeat 15 = .ok (.getfield 24, 3) := by decide +kernel
theorem dX2_closeRepeat_18 : decode cX2_closeRepeat 18 = .ok (.aload_n 0, 1) := by decide +kernel
theorem dX2_closeRepeat_19 : decode cX2_closeRepeat 19 = .ok (.getfield 37, 3) := by decide +kernel
theorem dX2_closeRepeat_22 : decode cX2_closeRepeat 22 = .ok (.iaload, 1) := by decide +kernel
theorem dX2_closeRepeat_23 : decode cX2_closeRepeat 23 = .ok (.aload_n 0, 1) := by decide +kernel
theorem dX2_closeRepeat_24 : decode cX2_closeRepeat 24 = .ok (.getfield 33, 3) := by decide +kernel
theorem dX2_closeRepeat_27 : decode cX2_closeRepeat 27 = .ok (.iastore, 1) := by decide +kernel
theorem dX2_closeRepeat_28 : decode cX2_closeRepeat 28 = .ok (.aload_n 1, 1) := by decide +kernel
theorem dX2_closeRepeat_29 : decode cX2_closeRepeat 29 = .ok (.invokevirtual 67, 3) := by decide +kernel
theorem dX2_closeRepeat_32 : decode cX2_closeRepeat 32 = .ok (.aload_n 1, 1) := by decide +kernel
theorem dX2_closeRepeat_33 : decode cX2_closeRepeat 33 = .ok (.bipush 59, 2) := by decide +kernel
theorem dX2_closeRepeat_35 : decode cX2_closeRepeat 35 = .ok (.invokevirtual 70, 3) := by decide +kernel
theorem dX2_closeRepeat_38 : decode cX2_closeRepeat 38 = .ok (.return_, 1) := by decide +kernel
theorem dX2_readCommand_0 : decode cX2_readCommand 0 = .ok (.aload_n 1, 1) := by decide +kernel
theorem dX2_readCommand_1 : decode cX2_readCommand 1 = .ok (.invokestatic 74, 3) := by decide +kernel
theorem dX2_readCommand_4 : decode cX2_readCommand 4 = .ok (.istore_n 3, 1) := by decide +kernel
theorem dX2_readCommand_5 : decode cX2_readCommand 5 = .ok (.iload_n 3, 1) := by decide +kernel
theorem dX2_readCommand_6 : decode cX2_readCommand 6 = .ok (.iconst (-1), 1) := by decide +kernel
theorem dX2_readCommand_7 : decode cX2_readCommand 7 = .ok (.if_icmp .ne 11, 3) := by decide +kernel
theorem dX2_readCommand_10 : decode cX2_readCommand 10 = .ok (.aload_n 1, 1) := by decide +kernel
theorem dX2_readCommand_11 : decode cX2_readCommand 11 = .ok (.iconst 1, 1) := by decide +kernel
theorem dX2_readCommand_12 : decode cX2_readCommand 12 = .ok (.invokevirtual 78, 3) := by decide +kernel
theorem dX2_readCommand_15 : decode cX2_readCommand 15 = .ok (.goto 128, 3) := by decide +kernel
theorem dX2_readCommand_18 : decode cX2_readCommand 18 = .ok (.iload_n 3, 1) := by decide +kernel
theorem dX2_readCommand_19 : decode cX2_readCommand 19 = .ok (.bipush 10, 2) := by decide +kernel
theorem dX2_readCommand_21 : decode cX2_readCommand 21 = .ok (.if_icmp .ne 19, 3) := by decide +kernel
theorem dX2_readCommand_24 : decode cX2_readCommand 24 = .ok (.aload_n 0, 1) := by decide +kernel
theorem dX2_readCommand_25 : decode cX2_readCommand 25 = .ok (.getfield 37, 3) := by decide +kernel
theorem dX2_readCommand_28 : decode cX2_readCommand 28 = .ok (.iconst 2, 1) := by decide +kernel
theorem dX2_readCommand_29 : decode cX2_readCommand 29 = .ok (.if_icmp .ne 11, 3) := by decide +kernel
theorem dX2_readCommand_32 : decode cX2_readCommand 32 = .ok (.aload_n 1, 1) := by decide +kernel
theorem dX2_readCommand_33 : decode cX2_readCommand 33 = .ok (.iconst 4, 1) := by decide +kernel
theorem dX2_readCommand_34 : decode cX2_readCommand 34 = .ok (.invokevirtual 78, 3) := by decide +kernel
theorem dX2_readCommand_37 : decode cX2_readCommand 37 = .ok (.goto 106, 3) := by decide +kernel
theorem dX2_readCommand_40 : decode cX2_readCommand 40 = .ok (.aload_n 0, 1) := by decide +kernel
theorem dX2_readCommand_41 : decode cX2_readCommand 41 = .ok (.getfield 33, 3) := by decide +kernel
theorem dX2_readCommand_44 : decode cX2_readCommand 44 = .ok (.bipush 30, 2) := by decide +kernel
theorem dX2_readCommand_46 : decode cX2_readCommand 46 = .ok (.if_icmp .ne 12, 3) := by decide +kernel
theorem dX2_readCommand_49 : decode cX2_readCommand 49 = .ok (.aload_n 1, 1) := by decide +kernel
theorem dX2_readCommand_50 : decode cX2_readCommand 50 = .ok (.bipush 6, 2) := by decide +kernel
theorem dX2_readCommand_52 : decode cX2_readCommand 52 = .ok (.invokevirtual 78, 3) := by decide +kernel
theorem dX2_readCommand_55 : decode cX2_readCommand 55 = .ok (.goto 88, 3) := by decide +kernel
theorem dX2_readCommand_58 : decode cX2_readCommand 58 = .ok (.aload_n 1, 1) := by decide +kernel
theorem dX2_readCommand_59 : decode cX2_readCommand 59 = .ok (.invokevirtual 67, 3) := by decide +kernel
theorem dX2_readCommand_62 : decode cX2_readCommand 62 = .ok (.aload_n 0, 1) := by decide +kernel
theorem dX2_readCommand_63 : decode cX2_readCommand 63 = .ok (.getfield 11, 3) := by decide +kernel
theorem dX2_readCommand_66 : decode cX2_readCommand 66 = .ok (.aload_n 0, 1) := by decide +kernel
theorem dX2_readCommand_67 : decode cX2_readCommand 67 = .ok (.getfield 33, 3) := by decide +kernel
theorem dX2_readCommand_70 : decode cX2_readCommand 70 = .ok (.iload_n 3, 1) := by decide +kernel
theorem dX2_readCommand_71 : decode cX2_readCommand 71 = .ok (.iastore, 1) := by decide +kernel
theorem dX2_readCommand_72 : decode cX2_readCommand 72 = .ok (.aload_n 0, 1) := by decide +kernel
theorem dX2_readCommand_73 : decode cX2_readCommand 73 = .ok (.getfield 15, 3) := by decide +kernel
theorem dX2_readCommand_76 : decode cX2_readCommand 76 = .ok (.aload_n 0, 1) := by decide +kernel
theorem dX2_readCommand_77 : decode cX2_readCommand 77 = .ok (.getfield 33, 3) := by decide +kernel
theorem dX2_readCommand_80 : decode cX2_readCommand 80 = .ok (.iload_n 3, 1) := by decide +kernel
theorem dX2_readCommand_81 : decode cX2_readCommand 81 = .ok (.invokestatic 82, 3) := by decide +kernel
theorem dX2_readCommand_84 : decode cX2_readCommand 84 = .ok (.ifCond .eq 11, 3) := by decide +kernel
theorem dX2_readCommand_87 : decode cX2_readCommand 87 = .ok (.aload_n 1, 1) := by decide +kernel
theorem dX2_readCommand_88 : decode cX2_readCommand 88 = .ok (.aload_n 2, 1) := by decide +kernel
theorem dX2_readCommand_89 : decode cX2_readCommand 89 = .ok (.invokestatic 86, 3) := by decide +kernel
theorem dX2_readCommand_92 : decode cX2_readCommand 92 = .ok (.goto 4, 3) := by decide +kernel
theorem dX2_readCommand_95 : decode cX2_readCommand 95 = .ok (.iconst (-1), 1) := by decide +kernel
theorem dX2_readCommand_96 : decode cX2_readCommand 96 = .ok (.iastore, 1) := by decide +kernel
theorem dX2_readCommand_97 : decode cX2_readCommand 97 = .ok (.aload_n 0, 1) := by decide +kernel
theorem dX2_readCommand_98 : decode cX2_readCommand 98 = .ok (.getfield 18, 3) := by decide +kernel
theorem dX2_readCommand_101 : decode cX2_readCommand 101 = .ok (.aload_n 0, 1) := by decide +kernel
theorem dX2_readCommand_102 : decode cX2_readCommand 102 = .ok (.getfield 33, 3) := by decide +kernel
theorem dX2_readCommand_105 : decode cX2_readCommand 105 = .ok (.iload_n 3, 1) := by decide +kernel
theorem dX2_readCommand_106 : decode cX2_readCommand 106 = .ok (.aload_n 1, 1) := by decide +kernel
theorem dX2_readCommand_107 : decode cX2_readCommand 107 = .ok (.aload_n 2, 1) := by decide +kernel
theorem dX2_readCommand_108 : decode cX2_readCommand 108 = .ok (.invokestatic 90, 3) := by decide +kernel
theorem dX2_readCommand_111 : decode cX2_readCommand 111 = .ok (.iastore, 1) := by decide +kernel
theorem dX2_readCommand_112 : decode cX2_readCommand 112 = .ok (.aload_n 0, 1) := by decide +kernel
theorem dX2_readCommand_113 : decode cX2_readCommand 113 = .ok (.getfield 21, 3) := by decide +kernel
theorem dX2_readCommand_116 : decode cX2_readCommand 116 = .ok (.aload_n 0, 1) := by decide +kernel
theorem dX2_readCommand_117 : decode cX2_readCommand 117 = .ok (.getfield 33, 3) := by decide +kernel
theorem dX2_readCommand_120 : decode cX2_readCommand 120 = .ok (.aload_n 0, 1) := by decide +kernel
theorem dX2_readCommand_121 : decode cX2_readCommand 121 = .ok (.getfield 33, 3) := by decide +kernel
theorem dX2_readCommand_124 : decode cX2_readCommand 124 = .ok (.iconst 1, 1) := by decide +kernel
theorem dX2_readCommand_125 : decode cX2_readCommand 125 = .ok (.iadd, 1) := by decide +kernel
theorem dX2_readCommand_126 : decode cX2_readCommand 126 = .ok (.iastore, 1) := by decide +kernel
theorem dX2_readCommand_127 : decode cX2_readCommand 127 = .ok (.aload_n 0, 1) := by decide +kernel
theorem dX2_readCommand_128 : decode cX2_readCommand 128 = .ok (.dup, 1) := by decide +kernel
theorem dX2_readCommand_129 : decode cX2_readCommand 129 = .ok (.getfield 33, 3) := by decide +kernel
theorem dX2_readCommand_132 : decode cX2_readCommand 132 = .ok (.iconst 1, 1) := by decide +kernel
theorem dX2_readCommand_133 : decode cX2_readCommand 133 = .ok (.iadd, 1) := by decide +kernel
theorem dX2_readCommand_134 : decode cX2_readCommand 134 = .ok (.putfield 33, 3) := by decide +kernel
theorem dX2_readCommand_137 : decode cX2_readCommand 137 = .ok (.aload_n 0, 1) := by decide +kernel
theorem dX2_readCommand_138 : decode cX2_readCommand 138 = .ok (.iload_n 3, 1) := by decide +kernel
theorem dX2_readCommand_139 : decode cX2_readCommand 139 = .ok (.aload_n 1, 1) := by decide +kernel
theorem dX2_readCommand_140 : decode cX2_readCommand 140 = .ok (.invokevirtual 94, 3) := by decide +kernel
theorem dX2_readCommand_143 : decode cX2_readCommand 143 = .ok (.return_, 1) := by decide +kernel
theorem dX2_finishCommand_0 : decode cX2_finishCommand 0 = .ok (.iload_n 1, 1) := by decide +kernel
theorem dX2_finishCommand_1 : decode cX2_finishCommand 1 = .ok (.bipush 10, 2) := by decide +kernel
theorem dX2_finishCommand_3 : decode cX2_finishCommand 3 = .ok (.if_icmp .ne 37, 3) := by decide +kernel
theorem dX2_finishCommand_6 : decode cX2_finishCommand 6 = .ok (.aload_n 2, 1) := by decide +kernel
theorem dX2_finishCommand_7 : decode cX2_finishCommand 7 = .ok (.bipush 40, 2) := by decide +kernel
theorem dX2_finishCommand_9 : decode cX2_finishCommand 9 = .ok (.invokevirtual 70, 3) := by decide +kernel
theorem dX2_finishCommand_12 : decode cX2_finishCommand 12 = .ok (.aload_n 0, 1) := by decide +kernel
theorem dX2_finishCommand_13 : decode cX2_finishCommand 13 = .ok (.getfield 24, 3) := by decide +kernel
theorem dX2_finishCommand_16 : decode cX2_finishCommand 16 = .ok (.aload_n 0, 1) := by decide +kernel
theorem dX2_finishCommand_17 : decode cX2_finishCommand 17 = .ok (.getfield 37, 3) := by decide +kernel
theorem dX2_finishCommand_20 : decode cX2_finishCommand 20 = .ok (.aload_n 0, 1) := by decide +kernel
theorem dX2_finishCommand_21 : decode cX2_finishCommand 21 = .ok (.getfield 33, 3) := by decide +kernel
theorem dX2_finishCommand_24 : decode cX2_finishCommand 24 = .ok (.iconst 1, 1) := by decide +kernel
theorem dX2_finishCommand_25 : decode cX2_finishCommand 25 = .ok (.isub, 1) := by decide +kernel
theorem dX2_finishCommand_26 : decode cX2_finishCommand 26 = .ok (.iastore, 1) := by decide +kernel
theorem dX2_finishCommand_27 : decode cX2_finishCommand 27 = .ok (.aload_n 0, 1) := by decide +kernel
theorem dX2_finishCommand_28 : decode cX2_finishCommand 28 = .ok (.dup, 1) := by decide +kernel
theorem dX2_finishCommand_29 : decode cX2_finishCommand 29 = .ok (.getfield 37, 3) := by decide +kernel
theorem dX2_finishCommand_32 : decode cX2_finishCommand 32 = .ok (.iconst 1, 1) := by decide +kernel
theorem dX2_finishCommand_33 : decode cX2_finishCommand 33 = .ok (.iadd, 1) := by decide +kernel
theorem dX2_finishCommand_34 : decode cX2_finishCommand 34 = .ok (.putfield 37, 3) := by decide +kernel
theorem dX2_finishCommand_37 : decode cX2_finishCommand 37 = .ok (.goto 9, 3) := by decide +kernel
theorem dX2_finishCommand_40 : decode cX2_finishCommand 40 = .ok (.aload_n 2, 1) := by decide +kernel
theorem dX2_finishCommand_41 : decode cX2_finishCommand 41 = .ok (.bipush 59, 2) := by decide +kernel
theorem dX2_finishCommand_43 : decode cX2_finishCommand 43 = .ok (.invokevirtual 70, 3) := by decide +kernel
theorem dX2_finishCommand_46 : decode cX2_finishCommand 46 = .ok (.return_, 1) := by decide +kernel
theorem dX2_kindOf_0 : decode cX2_kindOf 0 = .ok (.aload_n 0, 1) := by decide +kernel
theorem dX2_kindOf_1 : decode cX2_kindOf 1 = .ok (.ldc 98, 2) := by decide +kernel
theorem dX2_kindOf_3 : decode cX2_kindOf 3 = .ok (.invokevirtual 100, 3) := by decide +kernel
theorem dX2_kindOf_6 : decode cX2_kindOf 6 = .ok (.ifCond .eq 5, 3) := by decide +kernel
theorem dX2_kindOf_9 : decode cX2_kindOf 9 = .ok (.iconst 1, 1) := by decide +kernel
theorem dX2_kindOf_10 : decode cX2_kindOf 10 = .ok (.ireturn, 1) := by decide +kernel
theorem dX2_kindOf_11 : decode cX2_kindOf 11 = .ok (.aload_n 0, 1) := by decide +kernel
theorem dX2_kindOf_12 : decode cX2_kindOf 12 = .ok (.ldc 104, 2) := by decide +kernel
theorem dX2_kindOf_14 : decode cX2_kindOf 14 = .ok (.invokevirtual 100, 3) := by decide +kernel
theorem dX2_kindOf_17 : decode cX2_kindOf 17 = .ok (.ifCond .eq 5, 3) := by decide +kernel
theorem dX2_kindOf_20 : decode cX2_kindOf 20 = .ok (.iconst 2, 1) := by decide +kernel
theorem dX2_kindOf_21 : decode cX2_kindOf 21 = .ok (.ireturn, 1) := by decide +kernel
theorem dX2_kindOf_22 : decode cX2_kindOf 22 = .ok (.aload_n 0, 1) := by decide +kernel
theorem dX2_kindOf_23 : decode cX2_kindOf 23 = .ok (.ldc 106, 2) := by decide +kernel
theorem dX2_kindOf_25 : decode cX2_kindOf 25 = .ok (.invokevirtual 100, 3) := by decide +kernel
theorem dX2_kindOf_28 : decode cX2_kindOf 28 = .ok (.ifCond .eq 5, 3) := by decide +kernel
theorem dX2_kindOf_31 : decode cX2_kindOf 31 = .ok (.iconst 3, 1) := by decide +kernel
theorem dX2_kindOf_32 : decode cX2_kindOf 32 = .ok (.ireturn, 1) := by decide +kernel
theorem dX2_kindOf_33 : decode cX2_kindOf 33 = .ok (.aload_n 0, 1) := by decide +kernel
theorem dX2_kindOf_34 : decode cX2_kindOf 34 = .ok (.ldc 108, 2) := by decide +kernel
theorem dX2_kindOf_36 : decode cX2_kindOf 36 = .ok (.invokevirtual 100, 3) := by decide +kernel
theorem dX2_kindOf_39 : decode cX2_kindOf 39 = .ok (.ifCond .eq 5, 3) := by decide +kernel
theorem dX2_kindOf_42 : decode cX2_kindOf 42 = .ok (.iconst 4, 1) := by decide +kernel
theorem dX2_kindOf_43 : decode cX2_kindOf 43 = .ok (.ireturn, 1) := by decide +kernel
theorem dX2_kindOf_44 : decode cX2_kindOf 44 = .ok (.aload_n 0, 1) := by decide +kernel
theorem dX2_kindOf_45 : decode cX2_kindOf 45 = .ok (.ldc 110, 2) := by decide +kernel
theorem dX2_kindOf_47 : decode cX2_kindOf 47 = .ok (.invokevirtual 100, 3) := by decide +kernel
theorem dX2_kindOf_50 : decode cX2_kindOf 50 = .ok (.ifCond .eq 5, 3) := by decide +kernel
theorem dX2_kindOf_53 : decode cX2_kindOf 53 = .ok (.iconst 5, 1) := by decide +kernel
theorem dX2_kindOf_54 : decode cX2_kindOf 54 = .ok (.ireturn, 1) := by decide +kernel
theorem dX2_kindOf_55 : decode cX2_kindOf 55 = .ok (.aload_n 0, 1) := by decide +kernel
theorem dX2_kindOf_56 : decode cX2_kindOf 56 = .ok (.ldc 112, 2) := by decide +kernel
theorem dX2_kindOf_58 : decode cX2_kindOf 58 = .ok (.invokevirtual 100, 3) := by decide +kernel
theorem dX2_kindOf_61 : decode cX2_kindOf 61 = .ok (.ifCond .eq 6, 3) := by decide +kernel
theorem dX2_kindOf_64 : decode cX2_kindOf 64 = .ok (.bipush 6, 2) := by decide +kernel
theorem dX2_kindOf_66 : decode cX2_kindOf 66 = .ok (.ireturn, 1) := by decide +kernel
theorem dX2_kindOf_67 : decode cX2_kindOf 67 = .ok (.aload_n 0, 1) := by decide +kernel
theorem dX2_kindOf_68 : decode cX2_kindOf 68 = .ok (.ldc 114, 2) := by decide +kernel
theorem dX2_kindOf_70 : decode cX2_kindOf 70 = .ok (.invokevirtual 100, 3) := by decide +kernel
theorem dX2_kindOf_73 : decode cX2_kindOf 73 = .ok (.ifCond .eq 6, 3) := by decide +kernel
theorem dX2_kindOf_76 : decode cX2_kindOf 76 = .ok (.bipush 7, 2) := by decide +kernel
theorem dX2_kindOf_78 : decode cX2_kindOf 78 = .ok (.ireturn, 1) := by decide +kernel
theorem dX2_kindOf_79 : decode cX2_kindOf 79 = .ok (.aload_n 0, 1) := by decide +kernel
theorem dX2_kindOf_80 : decode cX2_kindOf 80 = .ok (.ldc 116, 2) := by decide +kernel
theorem dX2_kindOf_82 : decode cX2_kindOf 82 = .ok (.invokevirtual 100, 3) := by decide +kernel
theorem dX2_kindOf_85 : decode cX2_kindOf 85 = .ok (.ifCond .eq 6, 3) := by decide +kernel
theorem dX2_kindOf_88 : decode cX2_kindOf 88 = .ok (.bipush 8, 2) := by decide +kernel
theorem dX2_kindOf_90 : decode cX2_kindOf 90 = .ok (.ireturn, 1) := by decide +kernel
theorem dX2_kindOf_91 : decode cX2_kindOf 91 = .ok (.aload_n 0, 1) := by decide +kernel
theorem dX2_kindOf_92 : decode cX2_kindOf 92 = .ok (.ldc 118, 2) := by decide +kernel
theorem dX2_kindOf_94 : decode cX2_kindOf 94 = .ok (.invokevirtual 100, 3) := by decide +kernel
theorem dX2_kindOf_97 : decode cX2_kindOf 97 = .ok (.ifCond .eq 6, 3) := by decide +kernel
theorem dX2_kindOf_100 : decode cX2_kindOf 100 = .ok (.bipush 9, 2) := by decide +kernel
theorem dX2_kindOf_102 : decode cX2_kindOf 102 = .ok (.ireturn, 1) := by decide +kernel
theorem dX2_kindOf_103 : decode cX2_kindOf 103 = .ok (.aload_n 0, 1) := by decide +kernel
theorem dX2_kindOf_104 : decode cX2_kindOf 104 = .ok (.ldc 120, 2) := by decide +kernel
theorem dX2_kindOf_106 : decode cX2_kindOf 106 = .ok (.invokevirtual 100, 3) := by decide +kernel
theorem dX2_kindOf_109 : decode cX2_kindOf 109 = .ok (.ifCond .eq 8, 3) := by decide +kernel
theorem dX2_kindOf_112 : decode cX2_kindOf 112 = .ok (.bipush 10, 2) := by decide +kernel
theorem dX2_kindOf_114 : decode cX2_kindOf 114 = .ok (.goto 4, 3) := by decide +kernel
theorem dX2_kindOf_117 : decode cX2_kindOf 117 = .ok (.iconst (-1), 1) := by decide +kernel
theorem dX2_kindOf_118 : decode cX2_kindOf 118 = .ok (.ireturn, 1) := by decide +kernel
theorem dX2_hasName_0 : decode cX2_hasName 0 = .ok (.iload_n 0, 1) := by decide +kernel
theorem dX2_hasName_1 : decode cX2_hasName 1 = .ok (.iconst 1, 1) := by decide +kernel
theorem dX2_hasName_2 : decode cX2_hasName 2 = .ok (.if_icmp .eq 25, 3) := by decide +kernel
theorem dX2_hasName_5 : decode cX2_hasName 5 = .ok (.iload_n 0, 1) := by decide +kernel
theorem dX2_hasName_6 : decode cX2_hasName 6 = .ok (.iconst 2, 1) := by decide +kernel
theorem dX2_hasName_7 : decode cX2_hasName 7 = .ok (.if_icmp .eq 20, 3) := by decide +kernel
theorem dX2_hasName_10 : decode cX2_hasName 10 = .ok (.iload_n 0, 1) := by decide +kernel
theorem dX2_hasName_11 : decode cX2_hasName 11 = .ok (.iconst 3, 1) := by decide +kernel
theorem dX2_hasName_12 : decode cX2_hasName 12 = .ok (.if_icmp .eq 15, 3) := by decide +kernel
theorem dX2_hasName_15 : decode cX2_hasName 15 = .ok (.iload_n 0, 1) := by decide +kernel
theorem dX2_hasName_16 : decode cX2_hasName 16 = .ok (.bipush 7, 2) := by decide +kernel
theorem dX2_hasName_18 : decode cX2_hasName 18 = .ok (.if_icmp .eq 9, 3) := by decide +kernel
theorem dX2_hasName_21 : decode cX2_hasName 21 = .ok (.iload_n 0, 1) := by decide +kernel
theorem dX2_hasName_22 : decode cX2_hasName 22 = .ok (.bipush 8, 2) := by decide +kernel
theorem dX2_hasName_24 : decode cX2_hasName 24 = .ok (.if_icmp .ne 7, 3) := by decide +kernel
theorem dX2_hasName_27 : decode cX2_hasName 27 = .ok (.iconst 1, 1) := by decide +kernel
theorem dX2_hasName_28 : decode cX2_hasName 28 = .ok (.goto 4, 3) := by decide +kernel
theorem dX2_hasName_31 : decode cX2_hasName 31 = .ok (.iconst 0, 1) := by decide +kernel
theorem dX2_hasName_32 : decode cX2_hasName 32 = .ok (.ireturn, 1) := by decide +kernel
theorem dX2_passRow_0 : decode cX2_passRow 0 = .ok (.aload_n 0, 1) := by decide +kernel
theorem dX2_passRow_1 : decode cX2_passRow 1 = .ok (.invokevirtual 122, 3) := by decide +kernel
theorem dX2_passRow_4 : decode cX2_passRow 4 = .ok (.lstore_n 2, 1) := by decide +kernel
theorem dX2_passRow_5 : decode cX2_passRow 5 = .ok (.aload_n 1, 1) := by decide +kernel
theorem dX2_passRow_6 : decode cX2_passRow 6 = .ok (.lload_n 2, 1) := by decide +kernel
theorem dX2_passRow_7 : decode cX2_passRow 7 = .ok (.invokevirtual 126, 3) := by decide +kernel
theorem dX2_passRow_10 : decode cX2_passRow 10 = .ok (.istore 4, 2) := by decide +kernel
theorem dX2_passRow_12 : decode cX2_passRow 12 = .ok (.lload_n 2, 1) := by decide +kernel
theorem dX2_passRow_13 : decode cX2_passRow 13 = .ok (.lconst 0, 1) := by decide +kernel
theorem dX2_passRow_14 : decode cX2_passRow 14 = .ok (.lcmp, 1) := by decide +kernel
theorem dX2_passRow_15 : decode cX2_passRow 15 = .ok (.ifCond .ne 11, 3) := by decide +kernel
theorem dX2_passRow_18 : decode cX2_passRow 18 = .ok (.aload_n 0, 1) := by decide +kernel
theorem dX2_passRow_19 : decode cX2_passRow 19 = .ok (.iconst 1, 1) := by decide +kernel
theorem dX2_passRow_20 : decode cX2_passRow 20 = .ok (.invokevirtual 78, 3) := by decide +kernel
theorem dX2_passRow_23 : decode cX2_passRow 23 = .ok (.goto 21, 3) := by decide +kernel
theorem dX2_passRow_26 : decode cX2_passRow 26 = .ok (.iload 4, 2) := by decide +kernel
theorem dX2_passRow_28 : decode cX2_passRow 28 = .ok (.iconst (-1), 1) := by decide +kernel
theorem dX2_passRow_29 : decode cX2_passRow 29 = .ok (.if_icmp .ne 11, 3) := by decide +kernel
theorem dX2_passRow_32 : decode cX2_passRow 32 = .ok (.aload_n 0, 1) := by decide +kernel
theorem dX2_passRow_33 : decode cX2_passRow 33 = .ok (.iconst 3, 1) := by decide +kernel
theorem dX2_passRow_34 : decode cX2_passRow 34 = .ok (.invokevirtual 78, 3) := by decide +kernel
theorem dX2_passRow_37 : decode cX2_passRow 37 = .ok (.goto 7, 3) := by decide +kernel
theorem dX2_passRow_40 : decode cX2_passRow 40 = .ok (.aload_n 0, 1) := by decide +kernel
theorem dX2_passRow_41 : decode cX2_passRow 41 = .ok (.invokevirtual 67, 3) := by decide +kernel
theorem dX2_passRow_44 : decode cX2_passRow 44 = .ok (.iload 4, 2) := by decide +kernel
theorem dX2_passRow_46 : decode cX2_passRow 46 = .ok (.ireturn, 1) := by decide +kernel
theorem dX2_passNumberOf_0 : decode cX2_passNumberOf 0 = .ok (.iload_n 0, 1) := by decide +kernel
theorem dX2_passNumberOf_1 : decode cX2_passNumberOf 1 = .ok (.tableswitch 78 1 10 #[55, 78, 78, 55, 72, 78, 78, 78, 55, 64], 55) := by decide +kernel
theorem dX2_passNumberOf_56 : decode cX2_passNumberOf 56 = .ok (.aload_n 1, 1) := by decide +kernel
theorem dX2_passNumberOf_57 : decode cX2_passNumberOf 57 = .ok (.iconst 0, 1) := by decide +kernel
theorem dX2_passNumberOf_58 : decode cX2_passNumberOf 58 = .ok (.sipush 999, 3) := by decide +kernel
theorem dX2_passNumberOf_61 : decode cX2_passNumberOf 61 = .ok (.invokevirtual 132, 3) := by decide +kernel
theorem dX2_passNumberOf_64 : decode cX2_passNumberOf 64 = .ok (.ireturn, 1) := by decide +kernel
theorem dX2_passNumberOf_65 : decode cX2_passNumberOf 65 = .ok (.aload_n 1, 1) := by decide +kernel
theorem dX2_passNumberOf_66 : decode cX2_passNumberOf 66 = .ok (.iconst 1, 1) := by decide +kernel
theorem dX2_passNumberOf_67 : decode cX2_passNumberOf 67 = .ok (.bipush 20, 2) := by decide +kernel
theorem dX2_passNumberOf_69 : decode cX2_passNumberOf 69 = .ok (.invokevirtual 132, 3) := by decide +kernel
theorem dX2_passNumberOf_72 : decode cX2_passNumberOf 72 = .ok (.ireturn, 1) := by decide +kernel
theorem dX2_passNumberOf_73 : decode cX2_passNumberOf 73 = .ok (.aload_n 1, 1) := by decide +kernel
theorem dX2_passNumberOf_74 : decode cX2_passNumberOf 74 = .ok (.aload_n 2, 1) := by decide +kernel
theorem dX2_passNumberOf_75 : decode cX2_passNumberOf 75 = .ok (.invokestatic 135, 3) := by decide +kernel
theorem dX2_passNumberOf_78 : decode cX2_passNumberOf 78 = .ok (.ireturn, 1) := by decide +kernel
theorem dX2_passNumberOf_79 : decode cX2_passNumberOf 79 = .ok (.iconst (-1), 1) := by decide +kernel
theorem dX2_passNumberOf_80 : decode cX2_passNumberOf 80 = .ok (.ireturn, 1) := by decide +kernel
theorem dX2_passWord_0 : decode cX2_passWord 0 = .ok (.aload_n 0, 1) := by decide +kernel
theorem dX2_passWord_1 : decode cX2_passWord 1 = .ok (.aload_n 1, 1) := by decide +kernel
theorem dX2_passWord_2 : decode cX2_passWord 2 = .ok (.getfield 138, 3) := by decide +kernel
theorem dX2_passWord_5 : decode cX2_passWord 5 = .ok (.invokevirtual 141, 3) := by decide +kernel
theorem dX2_passWord_8 : decode cX2_passWord 8 = .ok (.lstore_n 2, 1) := by decide +kernel
theorem dX2_passWord_9 : decode cX2_passWord 9 = .ok (.aload_n 0, 1) := by decide +kernel
theorem dX2_passWord_10 : decode cX2_passWord 10 = .ok (.getfield 64, 3) := by decide +kernel
theorem dX2_passWord_13 : decode cX2_passWord 13 = .ok (.iconst 1, 1) := by decide +kernel
theorem dX2_passWord_14 : decode cX2_passWord 14 = .ok (.if_icmp .eq 11, 3) := by decide +kernel
theorem dX2_passWord_17 : decode cX2_passWord 17 = .ok (.aload_n 0, 1) := by decide +kernel
theorem dX2_passWord_18 : decode cX2_passWord 18 = .ok (.iconst 1, 1) := by decide +kernel
theorem dX2_passWord_19 : decode cX2_passWord 19 = .ok (.invokevirtual 78, 3) := by decide +kernel
theorem dX2_passWord_22 : decode cX2_passWord 22 = .ok (.goto 34, 3) := by decide +kernel
theorem dX2_passWord_25 : decode cX2_passWord 25 = .ok (.aload_n 0, 1) := by decide +kernel
theorem dX2_passWord_26 : decode cX2_passWord 26 = .ok (.invokevirtual 145, 3) := by decide +kernel
theorem dX2_passWord_29 : decode cX2_passWord 29 = .ok (.aload_n 1, 1) := by decide +kernel
theorem dX2_passWord_30 : decode cX2_passWord 30 = .ok (.getfield 149, 3) := by decide +kernel
theorem dX2_passWord_33 : decode cX2_passWord 33 = .ok (.if_icmp .ne 11, 3) := by decide +kernel
theorem dX2_passWord_36 : decode cX2_passWord 36 = .ok (.lload_n 2, 1) := by decide +kernel
theorem dX2_passWord_37 : decode cX2_passWord 37 = .ok (.ldc2_w 152, 3) := by decide +kernel
theorem dX2_passWord_40 : decode cX2_passWord 40 = .ok (.lcmp, 1) := by decide +kernel
theorem dX2_passWord_41 : decode cX2_passWord 41 = .ok (.ifCond .ne 11, 3) := by decide +kernel
theorem dX2_passWord_44 : decode cX2_passWord 44 = .ok (.aload_n 0, 1) := by decide +kernel
theorem dX2_passWord_45 : decode cX2_passWord 45 = .ok (.iconst 3, 1) := by decide +kernel
theorem dX2_passWord_46 : decode cX2_passWord 46 = .ok (.invokevirtual 78, 3) := by decide +kernel
theorem dX2_passWord_49 : decode cX2_passWord 49 = .ok (.goto 7, 3) := by decide +kernel
theorem dX2_passWord_52 : decode cX2_passWord 52 = .ok (.aload_n 0, 1) := by decide +kernel
theorem dX2_passWord_53 : decode cX2_passWord 53 = .ok (.invokevirtual 67, 3) := by decide +kernel
theorem dX2_passWord_56 : decode cX2_passWord 56 = .ok (.aload_n 1, 1) := by decide +kernel
theorem dX2_passWord_57 : decode cX2_passWord 57 = .ok (.lload_n 2, 1) := by decide +kernel
theorem dX2_passWord_58 : decode cX2_passWord 58 = .ok (.l2i, 1) := by decide +kernel
theorem dX2_passWord_59 : decode cX2_passWord 59 = .ok (.invokevirtual 154, 3) := by decide +kernel
theorem dX2_passWord_62 : decode cX2_passWord 62 = .ok (.ireturn, 1) := by decide +kernel
theorem dX3_init_0 : decode cX3_init 0 = .ok (.aload_n 0, 1) := by decide +kernel
theorem dX3_init_1 : decode cX3_init 1 = .ok (.invokespecial 3, 3) := by decide +kernel
theorem dX3_init_4 : decode cX3_init 4 = .ok (.aload_n 0, 1) := by decide +kernel
theorem dX3_init_5 : decode cX3_init 5 = .ok (.iconst 0, 1) := by decide +kernel
theorem dX3_init_6 : decode cX3_init 6 = .ok (.newarray .int, 2) := by decide +kernel
theorem dX3_init_8 : decode cX3_init 8 = .ok (.putfield 9, 3) := by decide +kernel
theorem dX3_init_11 : decode cX3_init 11 = .ok (.aload_n 0, 1) := by decide +kernel
theorem dX3_init_12 : decode cX3_init 12 = .ok (.iconst 0, 1) := by decide +kernel
theorem dX3_init_13 : decode cX3_init 13 = .ok (.newarray .int, 2) := by decide +kernel
theorem dX3_init_15 : decode cX3_init 15 = .ok (.putfield 15, 3) := by decide +kernel
theorem dX3_init_18 : decode cX3_init 18 = .ok (.aload_n 0, 1) := by decide +kernel
theorem dX3_init_19 : decode cX3_init 19 = .ok (.iconst 0, 1) := by decide +kernel
theorem dX3_init_20 : decode cX3_init 20 = .ok (.newarray .int, 2) := by decide +kernel
theorem dX3_init_22 : decode cX3_init 22 = .ok (.putfield 18, 3) := by decide +kernel
theorem dX3_init_25 : decode cX3_init 25 = .ok (.aload_n 0, 1) := by decide +kernel
theorem dX3_init_26 : decode cX3_init 26 = .ok (.bipush 7, 2) := by decide +kernel
theorem dX3_init_28 : decode cX3_init 28 = .ok (.newarray .int, 2) := by decide +kernel
theorem dX3_init_30 : decode cX3_init 30 = .ok (.putfield 21, 3) := by decide +kernel
theorem dX3_init_33 : decode cX3_init 33 = .ok (.aload_n 0, 1) := by decide +kernel
theorem dX3_init_34 : decode cX3_init 34 = .ok (.bipush 61, 2) := by decide +kernel
theorem dX3_init_36 : decode cX3_init 36 = .ok (.newarray .int, 2) := by decide +kernel
theorem dX3_init_38 : decode cX3_init 38 = .ok (.putfield 24, 3) := by decide +kernel
theorem dX3_init_41 : decode cX3_init 41 = .ok (.return_, 1) := by decide +kernel
theorem dX3_forget_0 : decode cX3_forget 0 = .ok (.aload_n 0, 1) := by decide +kernel
theorem dX3_forget_1 : decode cX3_forget 1 = .ok (.iconst 0, 1) := by decide +kernel
theorem dX3_forget_2 : decode cX3_forget 2 = .ok (.putfield 27, 3) := by decide +kernel
theorem dX3_forget_5 : decode cX3_forget 5 = .ok (.return_, 1) := by decide +kernel
theorem dX3_go_0 : decode cX3_go 0 = .ok (.aload_n 0, 1) := by decide +kernel
theorem dX3_go_1 : decode cX3_go 1 = .ok (.getfield 27, 3) := by decide +kernel
theorem dX3_go_4 : decode cX3_go 4 = .ok (.ifCond .eq 4, 3) := by decide +kernel
theorem dX3_go_7 : decode cX3_go 7 = .ok (.return_, 1) := by decide +kernel
theorem dX3_go_8 : decode cX3_go 8 = .ok (.aload_n 0, 1) := by decide +kernel
theorem dX3_go_9 : decode cX3_go 9 = .ok (.aload_n 1, 1) := by decide +kernel
theorem dX3_go_10 : decode cX3_go 10 = .ok (.invokevirtual 31, 3) := by decide +kernel
theorem dX3_go_13 : decode cX3_go 13 = .ok (.iconst 0, 1) := by decide +kernel
theorem dX3_go_14 : decode cX3_go 14 = .ok (.istore_n 2, 1) := by decide +kernel
theorem dX3_go_15 : decode cX3_go 15 = .ok (.iload_n 2, 1) := by decide +kernel
theorem dX3_go_16 : decode cX3_go 16 = .ok (.aload_n 1, 1) := by decide +kernel
theorem dX3_go_17 : decode cX3_go 17 = .ok (.getfield 35, 3) := by decide +kernel
theorem dX3_go_20 : decode cX3_go 20 = .ok (.if_icmp .ge 31, 3) := by decide +kernel
theorem dX3_go_23 : decode cX3_go 23 = .ok (.aload_n 1, 1) := by decide +kernel
theorem dX3_go_24 : decode cX3_go 24 = .ok (.iload_n 2, 1) := by decide +kernel
theorem dX3_go_25 : decode cX3_go 25 = .ok (.invokevirtual 41, 3) := by decide +kernel
theorem dX3_go_28 : decode cX3_go 28 = .ok (.ifCond .ne 17, 3) := by decide +kernel
theorem dX3_go_31 : decode cX3_go 31 = .ok (.aload_n 0, 1) := by decide +kernel
theorem dX3_go_32 : decode cX3_go 32 = .ok (.aload_n 1, 1) := by decide +kernel
theorem dX3_go_33 : decode cX3_go 33 = .ok (.iload_n 2, 1) := by decide +kernel
theorem dX3_go_34 : decode cX3_go 34 = .ok (.invokevirtual 45, 3) := by decide +kernel
theorem dX3_go_37 : decode cX3_go 37 = .ok (.aload_n 0, 1) := by decide +kernel
theorem dX3_go_38 : decode cX3_go 38 = .ok (.aload_n 1, 1) := by decide +kernel
theorem dX3_go_39 : decode cX3_go 39 = .ok (.getfield 49, 3) := by decide +kernel
theorem dX3_go_42 : decode cX3_go 42 = .ok (.invokevirtual 52, 3) := by decide +kernel
theorem dX3_go_45 : decode cX3_go 45 = .ok (.iinc 2 1, 3) := by decide +kernel
theorem dX3_go_48 : decode cX3_go 48 = .ok (.goto (-33), 3) := by decide +kernel
theorem dX3_go_51 : decode cX3_go 51 = .ok (.aload_n 0, 1) := by decide +kernel
theorem dX3_go_52 : decode cX3_go 52 = .ok (.invokevirtual 56, 3) := by decide +kernel
theorem dX3_go_55 : decode cX3_go 55 = .ok (.aload_n 0, 1) := by decide +kernel
theorem dX3_go_56 : decode cX3_go 56 = .ok (.iconst (-1), 1) := by decide +kernel
theorem dX3_go_57 : decode cX3_go 57 = .ok (.putfield 59, 3) := by decide +kernel
theorem dX3_go_60 : decode cX3_go 60 = .ok (.aload_n 0, 1) := by decide +kernel
theorem dX3_go_61 : decode cX3_go 61 = .ok (.iconst 0, 1) := by decide +kernel
theorem dX3_go_62 : decode cX3_go 62 = .ok (.putfield 62, 3) := by decide +kernel
theorem dX3_go_65 : decode cX3_go 65 = .ok (.aload_n 0, 1) := by decide +kernel
theorem dX3_go_66 : decode cX3_go 66 = .ok (.iconst 0, 1) := by decide +kernel
theorem dX3_go_67 : decode cX3_go 67 = .ok (.putfield 65, 3) := by decide +kernel
theorem dX3_go_70 : decode cX3_go 70 = .ok (.aload_n 0, 1) := by decide +kernel
theorem dX3_go_71 : decode cX3_go 71 = .ok (.iconst 0, 1) := by decide +kernel
theorem dX3_go_72 : decode cX3_go 72 = .ok (.putfield 68, 3) := by decide +kernel
theorem dX3_go_75 : decode cX3_go 75 = .ok (.iconst 0, 1) := by decide +kernel
theorem dX3_go_76 : decode cX3_go 76 = .ok (.istore_n 2, 1) := by decide +kernel
theorem dX3_go_77 : decode cX3_go 77 = .ok (.iload_n 2, 1) := by decide +kernel
theorem dX3_go_78 : decode cX3_go 78 = .ok (.aload_n 0, 1) := by decide +kernel
theorem dX3_go_79 : decode cX3_go 79 = .ok (.getfield 71, 3) := by decide +kernel
theorem dX3_go_82 : decode cX3_go 82 = .ok (.if_icmp .ge 15, 3) := by decide +kernel
theorem dX3_go_85 : decode cX3_go 85 = .ok (.aload_n 0, 1) := by decide +kernel
theorem dX3_go_86 : decode cX3_go 86 = .ok (.iconst 1, 1) := by decide +kernel
theorem dX3_go_87 : decode cX3_go 87 = .ok (.iload_n 2, 1) := by decide +kernel
theorem dX3_go_88 : decode cX3_go 88 = .ok (.invokevirtual 74, 3) := by decide +kernel
theorem dX3_go_91 : decode cX3_go 91 = .ok (.iinc 2 1, 3) := by decide +kernel
theorem dX3_go_94 : decode cX3_go 94 = .ok (.goto (-17), 3) := by decide +kernel
theorem dX3_go_97 : decode cX3_go 97 = .ok (.aload_n 0, 1) := by decide +kernel
theorem dX3_go_98 : decode cX3_go 98 = .ok (.iconst 1, 1) := by decide +kernel
theorem dX3_go_99 : decode cX3_go 99 = .ok (.putfield 27, 3) := by decide +kernel
theorem dX3_go_102 : decode cX3_go 102 = .ok (.return_, 1) := by decide +kernel
theorem dX3_makeRoom_0 : decode cX3_makeRoom 0 = .ok (.aload_n 0, 1) := by decide +kernel
theorem dX3_makeRoom_1 : decode cX3_makeRoom 1 = .ok (.aload_n 1, 1) := by decide +kernel
theorem dX3_makeRoom_2 : decode cX3_makeRoom 2 = .ok (.getfield 78, 3) := by decide +kernel
theorem dX3_makeRoom_5 : decode cX3_makeRoom 5 = .ok (.putfield 71, 3) := by decide +kernel
theorem dX3_makeRoom_8 : decode cX3_makeRoom 8 = .ok (.aload_n 0, 1) := by decide +kernel
theorem dX3_makeRoom_9 : decode cX3_makeRoom 9 = .ok (.aload_n 1, 1) := by decide +kernel
theorem dX3_makeRoom_10 : decode cX3_makeRoom 10 = .ok (.getfield 79, 3) := by decide +kernel
theorem dX3_makeRoom_13 : decode cX3_makeRoom 13 = .ok (.putfield 82, 3) := by decide +kernel
theorem dX3_makeRoom_16 : decode cX3_makeRoom 16 = .ok (.iconst 0, 1) := by decide +kernel
theorem dX3_makeRoom_17 : decode cX3_makeRoom 17 = .ok (.istore_n 2, 1) := by decide +kernel
theorem dX3_makeRoom_18 : decode cX3_makeRoom 18 = .ok (.aload_n 0, 1) := by decide +kernel
theorem dX3_makeRoom_19 : decode cX3_makeRoom 19 = .ok (.iconst 1, 1) := by decide +kernel
theorem dX3_makeRoom_20 : decode cX3_makeRoom 20 = .ok (.putfield 83, 3) := by decide +kernel
theorem dX3_makeRoom_23 : decode cX3_makeRoom 23 = .ok (.iconst 1, 1) := by decide +kernel
theorem dX3_makeRoom_24 : decode cX3_makeRoom 24 = .ok (.istore_n 3, 1) := by decide +kernel
theorem dX3_makeRoom_25 : decode cX3_makeRoom 25 = .ok (.iload_n 3, 1) := by decide +kernel
theorem dX3_makeRoom_26 : decode cX3_makeRoom 26 = .ok (.aload_n 0, 1) := by decide +kernel
theorem dX3_makeRoom_27 : decode cX3_makeRoom 27 = .ok (.getfield 82, 3) := by decide +kernel
theorem dX3_makeRoom_30 : decode cX3_makeRoom 30 = .ok (.if_icmp .gt 36, 3) := by decide +kernel
theorem dX3_makeRoom_33 : decode cX3_makeRoom 33 = .ok (.aload_n 0, 1) := by decide +kernel
theorem dX3_makeRoom_34 : decode cX3_makeRoom 34 = .ok (.getfield 21, 3) := by decide +kernel
theorem dX3_makeRoom_37 : decode cX3_makeRoom 37 = .ok (.iload_n 3, 1) := by decide +kernel
theorem dX3_makeRoom_38 : decode cX3_makeRoom 38 = .ok (.iload_n 2, 1) := by decide +kernel
theorem dX3_makeRoom_39 : decode cX3_makeRoom 39 = .ok (.iastore, 1) := by decide +kernel
theorem dX3_makeRoom_40 : decode cX3_makeRoom 40 = .ok (.aload_n 0, 1) := by decide +kernel
theorem dX3_makeRoom_41 : decode cX3_makeRoom 41 = .ok (.dup, 1) := by decide +kernel
theorem dX3_makeRoom_42 : decode cX3_makeRoom 42 = .ok (.getfield 83, 3) := by decide +kernel
theorem dX3_makeRoom_45 : decode cX3_makeRoom 45 = .ok (.aload_n 0, 1) := by decide +kernel
theorem dX3_makeRoom_46 : decode cX3_makeRoom 46 = .ok (.getfield 71, 3) := by decide +kernel
theorem dX3_makeRoom_49 : decode cX3_makeRoom 49 = .ok (.imul, 1) := by decide +kernel
theorem dX3_makeRoom_50 : decode cX3_makeRoom 50 = .ok (.putfield 83, 3) := by decide +kernel
theorem dX3_makeRoom_53 : decode cX3_makeRoom 53 = .ok (.iload_n 2, 1) := by decide +kernel
theorem dX3_makeRoom_54 : decode cX3_makeRoom 54 = .ok (.aload_n 0, 1) := by decide +kernel
theorem dX3_makeRoom_55 : decode cX3_makeRoom 55 = .ok (.getfield 83, 3) := by decide +kernel
theorem dX3_makeRoom_58 : decode cX3_makeRoom 58 = .ok (.iadd, 1) := by decide +kernel
theorem dX3_makeRoom_59 : decode cX3_makeRoom 59 = .ok (.istore_n 2, 1) := by decide +kernel
theorem dX3_makeRoom_60 : decode cX3_makeRoom 60 = .ok (.iinc 3 1, 3) := by decide +kernel
theorem dX3_makeRoom_63 : decode cX3_makeRoom 63 = .ok (.goto (-38), 3) := by decide +kernel
theorem dX3_makeRoom_66 : decode cX3_makeRoom 66 = .ok (.aload_n 0, 1) := by decide +kernel
theorem dX3_makeRoom_67 : decode cX3_makeRoom 67 = .ok (.getfield 9, 3) := by decide +kernel
theorem dX3_makeRoom_70 : decode cX3_makeRoom 70 = .ok (.arraylength, 1) := by decide +kernel
theorem dX3_makeRoom_71 : decode cX3_makeRoom 71 = .ok (.aload_n 0, 1) := by decide +kernel
theorem dX3_makeRoom_72 : decode cX3_makeRoom 72 = .ok (.getfield 83, 3) := by decide +kernel
theorem dX3_makeRoom_75 : decode cX3_makeRoom 75 = .ok (.if_icmp .ge 23, 3) := by decide +kernel
theorem dX3_makeRoom_78 : decode cX3_makeRoom 78 = .ok (.aload_n 0, 1) := by decide +kernel
theorem dX3_makeRoom_79 : decode cX3_makeRoom 79 = .ok (.aload_n 0, 1) := by decide +kernel
theorem dX3_makeRoom_80 : decode cX3_makeRoom 80 = .ok (.getfield 83, 3) := by decide +kernel
theorem dX3_makeRoom_83 : decode cX3_makeRoom 83 = .ok (.newarray .int, 2) := by decide +kernel
theorem dX3_makeRoom_85 : decode cX3_makeRoom 85 = .ok (.putfield 9, 3) := by decide +kernel
theorem dX3_makeRoom_88 : decode cX3_makeRoom 88 = .ok (.aload_n 0, 1) := by decide +kernel
theorem dX3_makeRoom_89 : decode cX3_makeRoom 89 = .ok (.aload_n 0, 1) := by decide +kernel
theorem dX3_makeRoom_90 : decode cX3_makeRoom 90 = .ok (.getfield 83, 3) := by decide +kernel
theorem dX3_makeRoom_93 : decode cX3_makeRoom 93 = .ok (.newarray .int, 2) := by decide +kernel
theorem dX3_makeRoom_95 : decode cX3_makeRoom 95 = .ok (.putfield 18, 3) := by decide +kernel
theorem dX3_makeRoom_98 : decode cX3_makeRoom 98 = .ok (.aload_n 0, 1) := by decide +kernel
theorem dX3_makeRoom_99 : decode cX3_makeRoom 99 = .ok (.getfield 15, 3) := by decide +kernel
theorem dX3_makeRoom_102 : decode cX3_makeRoom 102 = .ok (.arraylength, 1) := by decide +kernel
theorem dX3_makeRoom_103 : decode cX3_makeRoom 103 = .ok (.iload_n 2, 1) := by decide +kernel
theorem dX3_makeRoom_104 : decode cX3_makeRoom 104 = .ok (.if_icmp .ge 10, 3) := by decide +kernel
theorem dX3_makeRoom_107 : decode cX3_makeRoom 107 = .ok (.aload_n 0, 1) := by decide +kernel
theorem dX3_makeRoom_108 : decode cX3_makeRoom 108 = .ok (.iload_n 2, 1) := by decide +kernel
theorem dX3_makeRoom_109 : decode cX3_makeRoom 109 = .ok (.newarray .int, 2) := by decide +kernel
theorem dX3_makeRoom_111 : decode cX3_makeRoom 111 = .ok (.putfield 15, 3) := by decide +kernel
theorem dX3_makeRoom_114 : decode cX3_makeRoom 114 = .ok (.iconst 0, 1) := by decide +kernel
theorem dX3_makeRoom_115 : decode cX3_makeRoom 115 = .ok (.istore_n 3, 1) := by decide +kernel
theorem dX3_makeRoom_116 : decode cX3_makeRoom 116 = .ok (.iload_n 3, 1) := by decide +kernel
theorem dX3_makeRoom_117 : decode cX3_makeRoom 117 = .ok (.iload_n 2, 1) := by decide +kernel
theorem dX3_makeRoom_118 : decode cX3_makeRoom 118 = .ok (.if_icmp .ge 16, 3) := by decide +kernel
theorem dX3_makeRoom_121 : decode cX3_makeRoom 121 = .ok (.aload_n 0, 1) := by decide +kernel
theorem dX3_makeRoom_122 : decode cX3_makeRoom 122 = .ok (.getfield 15, 3) := by decide +kernel
theorem dX3_makeRoom_125 : decode cX3_makeRoom 125 = .ok (.iload_n 3, 1) := by decide +kernel
theorem dX3_makeRoom_126 : decode cX3_makeRoom 126 = .ok (.iconst 0, 1) := by decide +kernel
theorem dX3_makeRoom_127 : decode cX3_makeRoom 127 = .ok (.iastore, 1) := by decide +kernel
theorem dX3_makeRoom_128 : decode cX3_makeRoom 128 = .ok (.iinc 3 1, 3) := by decide +kernel
theorem dX3_makeRoom_131 : decode cX3_makeRoom 131 = .ok (.goto (-15), 3) := by decide +kernel
theorem dX3_makeRoom_134 : decode cX3_makeRoom 134 = .ok (.iconst 0, 1) := by decide +kernel
theorem dX3_makeRoom_135 : decode cX3_makeRoom 135 = .ok (.istore_n 3, 1) := by decide +kernel
theorem dX3_makeRoom_136 : decode cX3_makeRoom 136 = .ok (.iload_n 3, 1) := by decide +kernel
theorem dX3_makeRoom_137 : decode cX3_makeRoom 137 = .ok (.aload_n 0, 1) := by decide +kernel
theorem dX3_makeRoom_138 : decode cX3_makeRoom 138 = .ok (.getfield 83, 3) := by decide +kernel
theorem dX3_makeRoom_141 : decode cX3_makeRoom 141 = .ok (.if_icmp .ge 16, 3) := by decide +kernel
theorem dX3_makeRoom_144 : decode cX3_makeRoom 144 = .ok (.aload_n 0, 1) := by decide +kernel
theorem dX3_makeRoom_145 : decode cX3_makeRoom 145 = .ok (.getfield 18, 3) := by decide +kernel
theorem dX3_makeRoom_148 : decode cX3_makeRoom 148 = .ok (.iload_n 3, 1) := by decide +kernel
theorem dX3_makeRoom_149 : decode cX3_makeRoom 149 = .ok (.iconst 0, 1) := by decide +kernel
theorem dX3_makeRoom_150 : decode cX3_makeRoom 150 = .ok (.iastore, 1) := by decide +kernel
theorem dX3_makeRoom_151 : decode cX3_makeRoom 151 = .ok (.iinc 3 1, 3) := by decide +kernel
theorem dX3_makeRoom_154 : decode cX3_makeRoom 154 = .ok (.goto (-18), 3) := by decide +kernel
theorem dX3_makeRoom_157 : decode cX3_makeRoom 157 = .ok (.return_, 1) := by decide +kernel
theorem dX3_addBounds_0 : decode cX3_addBounds 0 = .ok (.iconst 0, 1) := by decide +kernel
theorem dX3_addBounds_1 : decode cX3_addBounds 1 = .ok (.istore_n 2, 1) := by decide +kernel
theorem dX3_addBounds_2 : decode cX3_addBounds 2 = .ok (.iload_n 2, 1) := by decide +kernel
theorem dX3_addBounds_3 : decode cX3_addBounds 3 = .ok (.aload_n 0, 1) := by decide +kernel
theorem dX3_addBounds_4 : decode cX3_addBounds 4 = .ok (.getfield 83, 3) := by decide +kernel
theorem dX3_addBounds_7 : decode cX3_addBounds 7 = .ok (.if_icmp .ge 54, 3) := by decide +kernel
theorem dX3_addBounds_10 : decode cX3_addBounds 10 = .ok (.aload_n 0, 1) := by decide +kernel
theorem dX3_addBounds_11 : decode cX3_addBounds 11 = .ok (.getfield 15, 3) := by decide +kernel
theorem dX3_addBounds_14 : decode cX3_addBounds 14 = .ok (.aload_n 0, 1) := by decide +kernel
theorem dX3_addBounds_15 : decode cX3_addBounds 15 = .ok (.getfield 21, 3) := by decide +kernel
theorem dX3_addBounds_18 : decode cX3_addBounds 18 = .ok (.aload_n 0, 1) := by decide +kernel
theorem dX3_addBounds_19 : decode cX3_addBounds 19 = .ok (.getfield 82, 3) := by decide +kernel
theorem dX3_addBounds_22 : decode cX3_addBounds 22 = .ok (.iaload, 1) := by decide +kernel
theorem dX3_addBounds_23 : decode cX3_addBounds 23 = .ok (.iload_n 2, 1) := by decide +kernel
theorem dX3_addBounds_24 : decode cX3_addBounds 24 = .ok (.iadd, 1) := by decide +kernel
theorem dX3_addBounds_25 : decode cX3_addBounds 25 = .ok (.dup2, 1) := by decide +kernel
theorem dX3_addBounds_26 : decode cX3_addBounds 26 = .ok (.iaload, 1) := by decide +kernel
theorem dX3_addBounds_27 : decode cX3_addBounds 27 = .ok (.aload_n 0, 1) := by decide +kernel
theorem dX3_addBounds_28 : decode cX3_addBounds 28 = .ok (.getfield 9, 3) := by decide +kernel
theorem dX3_addBounds_31 : decode cX3_addBounds 31 = .ok (.iload_n 2, 1) := by decide +kernel
theorem dX3_addBounds_32 : decode cX3_addBounds 32 = .ok (.iaload, 1) := by decide +kernel
theorem dX3_addBounds_33 : decode cX3_addBounds 33 = .ok (.iadd, 1) := by decide +kernel
theorem dX3_addBounds_34 : decode cX3_addBounds 34 = .ok (.iastore, 1) := by decide +kernel
theorem dX3_addBounds_35 : decode cX3_addBounds 35 = .ok (.aload_n 0, 1) := by decide +kernel
theorem dX3_addBounds_36 : decode cX3_addBounds 36 = .ok (.getfield 9, 3) := by decide +kernel
theorem dX3_addBounds_39 : decode cX3_addBounds 39 = .ok (.iload_n 2, 1) := by decide +kernel
theorem dX3_addBounds_40 : decode cX3_addBounds 40 = .ok (.iaload, 1) := by decide +kernel
theorem dX3_addBounds_41 : decode cX3_addBounds 41 = .ok (.iload_n 1, 1) := by decide +kernel
theorem dX3_addBounds_42 : decode cX3_addBounds 42 = .ok (.if_icmp .gt 13, 3) := by decide +kernel
theorem dX3_addBounds_45 : decode cX3_addBounds 45 = .ok (.aload_n 0, 1) := by decide +kernel
theorem dX3_addBounds_46 : decode cX3_addBounds 46 = .ok (.getfield 18, 3) := by decide +kernel
theorem dX3_addBounds_49 : decode cX3_addBounds 49 = .ok (.iload_n 2, 1) := by decide +kernel
theorem dX3_addBounds_50 : decode cX3_addBounds 50 = .ok (.dup2, 1) := by decide +kernel
theorem dX3_addBounds_51 : decode cX3_addBounds 51 = .ok (.iaload, 1) := by decide +kernel
theorem dX3_addBounds_52 : decode cX3_addBounds 52 = .ok (.iconst 1, 1) := by decide +kernel
theorem dX3_addBounds_53 : decode cX3_addBounds 53 = .ok (.iadd, 1) := by decide +kernel
theorem dX3_addBounds_54 : decode cX3_addBounds 54 = .ok (.iastore, 1) := by decide +kernel
theorem dX3_addBounds_55 : decode cX3_addBounds 55 = .ok (.iinc 2 1, 3) := by decide +kernel
theorem dX3_addBounds_58 : decode cX3_addBounds 58 = .ok (.goto (-56), 3) := by decide +kernel
theorem dX3_addBounds_61 : decode cX3_addBounds 61 = .ok (.aload_n 0, 1) := by decide +kernel
theorem dX3_addBounds_62 : decode cX3_addBounds 62 = .ok (.getfield 83, 3) := by decide +kernel
theorem dX3_addBounds_65 : decode cX3_addBounds 65 = .ok (.istore_n 2, 1) := by decide +kernel
theorem dX3_addBounds_66 : decode cX3_addBounds 66 = .ok (.aload_n 0, 1) := by decide +kernel
theorem dX3_addBounds_67 : decode cX3_addBounds 67 = .ok (.getfield 82, 3) := by decide +kernel
theorem dX3_addBounds_70 : decode cX3_addBounds 70 = .ok (.iconst 1, 1) := by decide +kernel
theorem dX3_addBounds_71 : decode cX3_addBounds 71 = .ok (.isub, 1) := by decide +kernel
theorem dX3_addBounds_72 : decode cX3_addBounds 72 = .ok (.istore_n 3, 1) := by decide +kernel
theorem dX3_addBounds_73 : decode cX3_addBounds 73 = .ok (.iload_n 3, 1) := by decide +kernel
theorem dX3_addBounds_74 : decode cX3_addBounds 74 = .ok (.iconst 1, 1) := by decide +kernel
theorem dX3_addBounds_75 : decode cX3_addBounds 75 = .ok (.if_icmp .lt 82, 3) := by decide +kernel
theorem dX3_addBounds_78 : decode cX3_addBounds 78 = .ok (.iload_n 2, 1) := by decide +kernel
theorem dX3_addBounds_79 : decode cX3_addBounds 79 = .ok (.iconst 2, 1) := by decide +kernel
theorem dX3_addBounds_80 : decode cX3_addBounds 80 = .ok (.aload_n 0, 1) := by decide +kernel
theorem dX3_addBounds_81 : decode cX3_addBounds 81 = .ok (.getfield 71, 3) := by decide +kernel
theorem dX3_addBounds_84 : decode cX3_addBounds 84 = .ok (.invokestatic 86, 3) := by decide +kernel
theorem dX3_addBounds_87 : decode cX3_addBounds 87 = .ok (.idiv, 1) := by decide +kernel
theorem dX3_addBounds_88 : decode cX3_addBounds 88 = .ok (.istore_n 2, 1) := by decide +kernel
theorem dX3_addBounds_89 : decode cX3_addBounds 89 = .ok (.iconst 0, 1) := by decide +kernel
theorem dX3_addBounds_90 : decode cX3_addBounds 90 = .ok (.istore 4, 2) := by decide +kernel
theorem dX3_addBounds_92 : decode cX3_addBounds 92 = .ok (.iload 4, 2) := by decide +kernel
theorem dX3_addBounds_94 : decode cX3_addBounds 94 = .ok (.iload_n 2, 1) := by decide +kernel
theorem dX3_addBounds_95 : decode cX3_addBounds 95 = .ok (.if_icmp .ge 56, 3) := by decide +kernel
theorem dX3_addBounds_98 : decode cX3_addBounds 98 = .ok (.aload_n 0, 1) := by decide +kernel
theorem dX3_addBounds_99 : decode cX3_addBounds 99 = .ok (.getfield 9, 3) := by decide +kernel
theorem dX3_addBounds_102 : decode cX3_addBounds 102 = .ok (.iload 4, 2) := by decide +kernel
theorem dX3_addBounds_104 : decode cX3_addBounds 104 = .ok (.iload_n 3, 1) := by decide +kernel
theorem dX3_addBounds_105 : decode cX3_addBounds 105 = .ok (.aload_n 0, 1) := by decide +kernel
theorem dX3_addBounds_106 : decode cX3_addBounds 106 = .ok (.iload 4, 2) := by decide +kernel
theorem dX3_addBounds_108 : decode cX3_addBounds 108 = .ok (.aload_n 0, 1) := by decide +kernel
theorem dX3_addBounds_109 : decode cX3_addBounds 109 = .ok (.getfield 71, 3) := by decide +kernel
theorem dX3_addBounds_112 : decode cX3_addBounds 112 = .ok (.imul, 1) := by decide +kernel
theorem dX3_addBounds_113 : decode cX3_addBounds 113 = .ok (.iconst 1, 1) := by decide +kernel
theorem dX3_addBounds_114 : decode cX3_addBounds 114 = .ok (.invokevirtual 92, 3) := by decide +kernel
theorem dX3_addBounds_117 : decode cX3_addBounds 117 = .ok (.invokestatic 95, 3) := by decide +kernel
theorem dX3_addBounds_120 : decode cX3_addBounds 120 = .ok (.iastore, 1) := by decide +kernel
theorem dX3_addBounds_121 : decode cX3_addBounds 121 = .ok (.aload_n 0, 1) := by decide +kernel
theorem dX3_addBounds_122 : decode cX3_addBounds 122 = .ok (.getfield 15, 3) := by decide +kernel
theorem dX3_addBounds_125 : decode cX3_addBounds 125 = .ok (.aload_n 0, 1) := by decide +kernel
theorem dX3_addBounds_126 : decode cX3_addBounds 126 = .ok (.getfield 21, 3) := by decide +kernel
theorem dX3_addBounds_129 : decode cX3_addBounds 129 = .ok (.iload_n 3, 1) := by decide +kernel
theorem dX3_addBounds_130 : decode cX3_addBounds 130 = .ok (.iaload, 1) := by decide +kernel
theorem dX3_addBounds_131 : decode cX3_addBounds 131 = .ok (.iload 4, 2) := by decide +kernel
theorem dX3_addBounds_133 : decode cX3_addBounds 133 = .ok (.iadd, 1) := by decide +kernel
theorem dX3_addBounds_134 : decode cX3_addBounds 134 = .ok (.dup2, 1) := by decide +kernel
theorem dX3_addBounds_135 : decode cX3_addBounds 135 = .ok (.iaload, 1) := by decide +kernel
theorem dX3_addBounds_136 : decode cX3_addBounds 136 = .ok (.aload_n 0, 1) := by decide +kernel
theorem dX3_addBounds_137 : decode cX3_addBounds 137 = .ok (.getfield 9, 3) := by decide +kernel
theorem dX3_addBounds_140 : decode cX3_addBounds 140 = .ok (.iload 4, 2) := by decide +kernel
theorem dX3_addBounds_142 : decode cX3_addBounds 142 = .ok (.iaload, 1) := by decide +kernel
theorem dX3_addBounds_143 : decode cX3_addBounds 143 = .ok (.iadd, 1) := by decide +kernel
theorem dX3_addBounds_144 : decode cX3_addBounds 144 = .ok (.iastore, 1) := by decide +kernel
theorem dX3_addBounds_145 : decode cX3_addBounds 145 = .ok (.iinc 4 1, 3) := by decide +kernel
theorem dX3_addBounds_148 : decode cX3_addBounds 148 = .ok (.goto (-56), 3) := by decide +kernel
theorem dX3_addBounds_151 : decode cX3_addBounds 151 = .ok (.iinc 3 (-1), 3) := by decide +kernel
theorem dX3_addBounds_154 : decode cX3_addBounds 154 = .ok (.goto (-81), 3) := by decide +kernel
theorem dX3_addBounds_157 : decode cX3_addBounds 157 = .ok (.return_, 1) := by decide +kernel
theorem dX3_fillNear_0 : decode cX3_fillNear 0 = .ok (.iconst 0, 1) := by decide +kernel
theorem dX3_fillNear_1 : decode cX3_fillNear 1 = .ok (.istore_n 3, 1) := by decide +kernel
theorem dX3_fillNear_2 : decode cX3_fillNear 2 = .ok (.iload_n 3, 1) := by decide +kernel
theorem dX3_fillNear_3 : decode cX3_fillNear 3 = .ok (.aload_n 0, 1) := by decide +kernel
theorem dX3_fillNear_4 : decode cX3_fillNear 4 = .ok (.getfield 83, 3) := by decide +kernel
theorem dX3_fillNear_7 : decode cX3_fillNear 7 = .ok (.if_icmp .ge 19, 3) := by decide +kernel
theorem dX3_fillNear_10 : decode cX3_fillNear 10 = .ok (.aload_n 0, 1) := by decide +kernel
theorem dX3_fillNear_11 : decode cX3_fillNear 11 = .ok (.getfield 9, 3) := by decide +kernel
theorem dX3_fillNear_14 : decode cX3_fillNear 14 = .ok (.iload_n 3, 1) := by decide +kernel
theorem dX3_fillNear_15 : decode cX3_fillNear 15 = .ok (.aload_n 0, 1) := by decide +kernel
theorem dX3_fillNear_16 : decode cX3_fillNear 16 = .ok (.getfield 82, 3) := by decide +kernel
theorem dX3_fillNear_19 : decode cX3_fillNear 19 = .ok (.iastore, 1) := by decide +kernel
theorem dX3_fillNear_20 : decode cX3_fillNear 20 = .ok (.iinc 3 1, 3) := by decide +kernel
theorem dX3_fillNear_23 : decode cX3_fillNear 23 = .ok (.goto (-21), 3) := by decide +kernel
theorem dX3_fillNear_26 : decode cX3_fillNear 26 = .ok (.iconst 0, 1) := by decide +kernel
theorem dX3_fillNear_27 : decode cX3_fillNear 27 = .ok (.istore_n 3, 1) := by decide +kernel
theorem dX3_fillNear_28 : decode cX3_fillNear 28 = .ok (.iload_n 3, 1) := by decide +kernel
theorem dX3_fillNear_29 : decode cX3_fillNear 29 = .ok (.aload_n 1, 1) := by decide +kernel
theorem dX3_fillNear_30 : decode cX3_fillNear 30 = .ok (.iload_n 2, 1) := by decide +kernel
theorem dX3_fillNear_31 : decode cX3_fillNear 31 = .ok (.invokevirtual 98, 3) := by decide +kernel
theorem dX3_fillNear_34 : decode cX3_fillNear 34 = .ok (.if_icmp .gt 34, 3) := by decide +kernel
theorem dX3_fillNear_37 : decode cX3_fillNear 37 = .ok (.aload_n 1, 1) := by decide +kernel
theorem dX3_fillNear_38 : decode cX3_fillNear 38 = .ok (.iload_n 2, 1) := by decide +kernel
theorem dX3_fillNear_39 : decode cX3_fillNear 39 = .ok (.iload_n 3, 1) := by decide +kernel
theorem dX3_fillNear_40 : decode cX3_fillNear 40 = .ok (.invokevirtual 102, 3) := by decide +kernel
theorem dX3_fillNear_43 : decode cX3_fillNear 43 = .ok (.ifCond .eq 19, 3) := by decide +kernel
theorem dX3_fillNear_46 : decode cX3_fillNear 46 = .ok (.aload_n 0, 1) := by decide +kernel
theorem dX3_fillNear_47 : decode cX3_fillNear 47 = .ok (.getfield 9, 3) := by decide +kernel
theorem dX3_fillNear_50 : decode cX3_fillNear 50 = .ok (.aload_n 1, 1) := by decide +kernel
theorem dX3_fillNear_51 : decode cX3_fillNear 51 = .ok (.aload_n 1, 1) := by decide +kernel
theorem dX3_fillNear_52 : decode cX3_fillNear 52 = .ok (.iload_n 2, 1) := by decide +kernel
theorem dX3_fillNear_53 : decode cX3_fillNear 53 = .ok (.iload_n 3, 1) := by decide +kernel
theorem dX3_fillNear_54 : decode cX3_fillNear 54 = .ok (.invokevirtual 106, 3) := by decide +kernel
theorem dX3_fillNear_57 : decode cX3_fillNear 57 = .ok (.invokevirtual 109, 3) := by decide +kernel
theorem dX3_fillNear_60 : decode cX3_fillNear 60 = .ok (.iconst 0, 1) := by decide +kernel
theorem dX3_fillNear_61 : decode cX3_fillNear 61 = .ok (.iastore, 1) := by decide +kernel
theorem dX3_fillNear_62 : decode cX3_fillNear 62 = .ok (.iinc 3 1, 3) := by decide +kernel
theorem dX3_fillNear_65 : decode cX3_fillNear 65 = .ok (.goto (-37), 3) := by decide +kernel
theorem dX3_fillNear_68 : decode cX3_fillNear 68 = .ok (.iconst 1, 1) := by decide +kernel
theorem dX3_fillNear_69 : decode cX3_fillNear 69 = .ok (.istore_n 3, 1) := by decide +kernel
theorem dX3_fillNear_70 : decode cX3_fillNear 70 = .ok (.iconst 0, 1) := by decide +kernel
theorem dX3_fillNear_71 : decode cX3_fillNear 71 = .ok (.istore 4, 2) := by decide +kernel
theorem dX3_fillNear_73 : decode cX3_fillNear 73 = .ok (.iload 4, 2) := by decide +kernel
theorem dX3_fillNear_75 : decode cX3_fillNear 75 = .ok (.aload_n 0, 1) := by decide +kernel
theorem dX3_fillNear_76 : decode cX3_fillNear 76 = .ok (.getfield 82, 3) := by decide +kernel
theorem dX3_fillNear_79 : decode cX3_fillNear 79 = .ok (.if_icmp .ge 21, 3) := by decide +kernel
theorem dX3_fillNear_82 : decode cX3_fillNear 82 = .ok (.aload_n 0, 1) := by decide +kernel
theorem dX3_fillNear_83 : decode cX3_fillNear 83 = .ok (.iload_n 3, 1) := by decide +kernel
theorem dX3_fillNear_84 : decode cX3_fillNear 84 = .ok (.invokevirtual 112, 3) := by decide +kernel
theorem dX3_fillNear_87 : decode cX3_fillNear 87 = .ok (.iload_n 3, 1) := by decide +kernel
theorem dX3_fillNear_88 : decode cX3_fillNear 88 = .ok (.aload_n 0, 1) := by decide +kernel
theorem dX3_fillNear_89 : decode cX3_fillNear 89 = .ok (.getfield 71, 3) := by decide +kernel
theorem dX3_fillNear_92 : decode cX3_fillNear 92 = .ok (.imul, 1) := by decide +kernel
theorem dX3_fillNear_93 : decode cX3_fillNear 93 = .ok (.istore_n 3, 1) := by decide +kernel
theorem dX3_fillNear_94 : decode cX3_fillNear 94 = .ok (.iinc 4 1, 3) := by decide +kernel
theorem dX3_fillNear_97 : decode cX3_fillNear 97 = .ok (.goto (-24), 3) := by decide +kernel
theorem dX3_fillNear_100 : decode cX3_fillNear 100 = .ok (.return_, 1) := by decide +kernel
theorem dX3_changeOneLetter_0 : decode cX3_changeOneLetter 0 = .ok (.iconst 1, 1) := by decide +kernel
theorem dX3_changeOneLetter_1 : decode cX3_changeOneLetter 1 = .ok (.iload_n 1, 1) := by decide +kernel
theorem dX3_changeOneLetter_2 : decode cX3_changeOneLetter 2 = .ok (.aload_n 0, 1) := by decide +kernel
theorem dX3_changeOneLetter_3 : decode cX3_changeOneLetter 3 = .ok (.getfield 71, 3) := by decide +kernel
theorem dX3_changeOneLetter_6 : decode cX3_changeOneLetter 6 = .ok (.imul, 1) := by decide +kernel
theorem dX3_changeOneLetter_7 : decode cX3_changeOneLetter 7 = .ok (.invokestatic 86, 3) := by decide +kernel
theorem dX3_changeOneLetter_10 : decode cX3_changeOneLetter 10 = .ok (.istore_n 2, 1) := by decide +kernel
theorem dX3_changeOneLetter_11 : decode cX3_changeOneLetter 11 = .ok (.iconst 0, 1) := by decide +kernel
theorem dX3_changeOneLetter_12 : decode cX3_changeOneLetter 12 = .ok (.istore_n 3, 1) := by decide +kernel
theorem dX3_changeOneLetter_13 : decode cX3_changeOneLetter 13 = .ok (.iload_n 3, 1) := by decide +kernel
theorem dX3_changeOneLetter_14 : decode cX3_changeOneLetter 14 = .ok (.aload_n 0, 1) := by decide +kernel
theorem dX3_changeOneLetter_15 : decode cX3_changeOneLetter 15 = .ok (.getfield 83, 3) := by decide +kernel
theorem dX3_changeOneLetter_18 : decode cX3_changeOneLetter 18 = .ok (.if_icmp .ge 85, 3) := by decide +kernel
theorem dX3_changeOneLetter_21 : decode cX3_changeOneLetter 21 = .ok (.iload_n 3, 1) := by decide +kernel
theorem dX3_changeOneLetter_22 : decode cX3_changeOneLetter 22 = .ok (.istore 4, 2) := by decide +kernel
theorem dX3_changeOneLetter_24 : decode cX3_changeOneLetter 24 = .ok (.iload 4, 2) := by decide +kernel
theorem dX3_changeOneLetter_26 : decode cX3_changeOneLetter 26 = .ok (.iload_n 3, 1) := by decide +kernel
theorem dX3_changeOneLetter_27 : decode cX3_changeOneLetter 27 = .ok (.iload_n 1, 1) := by decide +kernel
theorem dX3_changeOneLetter_28 : decode cX3_changeOneLetter 28 = .ok (.iadd, 1) := by decide +kernel
theorem dX3_changeOneLetter_29 : decode cX3_changeOneLetter 29 = .ok (.if_icmp .ge 67, 3) := by decide +kernel
theorem dX3_changeOneLetter_32 : decode cX3_changeOneLetter 32 = .ok (.aload_n 0, 1) := by decide +kernel
theorem dX3_changeOneLetter_33 : decode cX3_changeOneLetter 33 = .ok (.iload 4, 2) := by decide +kernel
theorem dX3_changeOneLetter_35 : decode cX3_changeOneLetter 35 = .ok (.iload_n 1, 1) := by decide +kernel
theorem dX3_changeOneLetter_36 : decode cX3_changeOneLetter 36 = .ok (.invokevirtual 92, 3) := by decide +kernel
theorem dX3_changeOneLetter_39 : decode cX3_changeOneLetter 39 = .ok (.iconst 1, 1) := by decide +kernel
theorem dX3_changeOneLetter_40 : decode cX3_changeOneLetter 40 = .ok (.iadd, 1) := by decide +kernel
theorem dX3_changeOneLetter_41 : decode cX3_changeOneLetter 41 = .ok (.istore 5, 2) := by decide +kernel
theorem dX3_changeOneLetter_43 : decode cX3_changeOneLetter 43 = .ok (.iconst 0, 1) := by decide +kernel
theorem dX3_changeOneLetter_44 : decode cX3_changeOneLetter 44 = .ok (.istore 6, 2) := by decide +kernel
theorem dX3_changeOneLetter_46 : decode cX3_changeOneLetter 46 = .ok (.iload 6, 2) := by decide +kernel
theorem dX3_changeOneLetter_48 : decode cX3_changeOneLetter 48 = .ok (.aload_n 0, 1) := by decide +kernel
theorem dX3_changeOneLetter_49 : decode cX3_changeOneLetter 49 = .ok (.getfield 71, 3) := by decide +kernel
theorem dX3_changeOneLetter_52 : decode cX3_changeOneLetter 52 = .ok (.if_icmp .ge 38, 3) := by decide +kernel
theorem dX3_changeOneLetter_55 : decode cX3_changeOneLetter 55 = .ok (.aload_n 0, 1) := by decide +kernel
theorem dX3_changeOneLetter_56 : decode cX3_changeOneLetter 56 = .ok (.getfield 9, 3) := by decide +kernel
theorem dX3_changeOneLetter_59 : decode cX3_changeOneLetter 59 = .ok (.iload 4, 2) := by decide +kernel
theorem dX3_changeOneLetter_61 : decode cX3_changeOneLetter 61 = .ok (.iload 6, 2) := by decide +kernel
theorem dX3_changeOneLetter_63 : decode cX3_changeOneLetter 63 = .ok (.iload_n 1, 1) := by decide +kernel
theorem dX3_changeOneLetter_64 : decode cX3_changeOneLetter 64 = .ok (.imul, 1) := by decide +kernel
theorem dX3_changeOneLetter_65 : decode cX3_changeOneLetter 65 = .ok (.iadd, 1) := by decide +kernel
theorem dX3_changeOneLetter_66 : decode cX3_changeOneLetter 66 = .ok (.iload 5, 2) := by decide +kernel
theorem dX3_changeOneLetter_68 : decode cX3_changeOneLetter 68 = .ok (.aload_n 0, 1) := by decide +kernel
theorem dX3_changeOneLetter_69 : decode cX3_changeOneLetter 69 = .ok (.getfield 9, 3) := by decide +kernel
theorem dX3_changeOneLetter_72 : decode cX3_changeOneLetter 72 = .ok (.iload 4, 2) := by decide +kernel
theorem dX3_changeOneLetter_74 : decode cX3_changeOneLetter 74 = .ok (.iload 6, 2) := by decide +kernel
theorem dX3_changeOneLetter_76 : decode cX3_changeOneLetter 76 = .ok (.iload_n 1, 1) := by decide +kernel
theorem dX3_changeOneLetter_77 : decode cX3_changeOneLetter 77 = .ok (.imul, 1) := by decide +kernel
theorem dX3_changeOneLetter_78 : decode cX3_changeOneLetter 78 = .ok (.iadd, 1) := by decide +kernel
theorem dX3_changeOneLetter_79 : decode cX3_changeOneLetter 79 = .ok (.iaload, 1) := by decide +kernel
theorem dX3_changeOneLetter_80 : decode cX3_changeOneLetter 80 = .ok (.invokestatic 95, 3) := by decide +kernel
theorem dX3_changeOneLetter_83 : decode cX3_changeOneLetter 83 = .ok (.iastore, 1) := by decide +kernel
theorem dX3_changeOneLetter_84 : decode cX3_changeOneLetter 84 = .ok (.iinc 6 1, 3) := by decide +kernel
theorem dX3_changeOneLetter_87 : decode cX3_changeOneLetter 87 = .ok (.goto (-41), 3) := by decide +kernel
theorem dX3_changeOneLetter_90 : decode cX3_changeOneLetter 90 = .ok (.iinc 4 1, 3) := by decide +kernel
theorem dX3_changeOneLetter_93 : decode cX3_changeOneLetter 93 = .ok (.goto (-69), 3) := by decide +kernel
theorem dX3_changeOneLetter_96 : decode cX3_changeOneLetter 96 = .ok (.iload_n 3, 1) := by decide +kernel
theorem dX3_changeOneLetter_97 : decode cX3_changeOneLetter 97 = .ok (.iload_n 2, 1) := by decide +kernel
theorem dX3_changeOneLetter_98 : decode cX3_changeOneLetter 98 = .ok (.iadd, 1) := by decide +kernel
theorem dX3_changeOneLetter_99 : decode cX3_changeOneLetter 99 = .ok (.istore_n 3, 1) := by decide +kernel
theorem dX3_changeOneLetter_100 : decode cX3_changeOneLetter 100 = .ok (.goto (-87), 3) := by decide +kernel
theorem dX3_changeOneLetter_103 : decode cX3_changeOneLetter 103 = .ok (.return_, 1) := by decide +kernel
theorem dX3_nearestOf_0 : decode cX3_nearestOf 0 = .ok (.aload_n 0, 1) := by decide +kernel
theorem dX3_nearestOf_1 : decode cX3_nearestOf 1 = .ok (.getfield 9, 3) := by decide +kernel
theorem dX3_nearestOf_4 : decode cX3_nearestOf 4 = .ok (.iload_n 1, 1) := by decide +kernel
theorem dX3_nearestOf_5 : decode cX3_nearestOf 5 = .ok (.iaload, 1) := by decide +kernel
theorem dX3_nearestOf_6 : decode cX3_nearestOf 6 = .ok (.istore_n 3, 1) := by decide +kernel
theorem dX3_nearestOf_7 : decode cX3_nearestOf 7 = .ok (.iconst 1, 1) := by decide +kernel
theorem dX3_nearestOf_8 : decode cX3_nearestOf 8 = .ok (.istore 4, 2) := by decide +kernel
theorem dX3_nearestOf_10 : decode cX3_nearestOf 10 = .ok (.iload 4, 2) := by decide +kernel
theorem dX3_nearestOf_12 : decode cX3_nearestOf 12 = .ok (.aload_n 0, 1) := by decide +kernel
theorem dX3_nearestOf_13 : decode cX3_nearestOf 13 = .ok (.getfield 71, 3) := by decide +kernel
theorem dX3_nearestOf_16 : decode cX3_nearestOf 16 = .ok (.if_icmp .ge 25, 3) := by decide +kernel
theorem dX3_nearestOf_19 : decode cX3_nearestOf 19 = .ok (.iload_n 3, 1) := by decide +kernel
theorem dX3_nearestOf_20 : decode cX3_nearestOf 20 = .ok (.aload_n 0, 1) := by decide +kernel
theorem dX3_nearestOf_21 : decode cX3_nearestOf 21 = .ok (.getfield 9, 3) := by decide +kernel
theorem dX3_nearestOf_24 : decode cX3_nearestOf 24 = .ok (.iload_n 1, 1) := by decide +kernel
theorem dX3_nearestOf_25 : decode cX3_nearestOf 25 = .ok (.iload 4, 2) := by decide +kernel
theorem dX3_nearestOf_27 : decode cX3_nearestOf 27 = .ok (.iload_n 2, 1) := by decide +kernel
theorem dX3_nearestOf_28 : decode cX3_nearestOf 28 = .ok (.imul, 1) := by decide +kernel
theorem dX3_nearestOf_29 : decode cX3_nearestOf 29 = .ok (.iadd, 1) := by decide +kernel
theorem dX3_nearestOf_30 : decode cX3_nearestOf 30 = .ok (.iaload, 1) := by decide +kernel
theorem dX3_nearestOf_31 : decode cX3_nearestOf 31 = .ok (.invokestatic 95, 3) := by decide +kernel
theorem dX3_nearestOf_34 : decode cX3_nearestOf 34 = .ok (.istore_n 3, 1) := by decide +kernel
theorem dX3_nearestOf_35 : decode cX3_nearestOf 35 = .ok (.iinc 4 1, 3) := by decide +kernel
theorem dX3_nearestOf_38 : decode cX3_nearestOf 38 = .ok (.goto (-28), 3) := by decide +kernel
theorem dX3_nearestOf_41 : decode cX3_nearestOf 41 = .ok (.iload_n 3, 1) := by decide +kernel
theorem dX3_nearestOf_42 : decode cX3_nearestOf 42 = .ok (.ireturn, 1) := by decide +kernel
theorem dX3_countScores_0 : decode cX3_countScores 0 = .ok (.iconst 0, 1) := by decide +kernel
theorem dX3_countScores_1 : decode cX3_countScores 1 = .ok (.istore_n 1, 1) := by decide +kernel
theorem dX3_countScores_2 : decode cX3_countScores 2 = .ok (.iload_n 1, 1) := by decide +kernel
theorem dX3_countScores_3 : decode cX3_countScores 3 = .ok (.bipush 61, 2) := by decide +kernel
theorem dX3_countScores_5 : decode cX3_countScores 5 = .ok (.if_icmp .ge 16, 3) := by decide +kernel
theorem dX3_countScores_8 : decode cX3_countScores 8 = .ok (.aload_n 0, 1) := by decide +kernel
theorem dX3_countScores_9 : decode cX3_countScores 9 = .ok (.getfield 24, 3) := by decide +kernel
theorem dX3_countScores_12 : decode cX3_countScores 12 = .ok (.iload_n 1, 1) := by decide +kernel
theorem dX3_countScores_13 : decode cX3_countScores 13 = .ok (.iconst 0, 1) := by decide +kernel
theorem dX3_countScores_14 : decode cX3_countScores 14 = .ok (.iastore, 1) := by decide +kernel
theorem dX3_countScores_15 : decode cX3_countScores 15 = .ok (.iinc 1 1, 3) := by decide +kernel
theorem dX3_countScores_18 : decode cX3_countScores 18 = .ok (.goto (-16), 3) := by decide +kernel
theorem dX3_countScores_21 : decode cX3_countScores 21 = .ok (.iconst 0, 1) := by decide +kernel
theorem dX3_countScores_22 : decode cX3_countScores 22 = .ok (.istore_n 1, 1) := by decide +kernel
theorem dX3_countScores_23 : decode cX3_countScores 23 = .ok (.iload_n 1, 1) := by decide +kernel
theorem dX3_countScores_24 : decode cX3_countScores 24 = .ok (.aload_n 0, 1) := by decide +kernel
theorem dX3_countScores_25 : decode cX3_countScores 25 = .ok (.getfield 83, 3) := by decide +kernel
theorem dX3_countScores_28 : decode cX3_countScores 28 = .ok (.if_icmp .ge 23, 3) := by decide +kernel
theorem dX3_countScores_31 : decode cX3_countScores 31 = .ok (.aload_n 0, 1) := by decide +kernel
theorem dX3_countScores_32 : decode cX3_countScores 32 = .ok (.getfield 24, 3) := by decide +kernel
theorem dX3_countScores_35 : decode cX3_countScores 35 = .ok (.aload_n 0, 1) := by decide +kernel
theorem dX3_countScores_36 : decode cX3_countScores 36 = .ok (.iload_n 1, 1) := by decide +kernel
theorem dX3_countScores_37 : decode cX3_countScores 37 = .ok (.invokevirtual 115, 3) := by decide +kernel
theorem dX3_countScores_40 : decode cX3_countScores 40 = .ok (.dup2, 1) := by decide +kernel
theorem dX3_countScores_41 : decode cX3_countScores 41 = .ok (.iaload, 1) := by decide +kernel
theorem dX3_countScores_42 : decode cX3_countScores 42 = .ok (.iconst 1, 1) := by decide +kernel
theorem dX3_countScores_43 : decode cX3_countScores 43 = .ok (.iadd, 1) := by decide +kernel
theorem dX3_countScores_44 : decode cX3_countScores 44 = .ok (.iastore, 1) := by decide +kernel
theorem dX3_countScores_45 : decode cX3_countScores 45 = .ok (.iinc 1 1, 3) := by decide +kernel
theorem dX3_countScores_48 : decode cX3_countScores 48 = .ok (.goto (-25), 3) := by decide +kernel
theorem dX3_countScores_51 : decode cX3_countScores 51 = .ok (.return_, 1) := by decide +kernel
theorem dX3_scoreOf_0 : decode cX3_scoreOf 0 = .ok (.aload_n 0, 1) := by decide +kernel
theorem dX3_scoreOf_1 : decode cX3_scoreOf 1 = .ok (.getfield 15, 3) := by decide +kernel
theorem dX3_scoreOf_4 : decode cX3_scoreOf 4 = .ok (.aload_n 0, 1) := by decide +kernel
theorem dX3_scoreOf_5 : decode cX3_scoreOf 5 = .ok (.getfield 21, 3) := by decide +kernel
theorem dX3_scoreOf_8 : decode cX3_scoreOf 8 = .ok (.aload_n 0, 1) := by decide +kernel
theorem dX3_scoreOf_9 : decode cX3_scoreOf 9 = .ok (.getfield 82, 3) := by decide +kernel
theorem dX3_scoreOf_12 : decode cX3_scoreOf 12 = .ok (.iaload, 1) := by decide +kernel
theorem dX3_scoreOf_13 : decode cX3_scoreOf 13 = .ok (.iload_n 1, 1) := by decide +kernel
theorem dX3_scoreOf_14 : decode cX3_scoreOf 14 = .ok (.iadd, 1) := by decide +kernel
theorem dX3_scoreOf_15 : decode cX3_scoreOf 15 = .ok (.iaload, 1) := by decide +kernel
theorem dX3_scoreOf_16 : decode cX3_scoreOf 16 = .ok (.ireturn, 1) := by decide +kernel
theorem dX3_ask_0 : decode cX3_ask 0 = .ok (.aload_n 0, 1) := by decide +kernel
theorem dX3_ask_1 : decode cX3_ask 1 = .ok (.getfield 15, 3) := by decide +kernel
theorem dX3_ask_4 : decode cX3_ask 4 = .ok (.aload_n 0, 1) := by decide +kernel
theorem dX3_ask_5 : decode cX3_ask 5 = .ok (.getfield 21, 3) := by decide +kernel
theorem dX3_ask_8 : decode cX3_ask 8 = .ok (.iload_n 1, 1) := by decide +kernel
theorem dX3_ask_9 : decode cX3_ask 9 = .ok (.iaload, 1) := by decide +kernel
theorem dX3_ask_10 : decode cX3_ask 10 = .ok (.iload_n 2, 1) := by decide +kernel
theorem dX3_ask_11 : decode cX3_ask 11 = .ok (.iadd, 1) := by decide +kernel
theorem dX3_ask_12 : decode cX3_ask 12 = .ok (.iaload, 1) := by decide +kernel
theorem dX3_ask_13 : decode cX3_ask 13 = .ok (.istore_n 3, 1) := by decide +kernel
theorem dX3_ask_14 : decode cX3_ask 14 = .ok (.aload_n 0, 1) := by decide +kernel
theorem dX3_ask_15 : decode cX3_ask 15 = .ok (.dup, 1) := by decide +kernel
theorem dX3_ask_16 : decode cX3_ask 16 = .ok (.getfield 65, 3) := by decide +kernel
theorem dX3_ask_19 : decode cX3_ask 19 = .ok (.iconst 1, 1) := by decide +kernel
theorem dX3_ask_20 : decode cX3_ask 20 = .ok (.iadd, 1) := by decide +kernel
theorem dX3_ask_21 : decode cX3_ask 21 = .ok (.putfield 65, 3) := by decide +kernel
theorem dX3_ask_24 : decode cX3_ask 24 = .ok (.aload_n 0, 1) := by decide +kernel
theorem dX3_ask_25 : decode cX3_ask 25 = .ok (.getfield 59, 3) := by decide +kernel
theorem dX3_ask_28 : decode cX3_ask 28 = .ok (.iconst (-1), 1) := by decide +kernel
theorem dX3_ask_29 : decode cX3_ask 29 = .ok (.if_icmp .eq 24, 3) := by decide +kernel
theorem dX3_ask_32 : decode cX3_ask 32 = .ok (.iload_n 3, 1) := by decide +kernel
theorem dX3_ask_33 : decode cX3_ask 33 = .ok (.aload_n 0, 1) := by decide +kernel
theorem dX3_ask_34 : decode cX3_ask 34 = .ok (.getfield 62, 3) := by decide +kernel
theorem dX3_ask_37 : decode cX3_ask 37 = .ok (.if_icmp .lt 16, 3) := by decide +kernel
theorem dX3_ask_40 : decode cX3_ask 40 = .ok (.aload_n 0, 1) := by decide +kernel
theorem dX3_ask_41 : decode cX3_ask 41 = .ok (.dup, 1) := by decide +kernel
theorem dX3_ask_42 : decode cX3_ask 42 = .ok (.getfield 68, 3) := by decide +kernel
theorem dX3_ask_45 : decode cX3_ask 45 = .ok (.iconst 1, 1) := by decide +kernel
theorem dX3_ask_46 : decode cX3_ask 46 = .ok (.iadd, 1) := by decide +kernel
theorem dX3_ask_47 : decode cX3_ask 47 = .ok (.putfield 68, 3) := by decide +kernel
theorem dX3_ask_50 : decode cX3_ask 50 = .ok (.goto 58, 3) := by decide +kernel
theorem dX3_ask_53 : decode cX3_ask 53 = .ok (.iload_n 1, 1) := by decide +kernel
theorem dX3_ask_54 : decode cX3_ask 54 = .ok (.aload_n 0, 1) := by decide +kernel
theorem dX3_ask_55 : decode cX3_ask 55 = .ok (.getfield 82, 3) := by decide +kernel
theorem dX3_ask_58 : decode cX3_ask 58 = .ok (.if_icmp .lt 16, 3) := by decide +kernel
theorem dX3_ask_61 : decode cX3_ask 61 = .ok (.aload_n 0, 1) := by decide +kernel
theorem dX3_ask_62 : decode cX3_ask 62 = .ok (.iload_n 2, 1) := by decide +kernel
theorem dX3_ask_63 : decode cX3_ask 63 = .ok (.putfield 59, 3) := by decide +kernel
theorem dX3_ask_66 : decode cX3_ask 66 = .ok (.aload_n 0, 1) := by decide +kernel
theorem dX3_ask_67 : decode cX3_ask 67 = .ok (.iload_n 3, 1) := by decide +kernel
theorem dX3_ask_68 : decode cX3_ask 68 = .ok (.putfield 62, 3) := by decide +kernel
theorem dX3_ask_71 : decode cX3_ask 71 = .ok (.goto 37, 3) := by decide +kernel
theorem dX3_ask_74 : decode cX3_ask 74 = .ok (.iconst 0, 1) := by decide +kernel
theorem dX3_ask_75 : decode cX3_ask 75 = .ok (.istore 4, 2) := by decide +kernel
theorem dX3_ask_77 : decode cX3_ask 77 = .ok (.iload 4, 2) := by decide +kernel
theorem dX3_ask_79 : decode cX3_ask 79 = .ok (.aload_n 0, 1) := by decide +kernel
theorem dX3_ask_80 : decode cX3_ask 80 = .ok (.getfield 71, 3) := by decide +kernel
theorem dX3_ask_83 : decode cX3_ask 83 = .ok (.if_icmp .ge 25, 3) := by decide +kernel
theorem dX3_ask_86 : decode cX3_ask 86 = .ok (.aload_n 0, 1) := by decide +kernel
theorem dX3_ask_87 : decode cX3_ask 87 = .ok (.iload_n 1, 1) := by decide +kernel
theorem dX3_ask_88 : decode cX3_ask 88 = .ok (.iconst 1, 1) := by decide +kernel
theorem dX3_ask_89 : decode cX3_ask 89 = .ok (.iadd, 1) := by decide +kernel
theorem dX3_ask_90 : decode cX3_ask 90 = .ok (.iload_n 2, 1) := by decide +kernel
theorem dX3_ask_91 : decode cX3_ask 91 = .ok (.aload_n 0, 1) := by decide +kernel
theorem dX3_ask_92 : decode cX3_ask 92 = .ok (.getfield 71, 3) := by decide +kernel
theorem dX3_ask_95 : decode cX3_ask 95 = .ok (.imul, 1) := by decide +kernel
theorem dX3_ask_96 : decode cX3_ask 96 = .ok (.iload 4, 2) := by decide +kernel
theorem dX3_ask_98 : decode cX3_ask 98 = .ok (.iadd, 1) := by decide +kernel
theorem dX3_ask_99 : decode cX3_ask 99 = .ok (.invokevirtual 74, 3) := by decide +kernel
theorem dX3_ask_102 : decode cX3_ask 102 = .ok (.iinc 4 1, 3) := by decide +kernel
theorem dX3_ask_105 : decode cX3_ask 105 = .ok (.goto (-28), 3) := by decide +kernel
theorem dX3_ask_108 : decode cX3_ask 108 = .ok (.return_, 1) := by decide +kernel
theorem dX3_mostHadWord_0 : decode cX3_mostHadWord 0 = .ok (.iconst 0, 1) := by decide +kernel
theorem dX3_mostHadWord_1 : decode cX3_mostHadWord 1 = .ok (.istore_n 1, 1) := by decide +kernel
theorem dX3_mostHadWord_2 : decode cX3_mostHadWord 2 = .ok (.iconst 1, 1) := by decide +kernel
theorem dX3_mostHadWord_3 : decode cX3_mostHadWord 3 = .ok (.istore_n 2, 1) := by decide +kernel
theorem dX3_mostHadWord_4 : decode cX3_mostHadWord 4 = .ok (.iload_n 2, 1) := by decide +kernel
theorem dX3_mostHadWord_5 : decode cX3_mostHadWord 5 = .ok (.aload_n 0, 1) := by decide +kernel
theorem dX3_mostHadWord_6 : decode cX3_mostHadWord 6 = .ok (.getfield 83, 3) := by decide +kernel
theorem dX3_mostHadWord_9 : decode cX3_mostHadWord 9 = .ok (.if_icmp .ge 76, 3) := by decide +kernel
theorem dX3_mostHadWord_12 : decode cX3_mostHadWord 12 = .ok (.aload_n 0, 1) := by decide +kernel
theorem dX3_mostHadWord_13 : decode cX3_mostHadWord 13 = .ok (.getfield 18, 3) := by decide +kernel
theorem dX3_mostHadWord_16 : decode cX3_mostHadWord 16 = .ok (.iload_n 2, 1) := by decide +kernel
theorem dX3_mostHadWord_17 : decode cX3_mostHadWord 17 = .ok (.iaload, 1) := by decide +kernel
theorem dX3_mostHadWord_18 : decode cX3_mostHadWord 18 = .ok (.aload_n 0, 1) := by decide +kernel
theorem dX3_mostHadWord_19 : decode cX3_mostHadWord 19 = .ok (.getfield 18, 3) := by decide +kernel
theorem dX3_mostHadWord_22 : decode cX3_mostHadWord 22 = .ok (.iload_n 1, 1) := by decide +kernel
theorem dX3_mostHadWord_23 : decode cX3_mostHadWord 23 = .ok (.iaload, 1) := by decide +kernel
theorem dX3_mostHadWord_24 : decode cX3_mostHadWord 24 = .ok (.if_icmp .le 7, 3) := by decide +kernel
theorem dX3_mostHadWord_27 : decode cX3_mostHadWord 27 = .ok (.iconst 1, 1) := by decide +kernel
theorem dX3_mostHadWord_28 : decode cX3_mostHadWord 28 = .ok (.goto 4, 3) := by decide +kernel
theorem dX3_mostHadWord_31 : decode cX3_mostHadWord 31 = .ok (.iconst 0, 1) := by decide +kernel
theorem dX3_mostHadWord_32 : decode cX3_mostHadWord 32 = .ok (.istore_n 3, 1) := by decide +kernel
theorem dX3_mostHadWord_33 : decode cX3_mostHadWord 33 = .ok (.aload_n 0, 1) := by decide +kernel
theorem dX3_mostHadWord_34 : decode cX3_mostHadWord 34 = .ok (.getfield 18, 3) := by decide +kernel
theorem dX3_mostHadWord_37 : decode cX3_mostHadWord 37 = .ok (.iload_n 2, 1) := by decide +kernel
theorem dX3_mostHadWord_38 : decode cX3_mostHadWord 38 = .ok (.iaload, 1) := by decide +kernel
theorem dX3_mostHadWord_39 : decode cX3_mostHadWord 39 = .ok (.aload_n 0, 1) := by decide +kernel
theorem dX3_mostHadWord_40 : decode cX3_mostHadWord 40 = .ok (.getfield 18, 3) := by decide +kernel
theorem dX3_mostHadWord_43 : decode cX3_mostHadWord 43 = .ok (.iload_n 1, 1) := by decide +kernel
theorem dX3_mostHadWord_44 : decode cX3_mostHadWord 44 = .ok (.iaload, 1) := by decide +kernel
theorem dX3_mostHadWord_45 : decode cX3_mostHadWord 45 = .ok (.if_icmp .ne 20, 3) := by decide +kernel
theorem dX3_mostHadWord_48 : decode cX3_mostHadWord 48 = .ok (.aload_n 0, 1) := by decide +kernel
theorem dX3_mostHadWord_49 : decode cX3_mostHadWord 49 = .ok (.iload_n 2, 1) := by decide +kernel
theorem dX3_mostHadWord_50 : decode cX3_mostHadWord 50 = .ok (.invokevirtual 115, 3) := by decide +kernel
theorem dX3_mostHadWord_53 : decode cX3_mostHadWord 53 = .ok (.aload_n 0, 1) := by decide +kernel
theorem dX3_mostHadWord_54 : decode cX3_mostHadWord 54 = .ok (.iload_n 1, 1) := by decide +kernel
theorem dX3_mostHadWord_55 : decode cX3_mostHadWord 55 = .ok (.invokevirtual 115, 3) := by decide +kernel
theorem dX3_mostHadWord_58 : decode cX3_mostHadWord 58 = .ok (.if_icmp .ge 7, 3) := by decide +kernel
theorem dX3_mostHadWord_61 : decode cX3_mostHadWord 61 = .ok (.iconst 1, 1) := by decide +kernel
theorem dX3_mostHadWord_62 : decode cX3_mostHadWord 62 = .ok (.goto 4, 3) := by decide +kernel
theorem dX3_mostHadWord_65 : decode cX3_mostHadWord 65 = .ok (.iconst 0, 1) := by decide +kernel
theorem dX3_mostHadWord_66 : decode cX3_mostHadWord 66 = .ok (.istore 4, 2) := by decide +kernel
theorem dX3_mostHadWord_68 : decode cX3_mostHadWord 68 = .ok (.iload_n 3, 1) := by decide +kernel
theorem dX3_mostHadWord_69 : decode cX3_mostHadWord 69 = .ok (.ifCond .ne 8, 3) := by decide +kernel
theorem dX3_mostHadWord_72 : decode cX3_mostHadWord 72 = .ok (.iload 4, 2) := by decide +kernel
theorem dX3_mostHadWord_74 : decode cX3_mostHadWord 74 = .ok (.ifCond .eq 5, 3) := by decide +kernel
theorem dX3_mostHadWord_77 : decode cX3_mostHadWord 77 = .ok (.iload_n 2, 1) := by decide +kernel
theorem dX3_mostHadWord_78 : decode cX3_mostHadWord 78 = .ok (.istore_n 1, 1) := by decide +kernel
theorem dX3_mostHadWord_79 : decode cX3_mostHadWord 79 = .ok (.iinc 2 1, 3) := by decide +kernel
theorem dX3_mostHadWord_82 : decode cX3_mostHadWord 82 = .ok (.goto (-78), 3) := by decide +kernel
theorem dX3_mostHadWord_85 : decode cX3_mostHadWord 85 = .ok (.iload_n 1, 1) := by decide +kernel
theorem dX3_mostHadWord_86 : decode cX3_mostHadWord 86 = .ok (.ireturn, 1) := by decide +kernel
theorem dX3_bestScoreWithout_0 : decode cX3_bestScoreWithout 0 = .ok (.aload_n 0, 1) := by decide +kernel
theorem dX3_bestScoreWithout_1 : decode cX3_bestScoreWithout 1 = .ok (.aload_n 1, 1) := by decide +kernel
theorem dX3_bestScoreWithout_2 : decode cX3_bestScoreWithout 2 = .ok (.iload_n 2, 1) := by decide +kernel
theorem dX3_bestScoreWithout_3 : decode cX3_bestScoreWithout 3 = .ok (.invokevirtual 45, 3) := by decide +kernel
theorem dX3_bestScoreWithout_6 : decode cX3_bestScoreWithout 6 = .ok (.bipush 61, 2) := by decide +kernel
theorem dX3_bestScoreWithout_8 : decode cX3_bestScoreWithout 8 = .ok (.istore_n 3, 1) := by decide +kernel
theorem dX3_bestScoreWithout_9 : decode cX3_bestScoreWithout 9 = .ok (.iconst 0, 1) := by decide +kernel
theorem dX3_bestScoreWithout_10 : decode cX3_bestScoreWithout 10 = .ok (.istore 4, 2) := by decide +kernel
theorem dX3_bestScoreWithout_12 : decode cX3_bestScoreWithout 12 = .ok (.iload 4, 2) := by decide +kernel
theorem dX3_bestScoreWithout_14 : decode cX3_bestScoreWithout 14 = .ok (.aload_n 0, 1) := by decide +kernel
theorem dX3_bestScoreWithout_15 : decode cX3_bestScoreWithout 15 = .ok (.getfield 83, 3) := by decide +kernel
theorem dX3_bestScoreWithout_18 : decode cX3_bestScoreWithout 18 = .ok (.if_icmp .ge 28, 3) := by decide +kernel
theorem dX3_bestScoreWithout_21 : decode cX3_bestScoreWithout 21 = .ok (.iload_n 3, 1) := by decide +kernel
theorem dX3_bestScoreWithout_22 : decode cX3_bestScoreWithout 22 = .ok (.aload_n 0, 1) := by decide +kernel
theorem dX3_bestScoreWithout_23 : decode cX3_bestScoreWithout 23 = .ok (.iload 4, 2) := by decide +kernel
theorem dX3_bestScoreWithout_25 : decode cX3_bestScoreWithout 25 = .ok (.invokevirtual 115, 3) := by decide +kernel
theorem dX3_bestScoreWithout_28 : decode cX3_bestScoreWithout 28 = .ok (.aload_n 0, 1) := by decide +kernel
theorem dX3_bestScoreWithout_29 : decode cX3_bestScoreWithout 29 = .ok (.getfield 9, 3) := by decide +kernel
theorem dX3_bestScoreWithout_32 : decode cX3_bestScoreWithout 32 = .ok (.iload 4, 2) := by decide +kernel
theorem dX3_bestScoreWithout_34 : decode cX3_bestScoreWithout 34 = .ok (.iaload, 1) := by decide +kernel
theorem dX3_bestScoreWithout_35 : decode cX3_bestScoreWithout 35 = .ok (.isub, 1) := by decide +kernel
theorem dX3_bestScoreWithout_36 : decode cX3_bestScoreWithout 36 = .ok (.invokestatic 95, 3) := by decide +kernel
theorem dX3_bestScoreWithout_39 : decode cX3_bestScoreWithout 39 = .ok (.istore_n 3, 1) := by decide +kernel
theorem dX3_bestScoreWithout_40 : decode cX3_bestScoreWithout 40 = .ok (.iinc 4 1, 3) := by decide +kernel
theorem dX3_bestScoreWithout_43 : decode cX3_bestScoreWithout 43 = .ok (.goto (-31), 3) := by decide +kernel
theorem dX3_bestScoreWithout_46 : decode cX3_bestScoreWithout 46 = .ok (.iload_n 3, 1) := by decide +kernel
theorem dX3_bestScoreWithout_47 : decode cX3_bestScoreWithout 47 = .ok (.ireturn, 1) := by decide +kernel
theorem dX3_wordOfRank_0 : decode cX3_wordOfRank 0 = .ok (.iload_n 1, 1) := by decide +kernel
theorem dX3_wordOfRank_1 : decode cX3_wordOfRank 1 = .ok (.ifCond .lt 11, 3) := by decide +kernel
theorem dX3_wordOfRank_4 : decode cX3_wordOfRank 4 = .ok (.iload_n 1, 1) := by decide +kernel
theorem dX3_wordOfRank_5 : decode cX3_wordOfRank 5 = .ok (.aload_n 0, 1) := by decide +kernel
theorem dX3_wordOfRank_6 : decode cX3_wordOfRank 6 = .ok (.getfield 83, 3) := by decide +kernel
theorem dX3_wordOfRank_9 : decode cX3_wordOfRank 9 = .ok (.if_icmp .lt 5, 3) := by decide +kernel
theorem dX3_wordOfRank_12 : decode cX3_wordOfRank 12 = .ok (.iconst (-1), 1) := by decide +kernel
theorem dX3_wordOfRank_13 : decode cX3_wordOfRank 13 = .ok (.ireturn, 1) := by decide +kernel
theorem dX3_wordOfRank_14 : decode cX3_wordOfRank 14 = .ok (.iload_n 1, 1) := by decide +kernel
theorem dX3_wordOfRank_15 : decode cX3_wordOfRank 15 = .ok (.istore_n 2, 1) := by decide +kernel
theorem dX3_wordOfRank_16 : decode cX3_wordOfRank 16 = .ok (.iconst 0, 1) := by decide +kernel
theorem dX3_wordOfRank_17 : decode cX3_wordOfRank 17 = .ok (.istore_n 3, 1) := by decide +kernel
theorem dX3_wordOfRank_18 : decode cX3_wordOfRank 18 = .ok (.iload_n 3, 1) := by decide +kernel
theorem dX3_wordOfRank_19 : decode cX3_wordOfRank 19 = .ok (.bipush 60, 2) := by decide +kernel
theorem dX3_wordOfRank_21 : decode cX3_wordOfRank 21 = .ok (.if_icmp .ge 28, 3) := by decide +kernel
theorem dX3_wordOfRank_24 : decode cX3_wordOfRank 24 = .ok (.iload_n 2, 1) := by decide +kernel
theorem dX3_wordOfRank_25 : decode cX3_wordOfRank 25 = .ok (.aload_n 0, 1) := by decide +kernel
theorem dX3_wordOfRank_26 : decode cX3_wordOfRank 26 = .ok (.getfield 24, 3) := by decide +kernel
theorem dX3_wordOfRank_29 : decode cX3_wordOfRank 29 = .ok (.iload_n 3, 1) := by decide +kernel
theorem dX3_wordOfRank_30 : decode cX3_wordOfRank 30 = .ok (.iaload, 1) := by decide +kernel
theorem dX3_wordOfRank_31 : decode cX3_wordOfRank 31 = .ok (.if_icmp .lt 18, 3) := by decide +kernel
theorem dX3_wordOfRank_34 : decode cX3_wordOfRank 34 = .ok (.iload_n 2, 1) := by decide +kernel
theorem dX3_wordOfRank_35 : decode cX3_wordOfRank 35 = .ok (.aload_n 0, 1) := by decide +kernel
theorem dX3_wordOfRank_36 : decode cX3_wordOfRank 36 = .ok (.getfield 24, 3) := by decide +kernel
theorem dX3_wordOfRank_39 : decode cX3_wordOfRank 39 = .ok (.iload_n 3, 1) := by decide +kernel
theorem dX3_wordOfRank_40 : decode cX3_wordOfRank 40 = .ok (.iaload, 1) := by decide +kernel
theorem dX3_wordOfRank_41 : decode cX3_wordOfRank 41 = .ok (.isub, 1) := by decide +kernel
theorem dX3_wordOfRank_42 : decode cX3_wordOfRank 42 = .ok (.istore_n 2, 1) := by decide +kernel
theorem dX3_wordOfRank_43 : decode cX3_wordOfRank 43 = .ok (.iinc 3 1, 3) := by decide +kernel
theorem dX3_wordOfRank_46 : decode cX3_wordOfRank 46 = .ok (.goto (-28), 3) := by decide +kernel
theorem dX3_wordOfRank_49 : decode cX3_wordOfRank 49 = .ok (.iconst 0, 1) := by decide +kernel
theorem dX3_wordOfRank_50 : decode cX3_wordOfRank 50 = .ok (.istore 4, 2) := by decide +kernel
theorem dX3_wordOfRank_52 : decode cX3_wordOfRank 52 = .ok (.iload 4, 2) := by decide +kernel
theorem dX3_wordOfRank_54 : decode cX3_wordOfRank 54 = .ok (.aload_n 0, 1) := by decide +kernel
theorem dX3_wordOfRank_55 : decode cX3_wordOfRank 55 = .ok (.getfield 83, 3) := by decide +kernel
theorem dX3_wordOfRank_58 : decode cX3_wordOfRank 58 = .ok (.if_icmp .ge 29, 3) := by decide +kernel
theorem dX3_wordOfRank_61 : decode cX3_wordOfRank 61 = .ok (.aload_n 0, 1) := by decide +kernel
theorem dX3_wordOfRank_62 : decode cX3_wordOfRank 62 = .ok (.iload 4, 2) := by decide +kernel
theorem dX3_wordOfRank_64 : decode cX3_wordOfRank 64 = .ok (.invokevirtual 115, 3) := by decide +kernel
theorem dX3_wordOfRank_67 : decode cX3_wordOfRank 67 = .ok (.iload_n 3, 1) := by decide +kernel
theorem dX3_wordOfRank_68 : decode cX3_wordOfRank 68 = .ok (.if_icmp .ne 13, 3) := by decide +kernel
theorem dX3_wordOfRank_71 : decode cX3_wordOfRank 71 = .ok (.iload_n 2, 1) := by decide +kernel
theorem dX3_wordOfRank_72 : decode cX3_wordOfRank 72 = .ok (.ifCond .ne 6, 3) := by decide +kernel
theorem dX3_wordOfRank_75 : decode cX3_wordOfRank 75 = .ok (.iload 4, 2) := by decide +kernel
theorem dX3_wordOfRank_77 : decode cX3_wordOfRank 77 = .ok (.ireturn, 1) := by decide +kernel
theorem dX3_wordOfRank_78 : decode cX3_wordOfRank 78 = .ok (.iinc 2 (-1), 3) := by decide +kernel
theorem dX3_wordOfRank_81 : decode cX3_wordOfRank 81 = .ok (.iinc 4 1, 3) := by decide +kernel
theorem dX3_wordOfRank_84 : decode cX3_wordOfRank 84 = .ok (.goto (-32), 3) := by decide +kernel
theorem dX3_wordOfRank_87 : decode cX3_wordOfRank 87 = .ok (.iconst (-1), 1) := by decide +kernel
theorem dX3_wordOfRank_88 : decode cX3_wordOfRank 88 = .ok (.ireturn, 1) := by decide +kernel
theorem dX3_rankOfWord_0 : decode cX3_rankOfWord 0 = .ok (.aload_n 0, 1) := by decide +kernel
theorem dX3_rankOfWord_1 : decode cX3_rankOfWord 1 = .ok (.iload_n 1, 1) := by decide +kernel
theorem dX3_rankOfWord_2 : decode cX3_rankOfWord 2 = .ok (.invokevirtual 115, 3) := by decide +kernel
theorem dX3_rankOfWord_5 : decode cX3_rankOfWord 5 = .ok (.istore_n 2, 1) := by decide +kernel
theorem dX3_rankOfWord_6 : decode cX3_rankOfWord 6 = .ok (.iconst 0, 1) := by decide +kernel
theorem dX3_rankOfWord_7 : decode cX3_rankOfWord 7 = .ok (.istore_n 3, 1) := by decide +kernel
theorem dX3_rankOfWord_8 : decode cX3_rankOfWord 8 = .ok (.iconst 0, 1) := by decide +kernel
theorem dX3_rankOfWord_9 : decode cX3_rankOfWord 9 = .ok (.istore 4, 2) := by decide +kernel
theorem dX3_rankOfWord_11 : decode cX3_rankOfWord 11 = .ok (.iload 4, 2) := by decide +kernel
theorem dX3_rankOfWord_13 : decode cX3_rankOfWord 13 = .ok (.iload_n 2, 1) := by decide +kernel
theorem dX3_rankOfWord_14 : decode cX3_rankOfWord 14 = .ok (.if_icmp .ge 19, 3) := by decide +kernel
theorem dX3_rankOfWord_17 : decode cX3_rankOfWord 17 = .ok (.iload_n 3, 1) := by decide +kernel
theorem dX3_rankOfWord_18 : decode cX3_rankOfWord 18 = .ok (.aload_n 0, 1) := by decide +kernel
theorem dX3_rankOfWord_19 : decode cX3_rankOfWord 19 = .ok (.getfield 24, 3) := by decide +kernel
theorem dX3_rankOfWord_22 : decode cX3_rankOfWord 22 = .ok (.iload 4, 2) := by decide +kernel
theorem dX3_rankOfWord_24 : decode cX3_rankOfWord 24 = .ok (.iaload, 1) := by decide +kernel
theorem dX3_rankOfWord_25 : decode cX3_rankOfWord 25 = .ok (.iadd, 1) := by decide +kernel
theorem dX3_rankOfWord_26 : decode cX3_rankOfWord 26 = .ok (.istore_n 3, 1) := by decide +kernel
theorem dX3_rankOfWord_27 : decode cX3_rankOfWord 27 = .ok (.iinc 4 1, 3) := by decide +kernel
theorem dX3_rankOfWord_30 : decode cX3_rankOfWord 30 = .ok (.goto (-19), 3) := by decide +kernel
theorem dX3_rankOfWord_33 : decode cX3_rankOfWord 33 = .ok (.iconst 0, 1) := by decide +kernel
theorem dX3_rankOfWord_34 : decode cX3_rankOfWord 34 = .ok (.istore 4, 2) := by decide +kernel
theorem dX3_rankOfWord_36 : decode cX3_rankOfWord 36 = .ok (.iload 4, 2) := by decide +kernel
theorem dX3_rankOfWord_38 : decode cX3_rankOfWord 38 = .ok (.iload_n 1, 1) := by decide +kernel
theorem dX3_rankOfWord_39 : decode cX3_rankOfWord 39 = .ok (.if_icmp .ge 22, 3) := by decide +kernel
theorem dX3_rankOfWord_42 : decode cX3_rankOfWord 42 = .ok (.aload_n 0, 1) := by decide +kernel
theorem dX3_rankOfWord_43 : decode cX3_rankOfWord 43 = .ok (.iload 4, 2) := by decide +kernel
theorem dX3_rankOfWord_45 : decode cX3_rankOfWord 45 = .ok (.invokevirtual 115, 3) := by decide +kernel
theorem dX3_rankOfWord_48 : decode cX3_rankOfWord 48 = .ok (.iload_n 2, 1) := by decide +kernel
theorem dX3_rankOfWord_49 : decode cX3_rankOfWord 49 = .ok (.if_icmp .ne 6, 3) := by decide +kernel
theorem dX3_rankOfWord_52 : decode cX3_rankOfWord 52 = .ok (.iinc 3 1, 3) := by decide +kernel
theorem dX3_rankOfWord_55 : decode cX3_rankOfWord 55 = .ok (.iinc 4 1, 3) := by decide +kernel
theorem dX3_rankOfWord_58 : decode cX3_rankOfWord 58 = .ok (.goto (-22), 3) := by decide +kernel
theorem dX3_rankOfWord_61 : decode cX3_rankOfWord 61 = .ok (.iload_n 3, 1) := by decide +kernel
theorem dX3_rankOfWord_62 : decode cX3_rankOfWord 62 = .ok (.ireturn, 1) := by decide +kernel
theorem dX4_init_0 : decode cX4_init 0 = .ok (.aload_n 0, 1) := by decide +kernel
theorem dX4_init_1 : decode cX4_init 1 = .ok (.invokespecial 3, 3) := by decide +kernel
theorem dX4_init_4 : decode cX4_init 4 = .ok (.aload_n 0, 1) := by decide +kernel
theorem dX4_init_5 : decode cX4_init 5 = .ok (.iconst 0, 1) := by decide +kernel
theorem dX4_init_6 : decode cX4_init 6 = .ok (.newarray .int, 2) := by decide +kernel
theorem dX4_init_8 : decode cX4_init 8 = .ok (.putfield 9, 3) := by decide +kernel
theorem dX4_init_11 : decode cX4_init 11 = .ok (.return_, 1) := by decide +kernel
theorem dX4_start_0 : decode cX4_start 0 = .ok (.aload_n 0, 1) := by decide +kernel
theorem dX4_start_1 : decode cX4_start 1 = .ok (.aload_n 1, 1) := by decide +kernel
theorem dX4_start_2 : decode cX4_start 2 = .ok (.invokevirtual 15, 3) := by decide +kernel
theorem dX4_start_5 : decode cX4_start 5 = .ok (.putfield 21, 3) := by decide +kernel
theorem dX4_start_8 : decode cX4_start 8 = .ok (.aload_n 0, 1) := by decide +kernel
theorem dX4_start_9 : decode cX4_start 9 = .ok (.getfield 9, 3) := by decide +kernel
theorem dX4_start_12 : decode cX4_start 12 = .ok (.arraylength, 1) := by decide +kernel
theorem dX4_start_13 : decode cX4_start 13 = .ok (.aload_n 0, 1) := by decide +kernel
theorem dX4_start_14 : decode cX4_start 14 = .ok (.getfield 21, 3) := by decide +kernel
theorem dX4_start_17 : decode cX4_start 17 = .ok (.if_icmp .ge 13, 3) := by decide +kernel
theorem dX4_start_20 : decode cX4_start 20 = .ok (.aload_n 0, 1) := by decide +kernel
theorem dX4_start_21 : decode cX4_start 21 = .ok (.aload_n 0, 1) := by decide +kernel
theorem dX4_start_22 : decode cX4_start 22 = .ok (.getfield 21, 3) := by decide +kernel
theorem dX4_start_25 : decode cX4_start 25 = .ok (.newarray .int, 2) := by decide +kernel
theorem dX4_start_27 : decode cX4_start 27 = .ok (.putfield 9, 3) := by decide +kernel
theorem dX4_start_30 : decode cX4_start 30 = .ok (.iconst 0, 1) := by decide +kernel
theorem dX4_start_31 : decode cX4_start 31 = .ok (.istore_n 2, 1) := by decide +kernel
theorem dX4_start_32 : decode cX4_start 32 = .ok (.iload_n 2, 1) := by decide +kernel
theorem dX4_start_33 : decode cX4_start 33 = .ok (.aload_n 0, 1) := by decide +kernel
theorem dX4_start_34 : decode cX4_start 34 = .ok (.getfield 21, 3) := by decide +kernel
theorem dX4_start_37 : decode cX4_start 37 = .ok (.if_icmp .ge 16, 3) := by decide +kernel
theorem dX4_start_40 : decode cX4_start 40 = .ok (.aload_n 0, 1) := by decide +kernel
theorem dX4_start_41 : decode cX4_start 41 = .ok (.getfield 9, 3) := by decide +kernel
theorem dX4_start_44 : decode cX4_start 44 = .ok (.iload_n 2, 1) := by decide +kernel
theorem dX4_start_45 : decode cX4_start 45 = .ok (.iconst 0, 1) := by decide +kernel
theorem dX4_start_46 : decode cX4_start 46 = .ok (.iastore, 1) := by decide +kernel
theorem dX4_start_47 : decode cX4_start 47 = .ok (.iinc 2 1, 3) := by decide +kernel
theorem dX4_start_50 : decode cX4_start 50 = .ok (.goto (-18), 3) := by decide +kernel
theorem dX4_start_53 : decode cX4_start 53 = .ok (.return_, 1) := by decide +kernel
theorem dX4_addAllPlaces_0 : decode cX4_addAllPlaces 0 = .ok (.aload_n 0, 1) := by decide +kernel
theorem dX4_addAllPlaces_1 : decode cX4_addAllPlaces 1 = .ok (.aload_n 1, 1) := by decide +kernel
theorem dX4_addAllPlaces_2 : decode cX4_addAllPlaces 2 = .ok (.invokevirtual 25, 3) := by decide +kernel
theorem dX4_addAllPlaces_5 : decode cX4_addAllPlaces 5 = .ok (.iconst 0, 1) := by decide +kernel
theorem dX4_addAllPlaces_6 : decode cX4_addAllPlaces 6 = .ok (.istore_n 2, 1) := by decide +kernel
theorem dX4_addAllPlaces_7 : decode cX4_addAllPlaces 7 = .ok (.iload_n 2, 1) := by decide +kernel
theorem dX4_addAllPlaces_8 : decode cX4_addAllPlaces 8 = .ok (.aload_n 1, 1) := by decide +kernel
theorem dX4_addAllPlaces_9 : decode cX4_addAllPlaces 9 = .ok (.getfield 29, 3) := by decide +kernel
theorem dX4_addAllPlaces_12 : decode cX4_addAllPlaces 12 = .ok (.if_icmp .ge 54, 3) := by decide +kernel
theorem dX4_addAllPlaces_15 : decode cX4_addAllPlaces 15 = .ok (.iconst 0, 1) := by decide +kernel
theorem dX4_addAllPlaces_16 : decode cX4_addAllPlaces 16 = .ok (.istore_n 3, 1) := by decide +kernel
theorem dX4_addAllPlaces_17 : decode cX4_addAllPlaces 17 = .ok (.iload_n 3, 1) := by decide +kernel
theorem dX4_addAllPlaces_18 : decode cX4_addAllPlaces 18 = .ok (.aload_n 1, 1) := by decide +kernel
theorem dX4_addAllPlaces_19 : decode cX4_addAllPlaces 19 = .ok (.iload_n 2, 1) := by decide +kernel
theorem dX4_addAllPlaces_20 : decode cX4_addAllPlaces 20 = .ok (.invokevirtual 32, 3) := by decide +kernel
theorem dX4_addAllPlaces_23 : decode cX4_addAllPlaces 23 = .ok (.if_icmp .gt 37, 3) := by decide +kernel
theorem dX4_addAllPlaces_26 : decode cX4_addAllPlaces 26 = .ok (.aload_n 1, 1) := by decide +kernel
theorem dX4_addAllPlaces_27 : decode cX4_addAllPlaces 27 = .ok (.iload_n 2, 1) := by decide +kernel
theorem dX4_addAllPlaces_28 : decode cX4_addAllPlaces 28 = .ok (.iload_n 3, 1) := by decide +kernel
theorem dX4_addAllPlaces_29 : decode cX4_addAllPlaces 29 = .ok (.invokevirtual 36, 3) := by decide +kernel
theorem dX4_addAllPlaces_32 : decode cX4_addAllPlaces 32 = .ok (.ifCond .eq 22, 3) := by decide +kernel
theorem dX4_addAllPlaces_35 : decode cX4_addAllPlaces 35 = .ok (.aload_n 0, 1) := by decide +kernel
theorem dX4_addAllPlaces_36 : decode cX4_addAllPlaces 36 = .ok (.getfield 9, 3) := by decide +kernel
theorem dX4_addAllPlaces_39 : decode cX4_addAllPlaces 39 = .ok (.aload_n 1, 1) := by decide +kernel
theorem dX4_addAllPlaces_40 : decode cX4_addAllPlaces 40 = .ok (.aload_n 1, 1) := by decide +kernel
theorem dX4_addAllPlaces_41 : decode cX4_addAllPlaces 41 = .ok (.iload_n 2, 1) := by decide +kernel
theorem dX4_addAllPlaces_42 : decode cX4_addAllPlaces 42 = .ok (.iload_n 3, 1) := by decide +kernel
theorem dX4_addAllPlaces_43 : decode cX4_addAllPlaces 43 = .ok (.invokevirtual 40, 3) := by decide +kernel
theorem dX4_addAllPlaces_46 : decode cX4_addAllPlaces 46 = .ok (.invokevirtual 44, 3) := by decide +kernel
theorem dX4_addAllPlaces_49 : decode cX4_addAllPlaces 49 = .ok (.dup2, 1) := by decide +kernel
theorem dX4_addAllPlaces_50 : decode cX4_addAllPlaces 50 = .ok (.iaload, 1) := by decide +kernel
theorem dX4_addAllPlaces_51 : decode cX4_addAllPlaces 51 = .ok (.iconst 1, 1) := by decide +kernel
theorem dX4_addAllPlaces_52 : decode cX4_addAllPlaces 52 = .ok (.iadd, 1) := by decide +kernel
theorem dX4_addAllPlaces_53 : decode cX4_addAllPlaces 53 = .ok (.iastore, 1) := by decide +kernel
theorem dX4_addAllPlaces_54 : decode cX4_addAllPlaces 54 = .ok (.iinc 3 1, 3) := by decide +kernel
theorem dX4_addAllPlaces_57 : decode cX4_addAllPlaces 57 = .ok (.goto (-40), 3) := by decide +kernel
theorem dX4_addAllPlaces_60 : decode cX4_addAllPlaces 60 = .ok (.iinc 2 1, 3) := by decide +kernel
theorem dX4_addAllPlaces_63 : decode cX4_addAllPlaces 63 = .ok (.goto (-56), 3) := by decide +kernel
theorem dX4_addAllPlaces_66 : decode cX4_addAllPlaces 66 = .ok (.return_, 1) := by decide +kernel
theorem dX4_markShared_0 : decode cX4_markShared 0 = .ok (.aload_n 0, 1) := by decide +kernel
theorem dX4_markShared_1 : decode cX4_markShared 1 = .ok (.aload_n 1, 1) := by decide +kernel
theorem dX4_markShared_2 : decode cX4_markShared 2 = .ok (.invokevirtual 25, 3) := by decide +kernel
theorem dX4_markShared_5 : decode cX4_markShared 5 = .ok (.aload_n 0, 1) := by decide +kernel
theorem dX4_markShared_6 : decode cX4_markShared 6 = .ok (.aload_n 1, 1) := by decide +kernel
theorem dX4_markShared_7 : decode cX4_markShared 7 = .ok (.iload_n 2, 1) := by decide +kernel
theorem dX4_markShared_8 : decode cX4_markShared 8 = .ok (.iconst 1, 1) := by decide +kernel
theorem dX4_markShared_9 : decode cX4_markShared 9 = .ok (.invokevirtual 47, 3) := by decide +kernel
theorem dX4_markShared_12 : decode cX4_markShared 12 = .ok (.aload_n 0, 1) := by decide +kernel
theorem dX4_markShared_13 : decode cX4_markShared 13 = .ok (.aload_n 1, 1) := by decide +kernel
theorem dX4_markShared_14 : decode cX4_markShared 14 = .ok (.iload_n 3, 1) := by decide +kernel
theorem dX4_markShared_15 : decode cX4_markShared 15 = .ok (.iconst 2, 1) := by decide +kernel
theorem dX4_markShared_16 : decode cX4_markShared 16 = .ok (.invokevirtual 47, 3) := by decide +kernel
theorem dX4_markShared_19 : decode cX4_markShared 19 = .ok (.iconst 0, 1) := by decide +kernel
theorem dX4_markShared_20 : decode cX4_markShared 20 = .ok (.istore 4, 2) := by decide +kernel
theorem dX4_markShared_22 : decode cX4_markShared 22 = .ok (.iload 4, 2) := by decide +kernel
theorem dX4_markShared_24 : decode cX4_markShared 24 = .ok (.aload_n 0, 1) := by decide +kernel
theorem dX4_markShared_25 : decode cX4_markShared 25 = .ok (.getfield 21, 3) := by decide +kernel
theorem dX4_markShared_28 : decode cX4_markShared 28 = .ok (.if_icmp .ge 32, 3) := by decide +kernel
theorem dX4_markShared_31 : decode cX4_markShared 31 = .ok (.aload_n 0, 1) := by decide +kernel
theorem dX4_markShared_32 : decode cX4_markShared 32 = .ok (.getfield 9, 3) := by decide +kernel
theorem dX4_markShared_35 : decode cX4_markShared 35 = .ok (.iload 4, 2) := by decide +kernel
theorem dX4_markShared_37 : decode cX4_markShared 37 = .ok (.aload_n 0, 1) := by decide +kernel
theorem dX4_markShared_38 : decode cX4_markShared 38 = .ok (.getfield 9, 3) := by decide +kernel
theorem dX4_markShared_41 : decode cX4_markShared 41 = .ok (.iload 4, 2) := by decide +kernel
theorem dX4_markShared_43 : decode cX4_markShared 43 = .ok (.iaload, 1) := by decide +kernel
theorem dX4_markShared_44 : decode cX4_markShared 44 = .ok (.iconst 2, 1) := by decide +kernel
theorem dX4_markShared_45 : decode cX4_markShared 45 = .ok (.if_icmp .ne 7, 3) := by decide +kernel
theorem dX4_markShared_48 : decode cX4_markShared 48 = .ok (.iconst 1, 1) := by decide +kernel
theorem dX4_markShared_49 : decode cX4_markShared 49 = .ok (.goto 4, 3) := by decide +kernel
theorem dX4_markShared_52 : decode cX4_markShared 52 = .ok (.iconst 0, 1) := by decide +kernel
theorem dX4_markShared_53 : decode cX4_markShared 53 = .ok (.iastore, 1) := by decide +kernel
theorem dX4_markShared_54 : decode cX4_markShared 54 = .ok (.iinc 4 1, 3) := by decide +kernel
theorem dX4_markShared_57 : decode cX4_markShared 57 = .ok (.goto (-35), 3) := by decide +kernel
theorem dX4_markShared_60 : decode cX4_markShared 60 = .ok (.return_, 1) := by decide +kernel
theorem dX4_raiseMarks_0 : decode cX4_raiseMarks 0 = .ok (.iconst 0, 1) := by decide +kernel
theorem dX4_raiseMarks_1 : decode cX4_raiseMarks 1 = .ok (.istore 4, 2) := by decide +kernel
theorem dX4_raiseMarks_3 : decode cX4_raiseMarks 3 = .ok (.iload 4, 2) := by decide +kernel
theorem dX4_raiseMarks_5 : decode cX4_raiseMarks 5 = .ok (.aload_n 1, 1) := by decide +kernel
theorem dX4_raiseMarks_6 : decode cX4_raiseMarks 6 = .ok (.iload_n 2, 1) := by decide +kernel
theorem dX4_raiseMarks_7 : decode cX4_raiseMarks 7 = .ok (.invokevirtual 32, 3) := by decide +kernel
theorem dX4_raiseMarks_10 : decode cX4_raiseMarks 10 = .ok (.if_icmp .gt 53, 3) := by decide +kernel
theorem dX4_raiseMarks_13 : decode cX4_raiseMarks 13 = .ok (.aload_n 1, 1) := by decide +kernel
theorem dX4_raiseMarks_14 : decode cX4_raiseMarks 14 = .ok (.iload_n 2, 1) := by decide +kernel
theorem dX4_raiseMarks_15 : decode cX4_raiseMarks 15 = .ok (.iload 4, 2) := by decide +kernel
theorem dX4_raiseMarks_17 : decode cX4_raiseMarks 17 = .ok (.invokevirtual 36, 3) := by decide +kernel
theorem dX4_raiseMarks_20 : decode cX4_raiseMarks 20 = .ok (.ifCond .eq 37, 3) := by decide +kernel
theorem dX4_raiseMarks_23 : decode cX4_raiseMarks 23 = .ok (.aload_n 1, 1) := by decide +kernel
theorem dX4_raiseMarks_24 : decode cX4_raiseMarks 24 = .ok (.aload_n 1, 1) := by decide +kernel
theorem dX4_raiseMarks_25 : decode cX4_raiseMarks 25 = .ok (.iload_n 2, 1) := by decide +kernel
theorem dX4_raiseMarks_26 : decode cX4_raiseMarks 26 = .ok (.iload 4, 2) := by decide +kernel
theorem dX4_raiseMarks_28 : decode cX4_raiseMarks 28 = .ok (.invokevirtual 40, 3) := by decide +kernel
theorem dX4_raiseMarks_31 : decode cX4_raiseMarks 31 = .ok (.invokevirtual 44, 3) := by decide +kernel
theorem dX4_raiseMarks_34 : decode cX4_raiseMarks 34 = .ok (.istore 5, 2) := by decide +kernel
theorem dX4_raiseMarks_36 : decode cX4_raiseMarks 36 = .ok (.aload_n 0, 1) := by decide +kernel
theorem dX4_raiseMarks_37 : decode cX4_raiseMarks 37 = .ok (.getfield 9, 3) := by decide +kernel
theorem dX4_raiseMarks_40 : decode cX4_raiseMarks 40 = .ok (.iload 5, 2) := by decide +kernel
theorem dX4_raiseMarks_42 : decode cX4_raiseMarks 42 = .ok (.iaload, 1) := by decide +kernel
theorem dX4_raiseMarks_43 : decode cX4_raiseMarks 43 = .ok (.iload_n 3, 1) := by decide +kernel
theorem dX4_raiseMarks_44 : decode cX4_raiseMarks 44 = .ok (.iconst 1, 1) := by decide +kernel
theorem dX4_raiseMarks_45 : decode cX4_raiseMarks 45 = .ok (.isub, 1) := by decide +kernel
theorem dX4_raiseMarks_46 : decode cX4_raiseMarks 46 = .ok (.if_icmp .ne 11, 3) := by decide +kernel
theorem dX4_raiseMarks_49 : decode cX4_raiseMarks 49 = .ok (.aload_n 0, 1) := by decide +kernel
theorem dX4_raiseMarks_50 : decode cX4_raiseMarks 50 = .ok (.getfield 9, 3) := by decide +kernel
theorem dX4_raiseMarks_53 : decode cX4_raiseMarks 53 = .ok (.iload 5, 2) := by decide +kernel
theorem dX4_raiseMarks_55 : decode cX4_raiseMarks 55 = .ok (.iload_n 3, 1) := by decide +kernel
theorem dX4_raiseMarks_56 : decode cX4_raiseMarks 56 = .ok (.iastore, 1) := by decide +kernel
theorem dX4_raiseMarks_57 : decode cX4_raiseMarks 57 = .ok (.iinc 4 1, 3) := by decide +kernel
theorem dX4_raiseMarks_60 : decode cX4_raiseMarks 60 = .ok (.goto (-57), 3) := by decide +kernel
theorem dX4_raiseMarks_63 : decode cX4_raiseMarks 63 = .ok (.return_, 1) := by decide +kernel
theorem dX4_marked_0 : decode cX4_marked 0 = .ok (.iconst 0, 1) := by decide +kernel
theorem dX4_marked_1 : decode cX4_marked 1 = .ok (.istore_n 1, 1) := by decide +kernel
theorem dX4_marked_2 : decode cX4_marked 2 = .ok (.iconst 0, 1) := by decide +kernel
theorem dX4_marked_3 : decode cX4_marked 3 = .ok (.istore_n 2, 1) := by decide +kernel
theorem dX4_marked_4 : decode cX4_marked 4 = .ok (.iload_n 2, 1) := by decide +kernel
theorem dX4_marked_5 : decode cX4_marked 5 = .ok (.aload_n 0, 1) := by decide +kernel
theorem dX4_marked_6 : decode cX4_marked 6 = .ok (.getfield 21, 3) := by decide +kernel
theorem dX4_marked_9 : decode cX4_marked 9 = .ok (.if_icmp .ge 21, 3) := by decide +kernel
theorem dX4_marked_12 : decode cX4_marked 12 = .ok (.aload_n 0, 1) := by decide +kernel
theorem dX4_marked_13 : decode cX4_marked 13 = .ok (.getfield 9, 3) := by decide +kernel
theorem dX4_marked_16 : decode cX4_marked 16 = .ok (.iload_n 2, 1) := by decide +kernel
theorem dX4_marked_17 : decode cX4_marked 17 = .ok (.iaload, 1) := by decide +kernel
theorem dX4_marked_18 : decode cX4_marked 18 = .ok (.ifCond .eq 6, 3) := by decide +kernel
theorem dX4_marked_21 : decode cX4_marked 21 = .ok (.iinc 1 1, 3) := by decide +kernel
theorem dX4_marked_24 : decode cX4_marked 24 = .ok (.iinc 2 1, 3) := by decide +kernel
theorem dX4_marked_27 : decode cX4_marked 27 = .ok (.goto (-23), 3) := by decide +kernel
theorem dX4_marked_30 : decode cX4_marked 30 = .ok (.iload_n 1, 1) := by decide +kernel
theorem dX4_marked_31 : decode cX4_marked 31 = .ok (.ireturn, 1) := by decide +kernel
theorem dX4_markedAt_0 : decode cX4_markedAt 0 = .ok (.iconst 0, 1) := by decide +kernel
theorem dX4_markedAt_1 : decode cX4_markedAt 1 = .ok (.istore_n 2, 1) := by decide +kernel
theorem dX4_markedAt_2 : decode cX4_markedAt 2 = .ok (.iconst 0, 1) := by decide +kernel
theorem dX4_markedAt_3 : decode cX4_markedAt 3 = .ok (.istore_n 3, 1) := by decide +kernel
theorem dX4_markedAt_4 : decode cX4_markedAt 4 = .ok (.iload_n 3, 1) := by decide +kernel
theorem dX4_markedAt_5 : decode cX4_markedAt 5 = .ok (.aload_n 0, 1) := by decide +kernel
theorem dX4_markedAt_6 : decode cX4_markedAt 6 = .ok (.getfield 21, 3) := by decide +kernel
theorem dX4_markedAt_9 : decode cX4_markedAt 9 = .ok (.if_icmp .ge 28, 3) := by decide +kernel
theorem dX4_markedAt_12 : decode cX4_markedAt 12 = .ok (.aload_n 0, 1) := by decide +kernel
theorem dX4_markedAt_13 : decode cX4_markedAt 13 = .ok (.getfield 9, 3) := by decide +kernel
theorem dX4_markedAt_16 : decode cX4_markedAt 16 = .ok (.iload_n 3, 1) := by decide +kernel
theorem dX4_markedAt_17 : decode cX4_markedAt 17 = .ok (.iaload, 1) := by decide +kernel
theorem dX4_markedAt_18 : decode cX4_markedAt 18 = .ok (.ifCond .eq 13, 3) := by decide +kernel
theorem dX4_markedAt_21 : decode cX4_markedAt 21 = .ok (.iload_n 2, 1) := by decide +kernel
theorem dX4_markedAt_22 : decode cX4_markedAt 22 = .ok (.iload_n 1, 1) := by decide +kernel
theorem dX4_markedAt_23 : decode cX4_markedAt 23 = .ok (.if_icmp .ne 5, 3) := by decide +kernel
theorem dX4_markedAt_26 : decode cX4_markedAt 26 = .ok (.iload_n 3, 1) := by decide +kernel
theorem dX4_markedAt_27 : decode cX4_markedAt 27 = .ok (.ireturn, 1) := by decide +kernel
theorem dX4_markedAt_28 : decode cX4_markedAt 28 = .ok (.iinc 2 1, 3) := by decide +kernel
theorem dX4_markedAt_31 : decode cX4_markedAt 31 = .ok (.iinc 3 1, 3) := by decide +kernel
theorem dX4_markedAt_34 : decode cX4_markedAt 34 = .ok (.goto (-30), 3) := by decide +kernel
theorem dX4_markedAt_37 : decode cX4_markedAt 37 = .ok (.iconst (-1), 1) := by decide +kernel
theorem dX4_markedAt_38 : decode cX4_markedAt 38 = .ok (.ireturn, 1) := by decide +kernel
theorem dX4_times_0 : decode cX4_times 0 = .ok (.aload_n 0, 1) := by decide +kernel
theorem dX4_times_1 : decode cX4_times 1 = .ok (.getfield 9, 3) := by decide +kernel
theorem dX4_times_4 : decode cX4_times 4 = .ok (.iload_n 1, 1) := by decide +kernel
theorem dX4_times_5 : decode cX4_times 5 = .ok (.iaload, 1) := by decide +kernel
theorem dX4_times_6 : decode cX4_times 6 = .ok (.ireturn, 1) := by decide +kernel
theorem dX4_mostMarked_0 : decode cX4_mostMarked 0 = .ok (.iconst (-1), 1) := by decide +kernel
theorem dX4_mostMarked_1 : decode cX4_mostMarked 1 = .ok (.istore_n 1, 1) := by decide +kernel
theorem dX4_mostMarked_2 : decode cX4_mostMarked 2 = .ok (.iconst 0, 1) := by decide +kernel
theorem dX4_mostMarked_3 : decode cX4_mostMarked 3 = .ok (.istore_n 2, 1) := by decide +kernel
theorem dX4_mostMarked_4 : decode cX4_mostMarked 4 = .ok (.iconst 0, 1) := by decide +kernel
theorem dX4_mostMarked_5 : decode cX4_mostMarked 5 = .ok (.istore_n 3, 1) := by decide +kernel
theorem dX4_mostMarked_6 : decode cX4_mostMarked 6 = .ok (.iload_n 3, 1) := by decide +kernel
theorem dX4_mostMarked_7 : decode cX4_mostMarked 7 = .ok (.aload_n 0, 1) := by decide +kernel
theorem dX4_mostMarked_8 : decode cX4_mostMarked 8 = .ok (.getfield 21, 3) := by decide +kernel
theorem dX4_mostMarked_11 : decode cX4_mostMarked 11 = .ok (.if_icmp .ge 28, 3) := by decide +kernel
theorem dX4_mostMarked_14 : decode cX4_mostMarked 14 = .ok (.aload_n 0, 1) := by decide +kernel
theorem dX4_mostMarked_15 : decode cX4_mostMarked 15 = .ok (.getfield 9, 3) := by decide +kernel
theorem dX4_mostMarked_18 : decode cX4_mostMarked 18 = .ok (.iload_n 3, 1) := by decide +kernel
theorem dX4_mostMarked_19 : decode cX4_mostMarked 19 = .ok (.iaload, 1) := by decide +kernel
theorem dX4_mostMarked_20 : decode cX4_mostMarked 20 = .ok (.iload_n 2, 1) := by decide +kernel
theorem dX4_mostMarked_21 : decode cX4_mostMarked 21 = .ok (.if_icmp .le 12, 3) := by decide +kernel
theorem dX4_mostMarked_24 : decode cX4_mostMarked 24 = .ok (.iload_n 3, 1) := by decide +kernel
theorem dX4_mostMarked_25 : decode cX4_mostMarked 25 = .ok (.istore_n 1, 1) := by decide +kernel
theorem dX4_mostMarked_26 : decode cX4_mostMarked 26 = .ok (.aload_n 0, 1) := by decide +kernel
theorem dX4_mostMarked_27 : decode cX4_mostMarked 27 = .ok (.getfield 9, 3) := by decide +kernel
theorem dX4_mostMarked_30 : decode cX4_mostMarked 30 = .ok (.iload_n 3, 1) := by decide +kernel
theorem dX4_mostMarked_31 : decode cX4_mostMarked 31 = .ok (.iaload, 1) := by decide +kernel
theorem dX4_mostMarked_32 : decode cX4_mostMarked 32 = .ok (.istore_n 2, 1) := by decide +kernel
theorem dX4_mostMarked_33 : decode cX4_mostMarked 33 = .ok (.iinc 3 1, 3) := by decide +kernel
theorem dX4_mostMarked_36 : decode cX4_mostMarked 36 = .ok (.goto (-30), 3) := by decide +kernel
theorem dX4_mostMarked_39 : decode cX4_mostMarked 39 = .ok (.iload_n 1, 1) := by decide +kernel
theorem dX4_mostMarked_40 : decode cX4_mostMarked 40 = .ok (.ireturn, 1) := by decide +kernel
theorem dX5_init_0 : decode cX5_init 0 = .ok (.aload_n 0, 1) := by decide +kernel
theorem dX5_init_1 : decode cX5_init 1 = .ok (.invokespecial 3, 3) := by decide +kernel
theorem dX5_init_4 : decode cX5_init 4 = .ok (.return_, 1) := by decide +kernel
theorem dX5_read_0 : decode cX5_read 0 = .ok (.aload_n 0, 1) := by decide +kernel
theorem dX5_read_1 : decode cX5_read 1 = .ok (.iconst 0, 1) := by decide +kernel
theorem dX5_read_2 : decode cX5_read 2 = .ok (.putfield 9, 3) := by decide +kernel
theorem dX5_read_5 : decode cX5_read 5 = .ok (.aload_n 2, 1) := by decide +kernel
theorem dX5_read_6 : decode cX5_read 6 = .ok (.invokevirtual 15, 3) := by decide +kernel
theorem dX5_read_9 : decode cX5_read 9 = .ok (.aload_n 1, 1) := by decide +kernel
theorem dX5_read_10 : decode cX5_read 10 = .ok (.invokevirtual 20, 3) := by decide +kernel
theorem dX5_read_13 : decode cX5_read 13 = .ok (.iconst 0, 1) := by decide +kernel
theorem dX5_read_14 : decode cX5_read 14 = .ok (.istore_n 3, 1) := by decide +kernel
theorem dX5_read_15 : decode cX5_read 15 = .ok (.iload_n 3, 1) := by decide +kernel
theorem dX5_read_16 : decode cX5_read 16 = .ok (.sipush 600, 3) := by decide +kernel
theorem dX5_read_19 : decode cX5_read 19 = .ok (.if_icmp .ge 35, 3) := by decide +kernel
theorem dX5_read_22 : decode cX5_read 22 = .ok (.aload_n 1, 1) := by decide +kernel
theorem dX5_read_23 : decode cX5_read 23 = .ok (.getfield 25, 3) := by decide +kernel
theorem dX5_read_26 : decode cX5_read 26 = .ok (.ifCond .ne 28, 3) := by decide +kernel
theorem dX5_read_29 : decode cX5_read 29 = .ok (.aload_n 1, 1) := by decide +kernel
theorem dX5_read_30 : decode cX5_read 30 = .ok (.getfield 28, 3) := by decide +kernel
theorem dX5_read_33 : decode cX5_read 33 = .ok (.ifCond .eq 21, 3) := by decide +kernel
theorem dX5_read_36 : decode cX5_read 36 = .ok (.aload_n 0, 1) := by decide +kernel
theorem dX5_read_37 : decode cX5_read 37 = .ok (.aload_n 1, 1) := by decide +kernel
theorem dX5_read_38 : decode cX5_read 38 = .ok (.aload_n 2, 1) := by decide +kernel
theorem dX5_read_39 : decode cX5_read 39 = .ok (.invokevirtual 31, 3) := by decide +kernel
theorem dX5_read_42 : decode cX5_read 42 = .ok (.aload_n 1, 1) := by decide +kernel
theorem dX5_read_43 : decode cX5_read 43 = .ok (.bipush 59, 2) := by decide +kernel
theorem dX5_read_45 : decode cX5_read 45 = .ok (.invokevirtual 35, 3) := by decide +kernel
theorem dX5_read_48 : decode cX5_read 48 = .ok (.iinc 3 1, 3) := by decide +kernel
theorem dX5_read_51 : decode cX5_read 51 = .ok (.goto (-36), 3) := by decide +kernel
theorem dX5_read_54 : decode cX5_read 54 = .ok (.aload_n 1, 1) := by decide +kernel
theorem dX5_read_55 : decode cX5_read 55 = .ok (.getfield 25, 3) := by decide +kernel
theorem dX5_read_58 : decode cX5_read 58 = .ok (.ifCond .ne 7, 3) := by decide +kernel
theorem dX5_read_61 : decode cX5_read 61 = .ok (.iconst 1, 1) := by decide +kernel
theorem dX5_read_62 : decode cX5_read 62 = .ok (.goto 4, 3) := by decide +kernel
theorem dX5_read_65 : decode cX5_read 65 = .ok (.iconst 0, 1) := by decide +kernel
theorem dX5_read_66 : decode cX5_read 66 = .ok (.ireturn, 1) := by decide +kernel
theorem dX5_readStatement_0 : decode cX5_readStatement 0 = .ok (.aload_n 1, 1) := by decide +kernel
theorem dX5_readStatement_1 : decode cX5_readStatement 1 = .ok (.ldc 39, 2) := by decide +kernel
theorem dX5_readStatement_3 : decode cX5_readStatement 3 = .ok (.invokevirtual 41, 3) := by decide +kernel
theorem dX5_readStatement_6 : decode cX5_readStatement 6 = .ok (.ifCond .eq 30, 3) := by decide +kernel
theorem dX5_readStatement_9 : decode cX5_readStatement 9 = .ok (.aload_n 2, 1) := by decide +kernel
theorem dX5_readStatement_10 : decode cX5_readStatement 10 = .ok (.getfield 45, 3) := by decide +kernel
theorem dX5_readStatement_13 : decode cX5_readStatement 13 = .ok (.ifCond .le 8, 3) := by decide +kernel
theorem dX5_readStatement_16 : decode cX5_readStatement 16 = .ok (.aload_n 1, 1) := by decide +kernel
theorem dX5_readStatement_17 : decode cX5_readStatement 17 = .ok (.iconst 4, 1) := by decide +kernel
theorem dX5_readStatement_18 : decode cX5_readStatement 18 = .ok (.invokevirtual 48, 3) := by decide +kernel
theorem dX5_readStatement_21 : decode cX5_readStatement 21 = .ok (.aload_n 2, 1) := by decide +kernel
theorem dX5_readStatement_22 : decode cX5_readStatement 22 = .ok (.aload_n 0, 1) := by decide +kernel
theorem dX5_readStatement_23 : decode cX5_readStatement 23 = .ok (.aload_n 1, 1) := by decide +kernel
theorem dX5_readStatement_24 : decode cX5_readStatement 24 = .ok (.iconst 1, 1) := by decide +kernel
theorem dX5_readStatement_25 : decode cX5_readStatement 25 = .ok (.iconst 2, 1) := by decide +kernel
theorem dX5_readStatement_26 : decode cX5_readStatement 26 = .ok (.iconst 4, 1) := by decide +kernel
theorem dX5_readStatement_27 : decode cX5_readStatement 27 = .ok (.invokevirtual 52, 3) := by decide +kernel
theorem dX5_readStatement_30 : decode cX5_readStatement 30 = .ok (.putfield 56, 3) := by decide +kernel
theorem dX5_readStatement_33 : decode cX5_readStatement 33 = .ok (.goto 75, 3) := by decide +kernel
theorem dX5_readStatement_36 : decode cX5_readStatement 36 = .ok (.aload_n 1, 1) := by decide +kernel
theorem dX5_readStatement_37 : decode cX5_readStatement 37 = .ok (.ldc 58, 2) := by decide +kernel
theorem dX5_readStatement_39 : decode cX5_readStatement 39 = .ok (.invokevirtual 41, 3) := by decide +kernel
theorem dX5_readStatement_42 : decode cX5_readStatement 42 = .ok (.ifCond .eq 19, 3) := by decide +kernel
theorem dX5_readStatement_45 : decode cX5_readStatement 45 = .ok (.aload_n 2, 1) := by decide +kernel
theorem dX5_readStatement_46 : decode cX5_readStatement 46 = .ok (.aload_n 0, 1) := by decide +kernel
theorem dX5_readStatement_47 : decode cX5_readStatement 47 = .ok (.aload_n 1, 1) := by decide +kernel
theorem dX5_readStatement_48 : decode cX5_readStatement 48 = .ok (.iconst 2, 1) := by decide +kernel
theorem dX5_readStatement_49 : decode cX5_readStatement 49 = .ok (.iconst 2, 1) := by decide +kernel
theorem dX5_readStatement_50 : decode cX5_readStatement 50 = .ok (.bipush 6, 2) := by decide +kernel
theorem dX5_readStatement_52 : decode cX5_readStatement 52 = .ok (.invokevirtual 52, 3) := by decide +kernel
theorem dX5_readStatement_55 : decode cX5_readStatement 55 = .ok (.putfield 60, 3) := by decide +kernel
theorem dX5_readStatement_58 : decode cX5_readStatement 58 = .ok (.goto 50, 3) := by decide +kernel
theorem dX5_readStatement_61 : decode cX5_readStatement 61 = .ok (.aload_n 1, 1) := by decide +kernel
theorem dX5_readStatement_62 : decode cX5_readStatement 62 = .ok (.ldc 62, 2) := by decide +kernel
theorem dX5_readStatement_64 : decode cX5_readStatement 64 = .ok (.invokevirtual 41, 3) := by decide +kernel
theorem dX5_readStatement_67 : decode cX5_readStatement 67 = .ok (.ifCond .eq 18, 3) := by decide +kernel
theorem dX5_readStatement_70 : decode cX5_readStatement 70 = .ok (.aload_n 2, 1) := by decide +kernel
theorem dX5_readStatement_71 : decode cX5_readStatement 71 = .ok (.aload_n 0, 1) := by decide +kernel
theorem dX5_readStatement_72 : decode cX5_readStatement 72 = .ok (.aload_n 1, 1) := by decide +kernel
theorem dX5_readStatement_73 : decode cX5_readStatement 73 = .ok (.iconst 4, 1) := by decide +kernel
theorem dX5_readStatement_74 : decode cX5_readStatement 74 = .ok (.iconst 0, 1) := by decide +kernel
theorem dX5_readStatement_75 : decode cX5_readStatement 75 = .ok (.iconst 3, 1) := by decide +kernel
theorem dX5_readStatement_76 : decode cX5_readStatement 76 = .ok (.invokevirtual 52, 3) := by decide +kernel
theorem dX5_readStatement_79 : decode cX5_readStatement 79 = .ok (.putfield 64, 3) := by decide +kernel
theorem dX5_readStatement_82 : decode cX5_readStatement 82 = .ok (.goto 26, 3) := by decide +kernel
theorem dX5_readStatement_85 : decode cX5_readStatement 85 = .ok (.aload_n 1, 1) := by decide +kernel
theorem dX5_readStatement_86 : decode cX5_readStatement 86 = .ok (.ldc 66, 2) := by decide +kernel
theorem dX5_readStatement_88 : decode cX5_readStatement 88 = .ok (.invokevirtual 41, 3) := by decide +kernel
theorem dX5_readStatement_91 : decode cX5_readStatement 91 = .ok (.ifCond .eq 12, 3) := by decide +kernel
theorem dX5_readStatement_94 : decode cX5_readStatement 94 = .ok (.aload_n 0, 1) := by decide +kernel
theorem dX5_readStatement_95 : decode cX5_readStatement 95 = .ok (.aload_n 1, 1) := by decide +kernel
theorem dX5_readStatement_96 : decode cX5_readStatement 96 = .ok (.aload_n 2, 1) := by decide +kernel
theorem dX5_readStatement_97 : decode cX5_readStatement 97 = .ok (.invokevirtual 68, 3) := by decide +kernel
theorem dX5_readStatement_100 : decode cX5_readStatement 100 = .ok (.goto 8, 3) := by decide +kernel
theorem dX5_readStatement_103 : decode cX5_readStatement 103 = .ok (.aload_n 1, 1) := by decide +kernel
theorem dX5_readStatement_104 : decode cX5_readStatement 104 = .ok (.iconst 1, 1) := by decide +kernel
theorem dX5_readStatement_105 : decode cX5_readStatement 105 = .ok (.invokevirtual 48, 3) := by decide +kernel
theorem dX5_readStatement_108 : decode cX5_readStatement 108 = .ok (.return_, 1) := by decide +kernel
theorem dX5_readSetting_0 : decode cX5_readSetting 0 = .ok (.aload_n 0, 1) := by decide +kernel
theorem dX5_readSetting_1 : decode cX5_readSetting 1 = .ok (.getfield 9, 3) := by decide +kernel
theorem dX5_readSetting_4 : decode cX5_readSetting 4 = .ok (.iload_n 2, 1) := by decide +kernel
theorem dX5_readSetting_5 : decode cX5_readSetting 5 = .ok (.iand, 1) := by decide +kernel
theorem dX5_readSetting_6 : decode cX5_readSetting 6 = .ok (.ifCond .eq 8, 3) := by decide +kernel
theorem dX5_readSetting_9 : decode cX5_readSetting 9 = .ok (.aload_n 1, 1) := by decide +kernel
theorem dX5_readSetting_10 : decode cX5_readSetting 10 = .ok (.iconst 4, 1) := by decide +kernel
theorem dX5_readSetting_11 : decode cX5_readSetting 11 = .ok (.invokevirtual 48, 3) := by decide +kernel
theorem dX5_readSetting_14 : decode cX5_readSetting 14 = .ok (.aload_n 0, 1) := by decide +kernel
theorem dX5_readSetting_15 : decode cX5_readSetting 15 = .ok (.dup, 1) := by decide +kernel
theorem dX5_readSetting_16 : decode cX5_readSetting 16 = .ok (.getfield 9, 3) := by decide +kernel
theorem dX5_readSetting_19 : decode cX5_readSetting 19 = .ok (.iload_n 2, 1) := by decide +kernel
theorem dX5_readSetting_20 : decode cX5_readSetting 20 = .ok (.ior, 1) := by decide +kernel
theorem dX5_readSetting_21 : decode cX5_readSetting 21 = .ok (.putfield 9, 3) := by decide +kernel
theorem dX5_readSetting_24 : decode cX5_readSetting 24 = .ok (.aload_n 1, 1) := by decide +kernel
theorem dX5_readSetting_25 : decode cX5_readSetting 25 = .ok (.invokevirtual 71, 3) := by decide +kernel
theorem dX5_readSetting_28 : decode cX5_readSetting 28 = .ok (.aload_n 1, 1) := by decide +kernel
theorem dX5_readSetting_29 : decode cX5_readSetting 29 = .ok (.iload_n 3, 1) := by decide +kernel
theorem dX5_readSetting_30 : decode cX5_readSetting 30 = .ok (.iload 4, 2) := by decide +kernel
theorem dX5_readSetting_32 : decode cX5_readSetting 32 = .ok (.invokevirtual 74, 3) := by decide +kernel
theorem dX5_readSetting_35 : decode cX5_readSetting 35 = .ok (.ireturn, 1) := by decide +kernel
theorem dX5_readRow_0 : decode cX5_readRow 0 = .ok (.aload_n 2, 1) := by decide +kernel
theorem dX5_readRow_1 : decode cX5_readRow 1 = .ok (.getfield 45, 3) := by decide +kernel
theorem dX5_readRow_4 : decode cX5_readRow 4 = .ok (.bipush 10, 2) := by decide +kernel
theorem dX5_readRow_6 : decode cX5_readRow 6 = .ok (.if_icmp .ne 9, 3) := by decide +kernel
theorem dX5_readRow_9 : decode cX5_readRow 9 = .ok (.aload_n 1, 1) := by decide +kernel
theorem dX5_readRow_10 : decode cX5_readRow 10 = .ok (.bipush 6, 2) := by decide +kernel
theorem dX5_readRow_12 : decode cX5_readRow 12 = .ok (.invokevirtual 48, 3) := by decide +kernel
theorem dX5_readRow_15 : decode cX5_readRow 15 = .ok (.aload_n 1, 1) := by decide +kernel
theorem dX5_readRow_16 : decode cX5_readRow 16 = .ok (.invokevirtual 71, 3) := by decide +kernel
theorem dX5_readRow_19 : decode cX5_readRow 19 = .ok (.aload_n 1, 1) := by decide +kernel
theorem dX5_readRow_20 : decode cX5_readRow 20 = .ok (.invokevirtual 78, 3) := by decide +kernel
theorem dX5_readRow_23 : decode cX5_readRow 23 = .ok (.lstore_n 3, 1) := by decide +kernel
theorem dX5_readRow_24 : decode cX5_readRow 24 = .ok (.lload_n 3, 1) := by decide +kernel
theorem dX5_readRow_25 : decode cX5_readRow 25 = .ok (.lconst 0, 1) := by decide +kernel
theorem dX5_readRow_26 : decode cX5_readRow 26 = .ok (.lcmp, 1) := by decide +kernel
theorem dX5_readRow_27 : decode cX5_readRow 27 = .ok (.ifCond .ne 11, 3) := by decide +kernel
theorem dX5_readRow_30 : decode cX5_readRow 30 = .ok (.aload_n 1, 1) := by decide +kernel
theorem dX5_readRow_31 : decode cX5_readRow 31 = .ok (.iconst 1, 1) := by decide +kernel
theorem dX5_readRow_32 : decode cX5_readRow 32 = .ok (.invokevirtual 48, 3) := by decide +kernel
theorem dX5_readRow_35 : decode cX5_readRow 35 = .ok (.goto 17, 3) := by decide +kernel
theorem dX5_readRow_38 : decode cX5_readRow 38 = .ok (.aload_n 2, 1) := by decide +kernel
theorem dX5_readRow_39 : decode cX5_readRow 39 = .ok (.lload_n 3, 1) := by decide +kernel
theorem dX5_readRow_40 : decode cX5_readRow 40 = .ok (.invokevirtual 82, 3) := by decide +kernel
theorem dX5_readRow_43 : decode cX5_readRow 43 = .ok (.iconst (-1), 1) := by decide +kernel
theorem dX5_readRow_44 : decode cX5_readRow 44 = .ok (.if_icmp .eq 8, 3) := by decide +kernel
theorem dX5_readRow_47 : decode cX5_readRow 47 = .ok (.aload_n 1, 1) := by decide +kernel
theorem dX5_readRow_48 : decode cX5_readRow 48 = .ok (.iconst 3, 1) := by decide +kernel
theorem dX5_readRow_49 : decode cX5_readRow 49 = .ok (.invokevirtual 48, 3) := by decide +kernel
theorem dX5_readRow_52 : decode cX5_readRow 52 = .ok (.aload_n 1, 1) := by decide +kernel
theorem dX5_readRow_53 : decode cX5_readRow 53 = .ok (.invokevirtual 71, 3) := by decide +kernel
theorem dX5_readRow_56 : decode cX5_readRow 56 = .ok (.aload_n 1, 1) := by decide +kernel
theorem dX5_readRow_57 : decode cX5_readRow 57 = .ok (.invokevirtual 86, 3) := by decide +kernel
theorem dX5_readRow_60 : decode cX5_readRow 60 = .ok (.istore 5, 2) := by decide +kernel
theorem dX5_readRow_62 : decode cX5_readRow 62 = .ok (.aload_n 1, 1) := by decide +kernel
theorem dX5_readRow_63 : decode cX5_readRow 63 = .ok (.aload_n 2, 1) := by decide +kernel
theorem dX5_readRow_64 : decode cX5_readRow 64 = .ok (.getfield 56, 3) := by decide +kernel
theorem dX5_readRow_67 : decode cX5_readRow 67 = .ok (.invokevirtual 90, 3) := by decide +kernel
theorem dX5_readRow_70 : decode cX5_readRow 70 = .ok (.lstore 6, 2) := by decide +kernel
theorem dX5_readRow_72 : decode cX5_readRow 72 = .ok (.iload 5, 2) := by decide +kernel
theorem dX5_readRow_74 : decode cX5_readRow 74 = .ok (.ifCond .ne 11, 3) := by decide +kernel
theorem dX5_readRow_77 : decode cX5_readRow 77 = .ok (.aload_n 1, 1) := by decide +kernel
theorem dX5_readRow_78 : decode cX5_readRow 78 = .ok (.iconst 1, 1) := by decide +kernel
theorem dX5_readRow_79 : decode cX5_readRow 79 = .ok (.invokevirtual 48, 3) := by decide +kernel
theorem dX5_readRow_82 : decode cX5_readRow 82 = .ok (.goto 31, 3) := by decide +kernel
theorem dX5_readRow_85 : decode cX5_readRow 85 = .ok (.iload 5, 2) := by decide +kernel
theorem dX5_readRow_87 : decode cX5_readRow 87 = .ok (.iconst 1, 1) := by decide +kernel
theorem dX5_readRow_88 : decode cX5_readRow 88 = .ok (.if_icmp .ne 11, 3) := by decide +kernel
theorem dX5_readRow_91 : decode cX5_readRow 91 = .ok (.aload_n 1, 1) := by decide +kernel
theorem dX5_readRow_92 : decode cX5_readRow 92 = .ok (.iconst 2, 1) := by decide +kernel
theorem dX5_readRow_93 : decode cX5_readRow 93 = .ok (.invokevirtual 48, 3) := by decide +kernel
theorem dX5_readRow_96 : decode cX5_readRow 96 = .ok (.goto 17, 3) := by decide +kernel
theorem dX5_readRow_99 : decode cX5_readRow 99 = .ok (.lload 6, 2) := by decide +kernel
theorem dX5_readRow_101 : decode cX5_readRow 101 = .ok (.ldc2_w 94, 3) := by decide +kernel
theorem dX5_readRow_104 : decode cX5_readRow 104 = .ok (.lcmp, 1) := by decide +kernel
theorem dX5_readRow_105 : decode cX5_readRow 105 = .ok (.ifCond .ne 8, 3) := by decide +kernel
theorem dX5_readRow_108 : decode cX5_readRow 108 = .ok (.aload_n 1, 1) := by decide +kernel
theorem dX5_readRow_109 : decode cX5_readRow 109 = .ok (.iconst 3, 1) := by decide +kernel
theorem dX5_readRow_110 : decode cX5_readRow 110 = .ok (.invokevirtual 48, 3) := by decide +kernel
theorem dX5_readRow_113 : decode cX5_readRow 113 = .ok (.aload_n 1, 1) := by decide +kernel
theorem dX5_readRow_114 : decode cX5_readRow 114 = .ok (.invokevirtual 71, 3) := by decide +kernel
theorem dX5_readRow_117 : decode cX5_readRow 117 = .ok (.aload_n 1, 1) := by decide +kernel
theorem dX5_readRow_118 : decode cX5_readRow 118 = .ok (.getfield 25, 3) := by decide +kernel
theorem dX5_readRow_121 : decode cX5_readRow 121 = .ok (.ifCond .ne 12, 3) := by decide +kernel
theorem dX5_readRow_124 : decode cX5_readRow 124 = .ok (.aload_n 2, 1) := by decide +kernel
theorem dX5_readRow_125 : decode cX5_readRow 125 = .ok (.lload_n 3, 1) := by decide +kernel
theorem dX5_readRow_126 : decode cX5_readRow 126 = .ok (.lload 6, 2) := by decide +kernel
theorem dX5_readRow_128 : decode cX5_readRow 128 = .ok (.iload 5, 2) := by decide +kernel
theorem dX5_readRow_130 : decode cX5_readRow 130 = .ok (.invokevirtual 96, 3) := by decide +kernel
theorem dX5_readRow_133 : decode cX5_readRow 133 = .ok (.return_, 1) := by decide +kernel
theorem dX6_init_0 : decode cX6_init 0 = .ok (.aload_n 0, 1) := by decide +kernel
theorem dX6_init_1 : decode cX6_init 1 = .ok (.invokespecial 3, 3) := by decide +kernel
theorem dX6_init_4 : decode cX6_init 4 = .ok (.aload_n 0, 1) := by decide +kernel
theorem dX6_init_5 : decode cX6_init 5 = .ok (.sipush 600, 3) := by decide +kernel
theorem dX6_init_8 : decode cX6_init 8 = .ok (.newarray .byte, 2) := by decide +kernel
theorem dX6_init_10 : decode cX6_init 10 = .ok (.putfield 9, 3) := by decide +kernel
theorem dX6_init_13 : decode cX6_init 13 = .ok (.aload_n 0, 1) := by decide +kernel
theorem dX6_init_14 : decode cX6_init 14 = .ok (.iconst (-1), 1) := by decide +kernel
theorem dX6_init_15 : decode cX6_init 15 = .ok (.putfield 15, 3) := by decide +kernel
theorem dX6_init_18 : decode cX6_init 18 = .ok (.return_, 1) := by decide +kernel
theorem dX6_append_0 : decode cX6_append 0 = .ok (.bipush 24, 2) := by decide +kernel
theorem dX6_append_2 : decode cX6_append 2 = .ok (.istore_n 2, 1) := by decide +kernel
theorem dX6_append_3 : decode cX6_append 3 = .ok (.iload_n 2, 1) := by decide +kernel
theorem dX6_append_4 : decode cX6_append 4 = .ok (.ifCond .lt 42, 3) := by decide +kernel
theorem dX6_append_7 : decode cX6_append 7 = .ok (.aload_n 0, 1) := by decide +kernel
theorem dX6_append_8 : decode cX6_append 8 = .ok (.getfield 19, 3) := by decide +kernel
theorem dX6_append_11 : decode cX6_append 11 = .ok (.sipush 600, 3) := by decide +kernel
theorem dX6_append_14 : decode cX6_append 14 = .ok (.if_icmp .ge 32, 3) := by decide +kernel
theorem dX6_append_17 : decode cX6_append 17 = .ok (.aload_n 0, 1) := by decide +kernel
theorem dX6_append_18 : decode cX6_append 18 = .ok (.getfield 9, 3) := by decide +kernel
theorem dX6_append_21 : decode cX6_append 21 = .ok (.aload_n 0, 1) := by decide +kernel
theorem dX6_append_22 : decode cX6_append 22 = .ok (.getfield 19, 3) := by decide +kernel
theorem dX6_append_25 : decode cX6_append 25 = .ok (.iload_n 1, 1) := by decide +kernel
theorem dX6_append_26 : decode cX6_append 26 = .ok (.iload_n 2, 1) := by decide +kernel
theorem dX6_append_27 : decode cX6_append 27 = .ok (.iushr, 1) := by decide +kernel
theorem dX6_append_28 : decode cX6_append 28 = .ok (.i2b, 1) := by decide +kernel
theorem dX6_append_29 : decode cX6_append 29 = .ok (.bastore, 1) := by decide +kernel
theorem dX6_append_30 : decode cX6_append 30 = .ok (.aload_n 0, 1) := by decide +kernel
theorem dX6_append_31 : decode cX6_append 31 = .ok (.dup, 1) := by decide +kernel
theorem dX6_append_32 : decode cX6_append 32 = .ok (.getfield 19, 3) := by decide +kernel
theorem dX6_append_35 : decode cX6_append 35 = .ok (.iconst 1, 1) := by decide +kernel
theorem dX6_append_36 : decode cX6_append 36 = .ok (.iadd, 1) := by decide +kernel
theorem dX6_append_37 : decode cX6_append 37 = .ok (.putfield 19, 3) := by decide +kernel
theorem dX6_append_40 : decode cX6_append 40 = .ok (.iinc 2 (-8), 3) := by decide +kernel
theorem dX6_append_43 : decode cX6_append 43 = .ok (.goto (-40), 3) := by decide +kernel
theorem dX6_append_46 : decode cX6_append 46 = .ok (.return_, 1) := by decide +kernel
theorem dX6_begin_0 : decode cX6_begin 0 = .ok (.aload_n 0, 1) := by decide +kernel
theorem dX6_begin_1 : decode cX6_begin 1 = .ok (.iconst 0, 1) := by decide +kernel
theorem dX6_begin_2 : decode cX6_begin 2 = .ok (.putfield 22, 3) := by decide +kernel
theorem dX6_begin_5 : decode cX6_begin 5 = .ok (.aload_n 0, 1) := by decide +kernel
theorem dX6_begin_6 : decode cX6_begin 6 = .ok (.iconst (-1), 1) := by decide +kernel
theorem dX6_begin_7 : decode cX6_begin 7 = .ok (.putfield 15, 3) := by decide +kernel
theorem dX6_begin_10 : decode cX6_begin 10 = .ok (.aload_n 0, 1) := by decide +kernel
theorem dX6_begin_11 : decode cX6_begin 11 = .ok (.iconst 0, 1) := by decide +kernel
theorem dX6_begin_12 : decode cX6_begin 12 = .ok (.putfield 25, 3) := by decide +kernel
theorem dX6_begin_15 : decode cX6_begin 15 = .ok (.aload_n 0, 1) := by decide +kernel
theorem dX6_begin_16 : decode cX6_begin 16 = .ok (.invokevirtual 28, 3) := by decide +kernel
theorem dX6_begin_19 : decode cX6_begin 19 = .ok (.return_, 1) := by decide +kernel
theorem dX6_next_0 : decode cX6_next 0 = .ok (.aload_n 0, 1) := by decide +kernel
theorem dX6_next_1 : decode cX6_next 1 = .ok (.aload_n 0, 1) := by decide +kernel
theorem dX6_next_2 : decode cX6_next 2 = .ok (.getfield 25, 3) := by decide +kernel
theorem dX6_next_5 : decode cX6_next 5 = .ok (.putfield 31, 3) := by decide +kernel
theorem dX6_next_8 : decode cX6_next 8 = .ok (.aload_n 0, 1) := by decide +kernel
theorem dX6_next_9 : decode cX6_next 9 = .ok (.getfield 31, 3) := by decide +kernel
theorem dX6_next_12 : decode cX6_next 12 = .ok (.aload_n 0, 1) := by decide +kernel
theorem dX6_next_13 : decode cX6_next 13 = .ok (.getfield 19, 3) := by decide +kernel
theorem dX6_next_16 : decode cX6_next 16 = .ok (.if_icmp .ge 31, 3) := by decide +kernel
theorem dX6_next_19 : decode cX6_next 19 = .ok (.aload_n 0, 1) := by decide +kernel
theorem dX6_next_20 : decode cX6_next 20 = .ok (.getfield 9, 3) := by decide +kernel
theorem dX6_next_23 : decode cX6_next 23 = .ok (.aload_n 0, 1) := by decide +kernel
theorem dX6_next_24 : decode cX6_next 24 = .ok (.getfield 31, 3) := by decide +kernel
theorem dX6_next_27 : decode cX6_next 27 = .ok (.baload, 1) := by decide +kernel
theorem dX6_next_28 : decode cX6_next 28 = .ok (.invokestatic 34, 3) := by decide +kernel
theorem dX6_next_31 : decode cX6_next 31 = .ok (.ifCond .eq 16, 3) := by decide +kernel
theorem dX6_next_34 : decode cX6_next 34 = .ok (.aload_n 0, 1) := by decide +kernel
theorem dX6_next_35 : decode cX6_next 35 = .ok (.dup, 1) := by decide +kernel
theorem dX6_next_36 : decode cX6_next 36 = .ok (.getfield 31, 3) := by decide +kernel
theorem dX6_next_39 : decode cX6_next 39 = .ok (.iconst 1, 1) := by decide +kernel
theorem dX6_next_40 : decode cX6_next 40 = .ok (.iadd, 1) := by decide +kernel
theorem dX6_next_41 : decode cX6_next 41 = .ok (.putfield 31, 3) := by decide +kernel
theorem dX6_next_44 : decode cX6_next 44 = .ok (.goto (-36), 3) := by decide +kernel
theorem dX6_next_47 : decode cX6_next 47 = .ok (.aload_n 0, 1) := by decide +kernel
theorem dX6_next_48 : decode cX6_next 48 = .ok (.aload_n 0, 1) := by decide +kernel
theorem dX6_next_49 : decode cX6_next 49 = .ok (.getfield 31, 3) := by decide +kernel
theorem dX6_next_52 : decode cX6_next 52 = .ok (.putfield 25, 3) := by decide +kernel
theorem dX6_next_55 : decode cX6_next 55 = .ok (.aload_n 0, 1) := by decide +kernel
theorem dX6_next_56 : decode cX6_next 56 = .ok (.getfield 31, 3) := by decide +kernel
theorem dX6_next_59 : decode cX6_next 59 = .ok (.aload_n 0, 1) := by decide +kernel
theorem dX6_next_60 : decode cX6_next 60 = .ok (.getfield 19, 3) := by decide +kernel
theorem dX6_next_63 : decode cX6_next 63 = .ok (.if_icmp .lt 11, 3) := by decide +kernel
theorem dX6_next_66 : decode cX6_next 66 = .ok (.aload_n 0, 1) := by decide +kernel
theorem dX6_next_67 : decode cX6_next 67 = .ok (.iconst 0, 1) := by decide +kernel
theorem dX6_next_68 : decode cX6_next 68 = .ok (.putfield 38, 3) := by decide +kernel
theorem dX6_next_71 : decode cX6_next 71 = .ok (.goto 81, 3) := by decide +kernel
theorem dX6_next_74 : decode cX6_next 74 = .ok (.aload_n 0, 1) := by decide +kernel
theorem dX6_next_75 : decode cX6_next 75 = .ok (.getfield 9, 3) := by decide +kernel
theorem dX6_next_78 : decode cX6_next 78 = .ok (.aload_n 0, 1) := by decide +kernel
theorem dX6_next_79 : decode cX6_next 79 = .ok (.getfield 31, 3) := by decide +kernel
theorem dX6_next_82 : decode cX6_next 82 = .ok (.baload, 1) := by decide +kernel
theorem dX6_next_83 : decode cX6_next 83 = .ok (.invokestatic 41, 3) := by decide +kernel
theorem dX6_next_86 : decode cX6_next 86 = .ok (.ifCond .eq 10, 3) := by decide +kernel
theorem dX6_next_89 : decode cX6_next 89 = .ok (.aload_n 0, 1) := by decide +kernel
theorem dX6_next_90 : decode cX6_next 90 = .ok (.invokevirtual 44, 3) := by decide +kernel
theorem dX6_next_93 : decode cX6_next 93 = .ok (.goto 59, 3) := by decide +kernel
theorem dX6_next_96 : decode cX6_next 96 = .ok (.aload_n 0, 1) := by decide +kernel
theorem dX6_next_97 : decode cX6_next 97 = .ok (.getfield 9, 3) := by decide +kernel
theorem dX6_next_100 : decode cX6_next 100 = .ok (.aload_n 0, 1) := by decide +kernel
theorem dX6_next_101 : decode cX6_next 101 = .ok (.getfield 31, 3) := by decide +kernel
theorem dX6_next_104 : decode cX6_next 104 = .ok (.baload, 1) := by decide +kernel
theorem dX6_next_105 : decode cX6_next 105 = .ok (.invokestatic 47, 3) := by decide +kernel
theorem dX6_next_108 : decode cX6_next 108 = .ok (.ifCond .eq 10, 3) := by decide +kernel
theorem dX6_next_111 : decode cX6_next 111 = .ok (.aload_n 0, 1) := by decide +kernel
theorem dX6_next_112 : decode cX6_next 112 = .ok (.invokevirtual 50, 3) := by decide +kernel
theorem dX6_next_115 : decode cX6_next 115 = .ok (.goto 37, 3) := by decide +kernel
theorem dX6_next_118 : decode cX6_next 118 = .ok (.aload_n 0, 1) := by decide +kernel
theorem dX6_next_119 : decode cX6_next 119 = .ok (.aload_n 0, 1) := by decide +kernel
theorem dX6_next_120 : decode cX6_next 120 = .ok (.getfield 9, 3) := by decide +kernel
theorem dX6_next_123 : decode cX6_next 123 = .ok (.aload_n 0, 1) := by decide +kernel
theorem dX6_next_124 : decode cX6_next 124 = .ok (.getfield 31, 3) := by decide +kernel
theorem dX6_next_127 : decode cX6_next 127 = .ok (.baload, 1) := by decide +kernel
theorem dX6_next_128 : decode cX6_next 128 = .ok (.invokestatic 53, 3) := by decide +kernel
theorem dX6_next_131 : decode cX6_next 131 = .ok (.ifCond .eq 7, 3) := by decide +kernel
theorem dX6_next_134 : decode cX6_next 134 = .ok (.iconst 3, 1) := by decide +kernel
theorem dX6_next_135 : decode cX6_next 135 = .ok (.goto 4, 3) := by decide +kernel
theorem dX6_next_138 : decode cX6_next 138 = .ok (.iconst 4, 1) := by decide +kernel
theorem dX6_next_139 : decode cX6_next 139 = .ok (.putfield 38, 3) := by decide +kernel
theorem dX6_next_142 : decode cX6_next 142 = .ok (.aload_n 0, 1) := by decide +kernel
theorem dX6_next_143 : decode cX6_next 143 = .ok (.aload_n 0, 1) := by decide +kernel
theorem dX6_next_144 : decode cX6_next 144 = .ok (.getfield 31, 3) := by decide +kernel
theorem dX6_next_147 : decode cX6_next 147 = .ok (.iconst 1, 1) := by decide +kernel
theorem dX6_next_148 : decode cX6_next 148 = .ok (.iadd, 1) := by decide +kernel
theorem dX6_next_149 : decode cX6_next 149 = .ok (.putfield 25, 3) := by decide +kernel
theorem dX6_next_152 : decode cX6_next 152 = .ok (.return_, 1) := by decide +kernel
theorem dX6_readWord_0 : decode cX6_readWord 0 = .ok (.aload_n 0, 1) := by decide +kernel
theorem dX6_readWord_1 : decode cX6_readWord 1 = .ok (.getfield 25, 3) := by decide +kernel
theorem dX6_readWord_4 : decode cX6_readWord 4 = .ok (.aload_n 0, 1) := by decide +kernel
theorem dX6_readWord_5 : decode cX6_readWord 5 = .ok (.getfield 19, 3) := by decide +kernel
theorem dX6_readWord_8 : decode cX6_readWord 8 = .ok (.if_icmp .ge 31, 3) := by decide +kernel
theorem dX6_readWord_11 : decode cX6_readWord 11 = .ok (.aload_n 0, 1) := by decide +kernel
theorem dX6_readWord_12 : decode cX6_readWord 12 = .ok (.getfield 9, 3) := by decide +kernel
theorem dX6_readWord_15 : decode cX6_readWord 15 = .ok (.aload_n 0, 1) := by decide +kernel
theorem dX6_readWord_16 : decode cX6_readWord 16 = .ok (.getfield 25, 3) := by decide +kernel
theorem dX6_readWord_19 : decode cX6_readWord 19 = .ok (.baload, 1) := by decide +kernel
theorem dX6_readWord_20 : decode cX6_readWord 20 = .ok (.invokestatic 41, 3) := by decide +kernel
theorem dX6_readWord_23 : decode cX6_readWord 23 = .ok (.ifCond .eq 16, 3) := by decide +kernel
theorem dX6_readWord_26 : decode cX6_readWord 26 = .ok (.aload_n 0, 1) := by decide +kernel
theorem dX6_readWord_27 : decode cX6_readWord 27 = .ok (.dup, 1) := by decide +kernel
theorem dX6_readWord_28 : decode cX6_readWord 28 = .ok (.getfield 25, 3) := by decide +kernel
theorem dX6_readWord_31 : decode cX6_readWord 31 = .ok (.iconst 1, 1) := by decide +kernel
theorem dX6_readWord_32 : decode cX6_readWord 32 = .ok (.iadd, 1) := by decide +kernel
theorem dX6_readWord_33 : decode cX6_readWord 33 = .ok (.putfield 25, 3) := by decide +kernel
theorem dX6_readWord_36 : decode cX6_readWord 36 = .ok (.goto (-36), 3) := by decide +kernel
theorem dX6_readWord_39 : decode cX6_readWord 39 = .ok (.aload_n 0, 1) := by decide +kernel
theorem dX6_readWord_40 : decode cX6_readWord 40 = .ok (.aload_n 0, 1) := by decide +kernel
theorem dX6_readWord_41 : decode cX6_readWord 41 = .ok (.getfield 25, 3) := by decide +kernel
theorem dX6_readWord_44 : decode cX6_readWord 44 = .ok (.aload_n 0, 1) := by decide +kernel
theorem dX6_readWord_45 : decode cX6_readWord 45 = .ok (.getfield 31, 3) := by decide +kernel
theorem dX6_readWord_48 : decode cX6_readWord 48 = .ok (.isub, 1) := by decide +kernel
theorem dX6_readWord_49 : decode cX6_readWord 49 = .ok (.bipush 30, 2) := by decide +kernel
theorem dX6_readWord_51 : decode cX6_readWord 51 = .ok (.if_icmp .le 7, 3) := by decide +kernel
theorem dX6_readWord_54 : decode cX6_readWord 54 = .ok (.iconst 4, 1) := by decide +kernel
theorem dX6_readWord_55 : decode cX6_readWord 55 = .ok (.goto 4, 3) := by decide +kernel
theorem dX6_readWord_58 : decode cX6_readWord 58 = .ok (.iconst 1, 1) := by decide +kernel
theorem dX6_readWord_59 : decode cX6_readWord 59 = .ok (.putfield 38, 3) := by decide +kernel
theorem dX6_readWord_62 : decode cX6_readWord 62 = .ok (.return_, 1) := by decide +kernel
theorem dX6_readNumber_0 : decode cX6_readNumber 0 = .ok (.aload_n 0, 1) := by decide +kernel
theorem dX6_readNumber_1 : decode cX6_readNumber 1 = .ok (.iconst 0, 1) := by decide +kernel
theorem dX6_readNumber_2 : decode cX6_readNumber 2 = .ok (.putfield 56, 3) := by decide +kernel
theorem dX6_readNumber_5 : decode cX6_readNumber 5 = .ok (.aload_n 0, 1) := by decide +kernel
theorem dX6_readNumber_6 : decode cX6_readNumber 6 = .ok (.getfield 25, 3) := by decide +kernel
theorem dX6_readNumber_9 : decode cX6_readNumber 9 = .ok (.aload_n 0, 1) := by decide +kernel
theorem dX6_readNumber_10 : decode cX6_readNumber 10 = .ok (.getfield 19, 3) := by decide +kernel
theorem dX6_readNumber_13 : decode cX6_readNumber 13 = .ok (.if_icmp .ge 55, 3) := by decide +kernel
theorem dX6_readNumber_16 : decode cX6_readNumber 16 = .ok (.aload_n 0, 1) := by decide +kernel
theorem dX6_readNumber_17 : decode cX6_readNumber 17 = .ok (.getfield 9, 3) := by decide +kernel
theorem dX6_readNumber_20 : decode cX6_readNumber 20 = .ok (.aload_n 0, 1) := by decide +kernel
theorem dX6_readNumber_21 : decode cX6_readNumber 21 = .ok (.getfield 25, 3) := by decide +kernel
theorem dX6_readNumber_24 : decode cX6_readNumber 24 = .ok (.baload, 1) := by decide +kernel
theorem dX6_readNumber_25 : decode cX6_readNumber 25 = .ok (.invokestatic 47, 3) := by decide +kernel
theorem dX6_readNumber_28 : decode cX6_readNumber 28 = .ok (.ifCond .eq 40, 3) := by decide +kernel
theorem dX6_readNumber_31 : decode cX6_readNumber 31 = .ok (.aload_n 0, 1) := by decide +kernel
theorem dX6_readNumber_32 : decode cX6_readNumber 32 = .ok (.bipush 10, 2) := by decide +kernel
theorem dX6_readNumber_34 : decode cX6_readNumber 34 = .ok (.aload_n 0, 1) := by decide +kernel
theorem dX6_readNumber_35 : decode cX6_readNumber 35 = .ok (.getfield 56, 3) := by decide +kernel
theorem dX6_readNumber_38 : decode cX6_readNumber 38 = .ok (.imul, 1) := by decide +kernel
theorem dX6_readNumber_39 : decode cX6_readNumber 39 = .ok (.aload_n 0, 1) := by decide +kernel
theorem dX6_readNumber_40 : decode cX6_readNumber 40 = .ok (.getfield 9, 3) := by decide +kernel
theorem dX6_readNumber_43 : decode cX6_readNumber 43 = .ok (.aload_n 0, 1) := by decide +kernel
theorem dX6_readNumber_44 : decode cX6_readNumber 44 = .ok (.getfield 25, 3) := by decide +kernel
theorem dX6_readNumber_47 : decode cX6_readNumber 47 = .ok (.baload, 1) := by decide +kernel
theorem dX6_readNumber_48 : decode cX6_readNumber 48 = .ok (.iadd, 1) := by decide +kernel
theorem dX6_readNumber_49 : decode cX6_readNumber 49 = .ok (.bipush 48, 2) := by decide +kernel
theorem dX6_readNumber_51 : decode cX6_readNumber 51 = .ok (.isub, 1) := by decide +kernel
theorem dX6_readNumber_52 : decode cX6_readNumber 52 = .ok (.putfield 56, 3) := by decide +kernel
theorem dX6_readNumber_55 : decode cX6_readNumber 55 = .ok (.aload_n 0, 1) := by decide +kernel
theorem dX6_readNumber_56 : decode cX6_readNumber 56 = .ok (.dup, 1) := by decide +kernel
theorem dX6_readNumber_57 : decode cX6_readNumber 57 = .ok (.getfield 25, 3) := by decide +kernel
theorem dX6_readNumber_60 : decode cX6_readNumber 60 = .ok (.iconst 1, 1) := by decide +kernel
theorem dX6_readNumber_61 : decode cX6_readNumber 61 = .ok (.iadd, 1) := by decide +kernel
theorem dX6_readNumber_62 : decode cX6_readNumber 62 = .ok (.putfield 25, 3) := by decide +kernel
theorem dX6_readNumber_65 : decode cX6_readNumber 65 = .ok (.goto (-60), 3) := by decide +kernel
theorem dX6_readNumber_68 : decode cX6_readNumber 68 = .ok (.aload_n 0, 1) := by decide +kernel
theorem dX6_readNumber_69 : decode cX6_readNumber 69 = .ok (.aload_n 0, 1) := by decide +kernel
theorem dX6_readNumber_70 : decode cX6_readNumber 70 = .ok (.getfield 25, 3) := by decide +kernel
theorem dX6_readNumber_73 : decode cX6_readNumber 73 = .ok (.aload_n 0, 1) := by decide +kernel
theorem dX6_readNumber_74 : decode cX6_readNumber 74 = .ok (.getfield 31, 3) := by decide +kernel
theorem dX6_readNumber_77 : decode cX6_readNumber 77 = .ok (.isub, 1) := by decide +kernel
theorem dX6_readNumber_78 : decode cX6_readNumber 78 = .ok (.iconst 3, 1) := by decide +kernel
theorem dX6_readNumber_79 : decode cX6_readNumber 79 = .ok (.if_icmp .le 7, 3) := by decide +kernel
theorem dX6_readNumber_82 : decode cX6_readNumber 82 = .ok (.iconst 4, 1) := by decide +kernel
theorem dX6_readNumber_83 : decode cX6_readNumber 83 = .ok (.goto 4, 3) := by decide +kernel
theorem dX6_readNumber_86 : decode cX6_readNumber 86 = .ok (.iconst 2, 1) := by decide +kernel
theorem dX6_readNumber_87 : decode cX6_readNumber 87 = .ok (.putfield 38, 3) := by decide +kernel
theorem dX6_readNumber_90 : decode cX6_readNumber 90 = .ok (.return_, 1) := by decide +kernel
theorem dX6_isBlank_0 : decode cX6_isBlank 0 = .ok (.iload_n 0, 1) := by decide +kernel
theorem dX6_isBlank_1 : decode cX6_isBlank 1 = .ok (.bipush 32, 2) := by decide +kernel
theorem dX6_isBlank_3 : decode cX6_isBlank 3 = .ok (.if_icmp .eq 9, 3) := by decide +kernel
theorem dX6_isBlank_6 : decode cX6_isBlank 6 = .ok (.iload_n 0, 1) := by decide +kernel
theorem dX6_isBlank_7 : decode cX6_isBlank 7 = .ok (.bipush 10, 2) := by decide +kernel
theorem dX6_isBlank_9 : decode cX6_isBlank 9 = .ok (.if_icmp .ne 7, 3) := by decide +kernel
theorem dX6_isBlank_12 : decode cX6_isBlank 12 = .ok (.iconst 1, 1) := by decide +kernel
theorem dX6_isBlank_13 : decode cX6_isBlank 13 = .ok (.goto 4, 3) := by decide +kernel
theorem dX6_isBlank_16 : decode cX6_isBlank 16 = .ok (.iconst 0, 1) := by decide +kernel
theorem dX6_isBlank_17 : decode cX6_isBlank 17 = .ok (.ireturn, 1) := by decide +kernel
theorem dX6_isLetter_0 : decode cX6_isLetter 0 = .ok (.iload_n 0, 1) := by decide +kernel
theorem dX6_isLetter_1 : decode cX6_isLetter 1 = .ok (.bipush 97, 2) := by decide +kernel
theorem dX6_isLetter_3 : decode cX6_isLetter 3 = .ok (.if_icmp .lt 13, 3) := by decide +kernel
theorem dX6_isLetter_6 : decode cX6_isLetter 6 = .ok (.iload_n 0, 1) := by decide +kernel
theorem dX6_isLetter_7 : decode cX6_isLetter 7 = .ok (.bipush 122, 2) := by decide +kernel
theorem dX6_isLetter_9 : decode cX6_isLetter 9 = .ok (.if_icmp .gt 7, 3) := by decide +kernel
theorem dX6_isLetter_12 : decode cX6_isLetter 12 = .ok (.iconst 1, 1) := by decide +kernel
theorem dX6_isLetter_13 : decode cX6_isLetter 13 = .ok (.goto 4, 3) := by decide +kernel
theorem dX6_isLetter_16 : decode cX6_isLetter 16 = .ok (.iconst 0, 1) := by decide +kernel
theorem dX6_isLetter_17 : decode cX6_isLetter 17 = .ok (.ireturn, 1) := by decide +kernel
theorem dX6_isDigit_0 : decode cX6_isDigit 0 = .ok (.iload_n 0, 1) := by decide +kernel
theorem dX6_isDigit_1 : decode cX6_isDigit 1 = .ok (.bipush 48, 2) := by decide +kernel
theorem dX6_isDigit_3 : decode cX6_isDigit 3 = .ok (.if_icmp .lt 13, 3) := by decide +kernel
theorem dX6_isDigit_6 : decode cX6_isDigit 6 = .ok (.iload_n 0, 1) := by decide +kernel
theorem dX6_isDigit_7 : decode cX6_isDigit 7 = .ok (.bipush 57, 2) := by decide +kernel
theorem dX6_isDigit_9 : decode cX6_isDigit 9 = .ok (.if_icmp .gt 7, 3) := by decide +kernel
theorem dX6_isDigit_12 : decode cX6_isDigit 12 = .ok (.iconst 1, 1) := by decide +kernel
theorem dX6_isDigit_13 : decode cX6_isDigit 13 = .ok (.goto 4, 3) := by decide +kernel
theorem dX6_isDigit_16 : decode cX6_isDigit 16 = .ok (.iconst 0, 1) := by decide +kernel
theorem dX6_isDigit_17 : decode cX6_isDigit 17 = .ok (.ireturn, 1) := by decide +kernel
theorem dX6_isSingle_0 : decode cX6_isSingle 0 = .ok (.iload_n 0, 1) := by decide +kernel
theorem dX6_isSingle_1 : decode cX6_isSingle 1 = .ok (.bipush 59, 2) := by decide +kernel
theorem dX6_isSingle_3 : decode cX6_isSingle 3 = .ok (.if_icmp .eq 15, 3) := by decide +kernel
theorem dX6_isSingle_6 : decode cX6_isSingle 6 = .ok (.iload_n 0, 1) := by decide +kernel
theorem dX6_isSingle_7 : decode cX6_isSingle 7 = .ok (.bipush 40, 2) := by decide +kernel
theorem dX6_isSingle_9 : decode cX6_isSingle 9 = .ok (.if_icmp .eq 9, 3) := by decide +kernel
theorem dX6_isSingle_12 : decode cX6_isSingle 12 = .ok (.iload_n 0, 1) := by decide +kernel
theorem dX6_isSingle_13 : decode cX6_isSingle 13 = .ok (.bipush 41, 2) := by decide +kernel
theorem dX6_isSingle_15 : decode cX6_isSingle 15 = .ok (.if_icmp .ne 7, 3) := by decide +kernel
theorem dX6_isSingle_18 : decode cX6_isSingle 18 = .ok (.iconst 1, 1) := by decide +kernel
theorem dX6_isSingle_19 : decode cX6_isSingle 19 = .ok (.goto 4, 3) := by decide +kernel
theorem dX6_isSingle_22 : decode cX6_isSingle 22 = .ok (.iconst 0, 1) := by decide +kernel
theorem dX6_isSingle_23 : decode cX6_isSingle 23 = .ok (.ireturn, 1) := by decide +kernel
theorem dX6_fail_0 : decode cX6_fail 0 = .ok (.aload_n 0, 1) := by decide +kernel
theorem dX6_fail_1 : decode cX6_fail 1 = .ok (.getfield 22, 3) := by decide +kernel
theorem dX6_fail_4 : decode cX6_fail 4 = .ok (.ifCond .ne 16, 3) := by decide +kernel
theorem dX6_fail_7 : decode cX6_fail 7 = .ok (.aload_n 0, 1) := by decide +kernel
theorem dX6_fail_8 : decode cX6_fail 8 = .ok (.iload_n 1, 1) := by decide +kernel
theorem dX6_fail_9 : decode cX6_fail 9 = .ok (.putfield 22, 3) := by decide +kernel
theorem dX6_fail_12 : decode cX6_fail 12 = .ok (.aload_n 0, 1) := by decide +kernel
theorem dX6_fail_13 : decode cX6_fail 13 = .ok (.aload_n 0, 1) := by decide +kernel
theorem dX6_fail_14 : decode cX6_fail 14 = .ok (.getfield 31, 3) := by decide +kernel
theorem dX6_fail_17 : decode cX6_fail 17 = .ok (.putfield 15, 3) := by decide +kernel
theorem dX6_fail_20 : decode cX6_fail 20 = .ok (.return_, 1) := by decide +kernel
theorem dX6_isMark_0 : decode cX6_isMark 0 = .ok (.aload_n 0, 1) := by decide +kernel
theorem dX6_isMark_1 : decode cX6_isMark 1 = .ok (.getfield 38, 3) := by decide +kernel
theorem dX6_isMark_4 : decode cX6_isMark 4 = .ok (.iconst 3, 1) := by decide +kernel
theorem dX6_isMark_5 : decode cX6_isMark 5 = .ok (.if_icmp .ne 31, 3) := by decide +kernel
theorem dX6_isMark_8 : decode cX6_isMark 8 = .ok (.aload_n 0, 1) := by decide +kernel
theorem dX6_isMark_9 : decode cX6_isMark 9 = .ok (.getfield 31, 3) := by decide +kernel
theorem dX6_isMark_12 : decode cX6_isMark 12 = .ok (.aload_n 0, 1) := by decide +kernel
theorem dX6_isMark_13 : decode cX6_isMark 13 = .ok (.getfield 19, 3) := by decide +kernel
theorem dX6_isMark_16 : decode cX6_isMark 16 = .ok (.if_icmp .ge 20, 3) := by decide +kernel
theorem dX6_isMark_19 : decode cX6_isMark 19 = .ok (.aload_n 0, 1) := by decide +kernel
theorem dX6_isMark_20 : decode cX6_isMark 20 = .ok (.getfield 9, 3) := by decide +kernel
theorem dX6_isMark_23 : decode cX6_isMark 23 = .ok (.aload_n 0, 1) := by decide +kernel
theorem dX6_isMark_24 : decode cX6_isMark 24 = .ok (.getfield 31, 3) := by decide +kernel
theorem dX6_isMark_27 : decode cX6_isMark 27 = .ok (.baload, 1) := by decide +kernel
theorem dX6_isMark_28 : decode cX6_isMark 28 = .ok (.iload_n 1, 1) := by decide +kernel
theorem dX6_isMark_29 : decode cX6_isMark 29 = .ok (.if_icmp .ne 7, 3) := by decide +kernel
theorem dX6_isMark_32 : decode cX6_isMark 32 = .ok (.iconst 1, 1) := by decide +kernel
theorem dX6_isMark_33 : decode cX6_isMark 33 = .ok (.goto 4, 3) := by decide +kernel
theorem dX6_isMark_36 : decode cX6_isMark 36 = .ok (.iconst 0, 1) := by decide +kernel
theorem dX6_isMark_37 : decode cX6_isMark 37 = .ok (.ireturn, 1) := by decide +kernel
theorem dX6_isWord_0 : decode cX6_isWord 0 = .ok (.aload_n 0, 1) := by decide +kernel
theorem dX6_isWord_1 : decode cX6_isWord 1 = .ok (.getfield 38, 3) := by decide +kernel
theorem dX6_isWord_4 : decode cX6_isWord 4 = .ok (.iconst 1, 1) := by decide +kernel
theorem dX6_isWord_5 : decode cX6_isWord 5 = .ok (.if_icmp .ne 19, 3) := by decide +kernel
theorem dX6_isWord_8 : decode cX6_isWord 8 = .ok (.aload_n 1, 1) := by decide +kernel
theorem dX6_isWord_9 : decode cX6_isWord 9 = .ok (.invokevirtual 59, 3) := by decide +kernel
theorem dX6_isWord_12 : decode cX6_isWord 12 = .ok (.aload_n 0, 1) := by decide +kernel
theorem dX6_isWord_13 : decode cX6_isWord 13 = .ok (.getfield 25, 3) := by decide +kernel
theorem dX6_isWord_16 : decode cX6_isWord 16 = .ok (.aload_n 0, 1) := by decide +kernel
theorem dX6_isWord_17 : decode cX6_isWord 17 = .ok (.getfield 31, 3) := by decide +kernel
theorem dX6_isWord_20 : decode cX6_isWord 20 = .ok (.isub, 1) := by decide +kernel
theorem dX6_isWord_21 : decode cX6_isWord 21 = .ok (.if_icmp .eq 5, 3) := by decide +kernel
theorem dX6_isWord_24 : decode cX6_isWord 24 = .ok (.iconst 0, 1) := by decide +kernel
theorem dX6_isWord_25 : decode cX6_isWord 25 = .ok (.ireturn, 1) := by decide +kernel
theorem dX6_isWord_26 : decode cX6_isWord 26 = .ok (.iconst 0, 1) := by decide +kernel
theorem dX6_isWord_27 : decode cX6_isWord 27 = .ok (.istore_n 2, 1) := by decide +kernel
theorem dX6_isWord_28 : decode cX6_isWord 28 = .ok (.iload_n 2, 1) := by decide +kernel
theorem dX6_isWord_29 : decode cX6_isWord 29 = .ok (.aload_n 1, 1) := by decide +kernel
theorem dX6_isWord_30 : decode cX6_isWord 30 = .ok (.invokevirtual 59, 3) := by decide +kernel
theorem dX6_isWord_33 : decode cX6_isWord 33 = .ok (.if_icmp .ge 24, 3) := by decide +kernel
theorem dX6_isWord_36 : decode cX6_isWord 36 = .ok (.aload_n 0, 1) := by decide +kernel
theorem dX6_isWord_37 : decode cX6_isWord 37 = .ok (.iload_n 2, 1) := by decide +kernel
theorem dX6_isWord_38 : decode cX6_isWord 38 = .ok (.invokevirtual 65, 3) := by decide +kernel
theorem dX6_isWord_41 : decode cX6_isWord 41 = .ok (.aload_n 1, 1) := by decide +kernel
theorem dX6_isWord_42 : decode cX6_isWord 42 = .ok (.iload_n 2, 1) := by decide +kernel
theorem dX6_isWord_43 : decode cX6_isWord 43 = .ok (.invokevirtual 69, 3) := by decide +kernel
theorem dX6_isWord_46 : decode cX6_isWord 46 = .ok (.if_icmp .eq 5, 3) := by decide +kernel
theorem dX6_isWord_49 : decode cX6_isWord 49 = .ok (.iconst 0, 1) := by decide +kernel
theorem dX6_isWord_50 : decode cX6_isWord 50 = .ok (.ireturn, 1) := by decide +kernel
theorem dX6_isWord_51 : decode cX6_isWord 51 = .ok (.iinc 2 1, 3) := by decide +kernel
theorem dX6_isWord_54 : decode cX6_isWord 54 = .ok (.goto (-26), 3) := by decide +kernel
theorem dX6_isWord_57 : decode cX6_isWord 57 = .ok (.iconst 1, 1) := by decide +kernel
theorem dX6_isWord_58 : decode cX6_isWord 58 = .ok (.ireturn, 1) := by decide +kernel
theorem dX6_wordSize_0 : decode cX6_wordSize 0 = .ok (.aload_n 0, 1) := by decide +kernel
theorem dX6_wordSize_1 : decode cX6_wordSize 1 = .ok (.getfield 38, 3) := by decide +kernel
theorem dX6_wordSize_4 : decode cX6_wordSize 4 = .ok (.iconst 1, 1) := by decide +kernel
theorem dX6_wordSize_5 : decode cX6_wordSize 5 = .ok (.if_icmp .ne 15, 3) := by decide +kernel
theorem dX6_wordSize_8 : decode cX6_wordSize 8 = .ok (.aload_n 0, 1) := by decide +kernel
theorem dX6_wordSize_9 : decode cX6_wordSize 9 = .ok (.getfield 25, 3) := by decide +kernel
theorem dX6_wordSize_12 : decode cX6_wordSize 12 = .ok (.aload_n 0, 1) := by decide +kernel
theorem dX6_wordSize_13 : decode cX6_wordSize 13 = .ok (.getfield 31, 3) := by decide +kernel
theorem dX6_wordSize_16 : decode cX6_wordSize 16 = .ok (.isub, 1) := by decide +kernel
theorem dX6_wordSize_17 : decode cX6_wordSize 17 = .ok (.goto 4, 3) := by decide +kernel
theorem dX6_wordSize_20 : decode cX6_wordSize 20 = .ok (.iconst 0, 1) := by decide +kernel
theorem dX6_wordSize_21 : decode cX6_wordSize 21 = .ok (.ireturn, 1) := by decide +kernel
theorem dX6_signAt_0 : decode cX6_signAt 0 = .ok (.aload_n 0, 1) := by decide +kernel
theorem dX6_signAt_1 : decode cX6_signAt 1 = .ok (.getfield 31, 3) := by decide +kernel
theorem dX6_signAt_4 : decode cX6_signAt 4 = .ok (.iload_n 1, 1) := by decide +kernel
theorem dX6_signAt_5 : decode cX6_signAt 5 = .ok (.iadd, 1) := by decide +kernel
theorem dX6_signAt_6 : decode cX6_signAt 6 = .ok (.aload_n 0, 1) := by decide +kernel
theorem dX6_signAt_7 : decode cX6_signAt 7 = .ok (.getfield 19, 3) := by decide +kernel
theorem dX6_signAt_10 : decode cX6_signAt 10 = .ok (.if_icmp .ge 17, 3) := by decide +kernel
theorem dX6_signAt_13 : decode cX6_signAt 13 = .ok (.aload_n 0, 1) := by decide +kernel
theorem dX6_signAt_14 : decode cX6_signAt 14 = .ok (.getfield 9, 3) := by decide +kernel
theorem dX6_signAt_17 : decode cX6_signAt 17 = .ok (.aload_n 0, 1) := by decide +kernel
theorem dX6_signAt_18 : decode cX6_signAt 18 = .ok (.getfield 31, 3) := by decide +kernel
theorem dX6_signAt_21 : decode cX6_signAt 21 = .ok (.iload_n 1, 1) := by decide +kernel
theorem dX6_signAt_22 : decode cX6_signAt 22 = .ok (.iadd, 1) := by decide +kernel
theorem dX6_signAt_23 : decode cX6_signAt 23 = .ok (.baload, 1) := by decide +kernel
theorem dX6_signAt_24 : decode cX6_signAt 24 = .ok (.goto 4, 3) := by decide +kernel
theorem dX6_signAt_27 : decode cX6_signAt 27 = .ok (.iconst 0, 1) := by decide +kernel
theorem dX6_signAt_28 : decode cX6_signAt 28 = .ok (.ireturn, 1) := by decide +kernel
theorem dX6_wordCode_0 : decode cX6_wordCode 0 = .ok (.lconst 0, 1) := by decide +kernel
theorem dX6_wordCode_1 : decode cX6_wordCode 1 = .ok (.lstore_n 2, 1) := by decide +kernel
theorem dX6_wordCode_2 : decode cX6_wordCode 2 = .ok (.iconst 0, 1) := by decide +kernel
theorem dX6_wordCode_3 : decode cX6_wordCode 3 = .ok (.istore 4, 2) := by decide +kernel
theorem dX6_wordCode_5 : decode cX6_wordCode 5 = .ok (.iload 4, 2) := by decide +kernel
theorem dX6_wordCode_7 : decode cX6_wordCode 7 = .ok (.aload_n 0, 1) := by decide +kernel
theorem dX6_wordCode_8 : decode cX6_wordCode 8 = .ok (.invokevirtual 73, 3) := by decide +kernel
theorem dX6_wordCode_11 : decode cX6_wordCode 11 = .ok (.if_icmp .ge 39, 3) := by decide +kernel
theorem dX6_wordCode_14 : decode cX6_wordCode 14 = .ok (.aload_n 0, 1) := by decide +kernel
theorem dX6_wordCode_15 : decode cX6_wordCode 15 = .ok (.iload 4, 2) := by decide +kernel
theorem dX6_wordCode_17 : decode cX6_wordCode 17 = .ok (.invokevirtual 65, 3) := by decide +kernel
theorem dX6_wordCode_20 : decode cX6_wordCode 20 = .ok (.bipush 97, 2) := by decide +kernel
theorem dX6_wordCode_22 : decode cX6_wordCode 22 = .ok (.isub, 1) := by decide +kernel
theorem dX6_wordCode_23 : decode cX6_wordCode 23 = .ok (.istore 5, 2) := by decide +kernel
theorem dX6_wordCode_25 : decode cX6_wordCode 25 = .ok (.iload 5, 2) := by decide +kernel
theorem dX6_wordCode_27 : decode cX6_wordCode 27 = .ok (.iload_n 1, 1) := by decide +kernel
theorem dX6_wordCode_28 : decode cX6_wordCode 28 = .ok (.if_icmp .lt 7, 3) := by decide +kernel
theorem dX6_wordCode_31 : decode cX6_wordCode 31 = .ok (.ldc2_w 76, 3) := by decide +kernel
theorem dX6_wordCode_34 : decode cX6_wordCode 34 = .ok (.lreturn, 1) := by decide +kernel
theorem dX6_wordCode_35 : decode cX6_wordCode 35 = .ok (.lload_n 2, 1) := by decide +kernel
theorem dX6_wordCode_36 : decode cX6_wordCode 36 = .ok (.iload 4, 2) := by decide +kernel
theorem dX6_wordCode_38 : decode cX6_wordCode 38 = .ok (.iload 5, 2) := by decide +kernel
theorem dX6_wordCode_40 : decode cX6_wordCode 40 = .ok (.invokestatic 78, 3) := by decide +kernel
theorem dX6_wordCode_43 : decode cX6_wordCode 43 = .ok (.lstore_n 2, 1) := by decide +kernel
theorem dX6_wordCode_44 : decode cX6_wordCode 44 = .ok (.iinc 4 1, 3) := by decide +kernel
theorem dX6_wordCode_47 : decode cX6_wordCode 47 = .ok (.goto (-42), 3) := by decide +kernel
theorem dX6_wordCode_50 : decode cX6_wordCode 50 = .ok (.lload_n 2, 1) := by decide +kernel
theorem dX6_wordCode_51 : decode cX6_wordCode 51 = .ok (.lreturn, 1) := by decide +kernel
theorem dX6_nameCode_0 : decode cX6_nameCode 0 = .ok (.aload_n 0, 1) := by decide +kernel
theorem dX6_nameCode_1 : decode cX6_nameCode 1 = .ok (.invokevirtual 73, 3) := by decide +kernel
theorem dX6_nameCode_4 : decode cX6_nameCode 4 = .ok (.bipush 8, 2) := by decide +kernel
theorem dX6_nameCode_6 : decode cX6_nameCode 6 = .ok (.if_icmp .le 5, 3) := by decide +kernel
theorem dX6_nameCode_9 : decode cX6_nameCode 9 = .ok (.lconst 0, 1) := by decide +kernel
theorem dX6_nameCode_10 : decode cX6_nameCode 10 = .ok (.lreturn, 1) := by decide +kernel
theorem dX6_nameCode_11 : decode cX6_nameCode 11 = .ok (.lconst 0, 1) := by decide +kernel
theorem dX6_nameCode_12 : decode cX6_nameCode 12 = .ok (.lstore_n 1, 1) := by decide +kernel
theorem dX6_nameCode_13 : decode cX6_nameCode 13 = .ok (.iconst 0, 1) := by decide +kernel
theorem dX6_nameCode_14 : decode cX6_nameCode 14 = .ok (.istore_n 3, 1) := by decide +kernel
theorem dX6_nameCode_15 : decode cX6_nameCode 15 = .ok (.iload_n 3, 1) := by decide +kernel
theorem dX6_nameCode_16 : decode cX6_nameCode 16 = .ok (.aload_n 0, 1) := by decide +kernel
theorem dX6_nameCode_17 : decode cX6_nameCode 17 = .ok (.invokevirtual 73, 3) := by decide +kernel
theorem dX6_nameCode_20 : decode cX6_nameCode 20 = .ok (.if_icmp .ge 20, 3) := by decide +kernel
theorem dX6_nameCode_23 : decode cX6_nameCode 23 = .ok (.lload_n 1, 1) := by decide +kernel
theorem dX6_nameCode_24 : decode cX6_nameCode 24 = .ok (.iload_n 3, 1) := by decide +kernel
theorem dX6_nameCode_25 : decode cX6_nameCode 25 = .ok (.aload_n 0, 1) := by decide +kernel
theorem dX6_nameCode_26 : decode cX6_nameCode 26 = .ok (.iload_n 3, 1) := by decide +kernel
theorem dX6_nameCode_27 : decode cX6_nameCode 27 = .ok (.invokevirtual 65, 3) := by decide +kernel
theorem dX6_nameCode_30 : decode cX6_nameCode 30 = .ok (.invokestatic 84, 3) := by decide +kernel
theorem dX6_nameCode_33 : decode cX6_nameCode 33 = .ok (.lstore_n 1, 1) := by decide +kernel
theorem dX6_nameCode_34 : decode cX6_nameCode 34 = .ok (.iinc 3 1, 3) := by decide +kernel
theorem dX6_nameCode_37 : decode cX6_nameCode 37 = .ok (.goto (-22), 3) := by decide +kernel
theorem dX6_nameCode_40 : decode cX6_nameCode 40 = .ok (.lload_n 1, 1) := by decide +kernel
theorem dX6_nameCode_41 : decode cX6_nameCode 41 = .ok (.lreturn, 1) := by decide +kernel
theorem dX6_passMark_0 : decode cX6_passMark 0 = .ok (.aload_n 0, 1) := by decide +kernel
theorem dX6_passMark_1 : decode cX6_passMark 1 = .ok (.iload_n 1, 1) := by decide +kernel
theorem dX6_passMark_2 : decode cX6_passMark 2 = .ok (.invokevirtual 87, 3) := by decide +kernel
theorem dX6_passMark_5 : decode cX6_passMark 5 = .ok (.ifCond .eq 10, 3) := by decide +kernel
theorem dX6_passMark_8 : decode cX6_passMark 8 = .ok (.aload_n 0, 1) := by decide +kernel
theorem dX6_passMark_9 : decode cX6_passMark 9 = .ok (.invokevirtual 28, 3) := by decide +kernel
theorem dX6_passMark_12 : decode cX6_passMark 12 = .ok (.goto 8, 3) := by decide +kernel
theorem dX6_passMark_15 : decode cX6_passMark 15 = .ok (.aload_n 0, 1) := by decide +kernel
theorem dX6_passMark_16 : decode cX6_passMark 16 = .ok (.iconst 1, 1) := by decide +kernel
theorem dX6_passMark_17 : decode cX6_passMark 17 = .ok (.invokevirtual 91, 3) := by decide +kernel
theorem dX6_passMark_20 : decode cX6_passMark 20 = .ok (.return_, 1) := by decide +kernel
theorem dX6_passNumber_0 : decode cX6_passNumber 0 = .ok (.aload_n 0, 1) := by decide +kernel
theorem dX6_passNumber_1 : decode cX6_passNumber 1 = .ok (.getfield 56, 3) := by decide +kernel
theorem dX6_passNumber_4 : decode cX6_passNumber 4 = .ok (.istore_n 3, 1) := by decide +kernel
theorem dX6_passNumber_5 : decode cX6_passNumber 5 = .ok (.aload_n 0, 1) := by decide +kernel
theorem dX6_passNumber_6 : decode cX6_passNumber 6 = .ok (.getfield 38, 3) := by decide +kernel
theorem dX6_passNumber_9 : decode cX6_passNumber 9 = .ok (.iconst 2, 1) := by decide +kernel
theorem dX6_passNumber_10 : decode cX6_passNumber 10 = .ok (.if_icmp .eq 11, 3) := by decide +kernel
theorem dX6_passNumber_13 : decode cX6_passNumber 13 = .ok (.aload_n 0, 1) := by decide +kernel
theorem dX6_passNumber_14 : decode cX6_passNumber 14 = .ok (.iconst 1, 1) := by decide +kernel
theorem dX6_passNumber_15 : decode cX6_passNumber 15 = .ok (.invokevirtual 91, 3) := by decide +kernel
theorem dX6_passNumber_18 : decode cX6_passNumber 18 = .ok (.goto 25, 3) := by decide +kernel
theorem dX6_passNumber_21 : decode cX6_passNumber 21 = .ok (.iload_n 3, 1) := by decide +kernel
theorem dX6_passNumber_22 : decode cX6_passNumber 22 = .ok (.iload_n 1, 1) := by decide +kernel
theorem dX6_passNumber_23 : decode cX6_passNumber 23 = .ok (.if_icmp .lt 8, 3) := by decide +kernel
theorem dX6_passNumber_26 : decode cX6_passNumber 26 = .ok (.iload_n 3, 1) := by decide +kernel
theorem dX6_passNumber_27 : decode cX6_passNumber 27 = .ok (.iload_n 2, 1) := by decide +kernel
theorem dX6_passNumber_28 : decode cX6_passNumber 28 = .ok (.if_icmp .le 11, 3) := by decide +kernel
theorem dX6_passNumber_31 : decode cX6_passNumber 31 = .ok (.aload_n 0, 1) := by decide +kernel
theorem dX6_passNumber_32 : decode cX6_passNumber 32 = .ok (.iconst 2, 1) := by decide +kernel
theorem dX6_passNumber_33 : decode cX6_passNumber 33 = .ok (.invokevirtual 91, 3) := by decide +kernel
theorem dX6_passNumber_36 : decode cX6_passNumber 36 = .ok (.goto 7, 3) := by decide +kernel
theorem dX6_passNumber_39 : decode cX6_passNumber 39 = .ok (.aload_n 0, 1) := by decide +kernel
theorem dX6_passNumber_40 : decode cX6_passNumber 40 = .ok (.invokevirtual 28, 3) := by decide +kernel
theorem dX6_passNumber_43 : decode cX6_passNumber 43 = .ok (.iload_n 3, 1) := by decide +kernel
theorem dX6_passNumber_44 : decode cX6_passNumber 44 = .ok (.ireturn, 1) := by decide +kernel
theorem dJ6_bitCount_0f7a4_0 : decode cJ6_bitCount_0f7a4 0 = .ok (.iload_n 0, 1) := by decide +kernel
theorem dJ6_bitCount_0f7a4_1 : decode cJ6_bitCount_0f7a4 1 = .ok (.iload_n 0, 1) := by decide +kernel
theorem dJ6_bitCount_0f7a4_2 : decode cJ6_bitCount_0f7a4 2 = .ok (.iconst 1, 1) := by decide +kernel
theorem dJ6_bitCount_0f7a4_3 : decode cJ6_bitCount_0f7a4 3 = .ok (.iushr, 1) := by decide +kernel
theorem dJ6_bitCount_0f7a4_4 : decode cJ6_bitCount_0f7a4 4 = .ok (.ldc_w 265, 3) := by decide +kernel
theorem dJ6_bitCount_0f7a4_7 : decode cJ6_bitCount_0f7a4 7 = .ok (.iand, 1) := by decide +kernel
theorem dJ6_bitCount_0f7a4_8 : decode cJ6_bitCount_0f7a4 8 = .ok (.isub, 1) := by decide +kernel
theorem dJ6_bitCount_0f7a4_9 : decode cJ6_bitCount_0f7a4 9 = .ok (.istore_n 0, 1) := by decide +kernel
theorem dJ6_bitCount_0f7a4_10 : decode cJ6_bitCount_0f7a4 10 = .ok (.iload_n 0, 1) := by decide +kernel
theorem dJ6_bitCount_0f7a4_11 : decode cJ6_bitCount_0f7a4 11 = .ok (.ldc_w 266, 3) := by decide +kernel
theorem dJ6_bitCount_0f7a4_14 : decode cJ6_bitCount_0f7a4 14 = .ok (.iand, 1) := by decide +kernel
theorem dJ6_bitCount_0f7a4_15 : decode cJ6_bitCount_0f7a4 15 = .ok (.iload_n 0, 1) := by decide +kernel
theorem dJ6_bitCount_0f7a4_16 : decode cJ6_bitCount_0f7a4 16 = .ok (.iconst 2, 1) := by decide +kernel
theorem dJ6_bitCount_0f7a4_17 : decode cJ6_bitCount_0f7a4 17 = .ok (.iushr, 1) := by decide +kernel
theorem dJ6_bitCount_0f7a4_18 : decode cJ6_bitCount_0f7a4 18 = .ok (.ldc_w 266, 3) := by decide +kernel
theorem dJ6_bitCount_0f7a4_21 : decode cJ6_bitCount_0f7a4 21 = .ok (.iand, 1) := by decide +kernel
theorem dJ6_bitCount_0f7a4_22 : decode cJ6_bitCount_0f7a4 22 = .ok (.iadd, 1) := by decide +kernel
theorem dJ6_bitCount_0f7a4_23 : decode cJ6_bitCount_0f7a4 23 = .ok (.istore_n 0, 1) := by decide +kernel
theorem dJ6_bitCount_0f7a4_24 : decode cJ6_bitCount_0f7a4 24 = .ok (.iload_n 0, 1) := by decide +kernel
theorem dJ6_bitCount_0f7a4_25 : decode cJ6_bitCount_0f7a4 25 = .ok (.iload_n 0, 1) := by decide +kernel
theorem dJ6_bitCount_0f7a4_26 : decode cJ6_bitCount_0f7a4 26 = .ok (.iconst 4, 1) := by decide +kernel
theorem dJ6_bitCount_0f7a4_27 : decode cJ6_bitCount_0f7a4 27 = .ok (.iushr, 1) := by decide +kernel
theorem dJ6_bitCount_0f7a4_28 : decode cJ6_bitCount_0f7a4 28 = .ok (.iadd, 1) := by decide +kernel
theorem dJ6_bitCount_0f7a4_29 : decode cJ6_bitCount_0f7a4 29 = .ok (.ldc_w 267, 3) := by decide +kernel
theorem dJ6_bitCount_0f7a4_32 : decode cJ6_bitCount_0f7a4 32 = .ok (.iand, 1) := by decide +kernel
theorem dJ6_bitCount_0f7a4_33 : decode cJ6_bitCount_0f7a4 33 = .ok (.istore_n 0, 1) := by decide +kernel
theorem dJ6_bitCount_0f7a4_34 : decode cJ6_bitCount_0f7a4 34 = .ok (.iload_n 0, 1) := by decide +kernel
theorem dJ6_bitCount_0f7a4_35 : decode cJ6_bitCount_0f7a4 35 = .ok (.iload_n 0, 1) := by decide +kernel
theorem dJ6_bitCount_0f7a4_36 : decode cJ6_bitCount_0f7a4 36 = .ok (.bipush 8, 2) := by decide +kernel
theorem dJ6_bitCount_0f7a4_38 : decode cJ6_bitCount_0f7a4 38 = .ok (.iushr, 1) := by decide +kernel
theorem dJ6_bitCount_0f7a4_39 : decode cJ6_bitCount_0f7a4 39 = .ok (.iadd, 1) := by decide +kernel
theorem dJ6_bitCount_0f7a4_40 : decode cJ6_bitCount_0f7a4 40 = .ok (.istore_n 0, 1) := by decide +kernel
theorem dJ6_bitCount_0f7a4_41 : decode cJ6_bitCount_0f7a4 41 = .ok (.iload_n 0, 1) := by decide +kernel
theorem dJ6_bitCount_0f7a4_42 : decode cJ6_bitCount_0f7a4 42 = .ok (.iload_n 0, 1) := by decide +kernel
theorem dJ6_bitCount_0f7a4_43 : decode cJ6_bitCount_0f7a4 43 = .ok (.bipush 16, 2) := by decide +kernel
theorem dJ6_bitCount_0f7a4_45 : decode cJ6_bitCount_0f7a4 45 = .ok (.iushr, 1) := by decide +kernel
theorem dJ6_bitCount_0f7a4_46 : decode cJ6_bitCount_0f7a4 46 = .ok (.iadd, 1) := by decide +kernel
theorem dJ6_bitCount_0f7a4_47 : decode cJ6_bitCount_0f7a4 47 = .ok (.istore_n 0, 1) := by decide +kernel
theorem dJ6_bitCount_0f7a4_48 : decode cJ6_bitCount_0f7a4 48 = .ok (.iload_n 0, 1) := by decide +kernel
theorem dJ6_bitCount_0f7a4_49 : decode cJ6_bitCount_0f7a4 49 = .ok (.bipush 63, 2) := by decide +kernel
theorem dJ6_bitCount_0f7a4_51 : decode cJ6_bitCount_0f7a4 51 = .ok (.iand, 1) := by decide +kernel
theorem dJ6_bitCount_0f7a4_52 : decode cJ6_bitCount_0f7a4 52 = .ok (.ireturn, 1) := by decide +kernel
theorem dJ9_max_7cf53_0 : decode cJ9_max_7cf53 0 = .ok (.iload_n 0, 1) := by decide +kernel
theorem dJ9_max_7cf53_1 : decode cJ9_max_7cf53 1 = .ok (.iload_n 1, 1) := by decide +kernel
theorem dJ9_max_7cf53_2 : decode cJ9_max_7cf53 2 = .ok (.if_icmp .lt 7, 3) := by decide +kernel
theorem dJ9_max_7cf53_5 : decode cJ9_max_7cf53 5 = .ok (.iload_n 0, 1) := by decide +kernel
theorem dJ9_max_7cf53_6 : decode cJ9_max_7cf53 6 = .ok (.goto 4, 3) := by decide +kernel
theorem dJ9_max_7cf53_9 : decode cJ9_max_7cf53 9 = .ok (.iload_n 1, 1) := by decide +kernel
theorem dJ9_max_7cf53_10 : decode cJ9_max_7cf53 10 = .ok (.ireturn, 1) := by decide +kernel
theorem dJ9_min_7cf53_0 : decode cJ9_min_7cf53 0 = .ok (.iload_n 0, 1) := by decide +kernel
theorem dJ9_min_7cf53_1 : decode cJ9_min_7cf53 1 = .ok (.iload_n 1, 1) := by decide +kernel
theorem dJ9_min_7cf53_2 : decode cJ9_min_7cf53 2 = .ok (.if_icmp .gt 7, 3) := by decide +kernel
theorem dJ9_min_7cf53_5 : decode cJ9_min_7cf53 5 = .ok (.iload_n 0, 1) := by decide +kernel
theorem dJ9_min_7cf53_6 : decode cJ9_min_7cf53 6 = .ok (.goto 4, 3) := by decide +kernel
theorem dJ9_min_7cf53_9 : decode cJ9_min_7cf53 9 = .ok (.iload_n 1, 1) := by decide +kernel
theorem dJ9_min_7cf53_10 : decode cJ9_min_7cf53 10 = .ok (.ireturn, 1) := by decide +kernel
theorem dJ0_length_8abf5_0 : decode cJ0_length_8abf5 0 = .ok (.aload_n 0, 1) := by decide +kernel
theorem dJ0_length_8abf5_1 : decode cJ0_length_8abf5 1 = .ok (.getfield 9, 3) := by decide +kernel
theorem dJ0_length_8abf5_4 : decode cJ0_length_8abf5 4 = .ok (.arraylength, 1) := by decide +kernel
theorem dJ0_length_8abf5_5 : decode cJ0_length_8abf5 5 = .ok (.aload_n 0, 1) := by decide +kernel
theorem dJ0_length_8abf5_6 : decode cJ0_length_8abf5 6 = .ok (.invokevirtual 335, 3) := by decide +kernel
theorem dJ0_length_8abf5_9 : decode cJ0_length_8abf5 9 = .ok (.ishr, 1) := by decide +kernel
theorem dJ0_length_8abf5_10 : decode cJ0_length_8abf5 10 = .ok (.ireturn, 1) := by decide +kernel
theorem dJ0_charAt_5068e_0 : decode cJ0_charAt_5068e 0 = .ok (.aload_n 0, 1) := by decide +kernel
theorem dJ0_charAt_5068e_1 : decode cJ0_charAt_5068e 1 = .ok (.invokevirtual 492, 3) := by decide +kernel
theorem dJ0_charAt_5068e_4 : decode cJ0_charAt_5068e 4 = .ok (.ifCond .eq 12, 3) := by decide +kernel
theorem dJ0_charAt_5068e_7 : decode cJ0_charAt_5068e 7 = .ok (.aload_n 0, 1) := by decide +kernel
theorem dJ0_charAt_5068e_8 : decode cJ0_charAt_5068e 8 = .ok (.getfield 9, 3) := by decide +kernel
theorem dJ0_charAt_5068e_11 : decode cJ0_charAt_5068e 11 = .ok (.iload_n 1, 1) := by decide +kernel
theorem dJ0_charAt_5068e_12 : decode cJ0_charAt_5068e 12 = .ok (.invokestatic 495, 3) := by decide +kernel
theorem dJ0_charAt_5068e_15 : decode cJ0_charAt_5068e 15 = .ok (.ireturn, 1) := by decide +kernel
theorem dJ0_charAt_5068e_16 : decode cJ0_charAt_5068e 16 = .ok (.aload_n 0, 1) := by decide +kernel
theorem dJ0_charAt_5068e_17 : decode cJ0_charAt_5068e 17 = .ok (.getfield 9, 3) := by decide +kernel
theorem dJ0_charAt_5068e_20 : decode cJ0_charAt_5068e 20 = .ok (.iload_n 1, 1) := by decide +kernel
theorem dJ0_charAt_5068e_21 : decode cJ0_charAt_5068e 21 = .ok (.invokestatic 498, 3) := by decide +kernel
theorem dJ0_charAt_5068e_24 : decode cJ0_charAt_5068e 24 = .ok (.ireturn, 1) := by decide +kernel
theorem dJ0_coder_7d493_0 : decode cJ0_coder_7d493 0 = .ok (.getstatic 38, 3) := by decide +kernel
theorem dJ0_coder_7d493_3 : decode cJ0_coder_7d493 3 = .ok (.ifCond .eq 10, 3) := by decide +kernel
theorem dJ0_coder_7d493_6 : decode cJ0_coder_7d493 6 = .ok (.aload_n 0, 1) := by decide +kernel
theorem dJ0_coder_7d493_7 : decode cJ0_coder_7d493 7 = .ok (.getfield 15, 3) := by decide +kernel
theorem dJ0_coder_7d493_10 : decode cJ0_coder_7d493 10 = .ok (.goto 4, 3) := by decide +kernel
theorem dJ0_coder_7d493_13 : decode cJ0_coder_7d493 13 = .ok (.iconst 1, 1) := by decide +kernel
theorem dJ0_coder_7d493_14 : decode cJ0_coder_7d493 14 = .ok (.ireturn, 1) := by decide +kernel
theorem dJ0_isLatin1_aae02_0 : decode cJ0_isLatin1_aae02 0 = .ok (.getstatic 38, 3) := by decide +kernel
theorem dJ0_isLatin1_aae02_3 : decode cJ0_isLatin1_aae02 3 = .ok (.ifCond .eq 14, 3) := by decide +kernel
theorem dJ0_isLatin1_aae02_6 : decode cJ0_isLatin1_aae02 6 = .ok (.aload_n 0, 1) := by decide +kernel
theorem dJ0_isLatin1_aae02_7 : decode cJ0_isLatin1_aae02 7 = .ok (.getfield 15, 3) := by decide +kernel
theorem dJ0_isLatin1_aae02_10 : decode cJ0_isLatin1_aae02 10 = .ok (.ifCond .ne 7, 3) := by decide +kernel
theorem dJ0_isLatin1_aae02_13 : decode cJ0_isLatin1_aae02 13 = .ok (.iconst 1, 1) := by decide +kernel
theorem dJ0_isLatin1_aae02_14 : decode cJ0_isLatin1_aae02 14 = .ok (.goto 4, 3) := by decide +kernel
theorem dJ0_isLatin1_aae02_17 : decode cJ0_isLatin1_aae02 17 = .ok (.iconst 0, 1) := by decide +kernel
theorem dJ0_isLatin1_aae02_18 : decode cJ0_isLatin1_aae02 18 = .ok (.ireturn, 1) := by decide +kernel
theorem dJ0_checkIndex_df160_0 : decode cJ0_checkIndex_df160 0 = .ok (.iload_n 0, 1) := by decide +kernel
theorem dJ0_checkIndex_df160_1 : decode cJ0_checkIndex_df160 1 = .ok (.iload_n 1, 1) := by decide +kernel
theorem dJ0_checkIndex_df160_2 : decode cJ0_checkIndex_df160 2 = .ok (.getstatic 1053, 3) := by decide +kernel
theorem dJ0_checkIndex_df160_5 : decode cJ0_checkIndex_df160 5 = .ok (.invokestatic 1059, 3) := by decide +kernel
theorem dJ0_checkIndex_df160_8 : decode cJ0_checkIndex_df160 8 = .ok (.pop, 1) := by decide +kernel
theorem dJ0_checkIndex_df160_9 : decode cJ0_checkIndex_df160 9 = .ok (.return_, 1) := by decide +kernel
theorem dJ1_charAt_3b067_0 : decode cJ1_charAt_3b067 0 = .ok (.iload_n 1, 1) := by decide +kernel
theorem dJ1_charAt_3b067_1 : decode cJ1_charAt_3b067 1 = .ok (.aload_n 0, 1) := by decide +kernel
theorem dJ1_charAt_3b067_2 : decode cJ1_charAt_3b067 2 = .ok (.arraylength, 1) := by decide +kernel
theorem dJ1_charAt_3b067_3 : decode cJ1_charAt_3b067 3 = .ok (.invokestatic 9, 3) := by decide +kernel
theorem dJ1_charAt_3b067_6 : decode cJ1_charAt_3b067 6 = .ok (.aload_n 0, 1) := by decide +kernel
theorem dJ1_charAt_3b067_7 : decode cJ1_charAt_3b067 7 = .ok (.iload_n 1, 1) := by decide +kernel
theorem dJ1_charAt_3b067_8 : decode cJ1_charAt_3b067 8 = .ok (.baload, 1) := by decide +kernel
theorem dJ1_charAt_3b067_9 : decode cJ1_charAt_3b067 9 = .ok (.sipush 255, 3) := by decide +kernel
theorem dJ1_charAt_3b067_12 : decode cJ1_charAt_3b067 12 = .ok (.iand, 1) := by decide +kernel
theorem dJ1_charAt_3b067_13 : decode cJ1_charAt_3b067 13 = .ok (.i2c, 1) := by decide +kernel
theorem dJ1_charAt_3b067_14 : decode cJ1_charAt_3b067 14 = .ok (.ireturn, 1) := by decide +kernel
theorem dJ2_getChar_3b067_0 : decode cJ2_getChar_3b067 0 = .ok (.getstatic 44, 3) := by decide +kernel
theorem dJ2_getChar_3b067_3 : decode cJ2_getChar_3b067 3 = .ok (.ifCond .ne 25, 3) := by decide +kernel
theorem dJ2_getChar_3b067_6 : decode cJ2_getChar_3b067 6 = .ok (.iload_n 1, 1) := by decide +kernel
theorem dJ2_getChar_3b067_7 : decode cJ2_getChar_3b067 7 = .ok (.ifCond .lt 11, 3) := by decide +kernel
theorem dJ2_getChar_3b067_10 : decode cJ2_getChar_3b067 10 = .ok (.iload_n 1, 1) := by decide +kernel
theorem dJ2_getChar_3b067_11 : decode cJ2_getChar_3b067 11 = .ok (.aload_n 0, 1) := by decide +kernel
theorem dJ2_getChar_3b067_12 : decode cJ2_getChar_3b067 12 = .ok (.invokestatic 48, 3) := by decide +kernel
theorem dJ2_getChar_3b067_15 : decode cJ2_getChar_3b067 15 = .ok (.if_icmp .lt 13, 3) := by decide +kernel
theorem dJ2_getChar_3b067_18 : decode cJ2_getChar_3b067 18 = .ok (.new 52, 3) := by decide +kernel
theorem dJ2_getChar_3b067_21 : decode cJ2_getChar_3b067 21 = .ok (.dup, 1) := by decide +kernel
theorem dJ2_getChar_3b067_22 : decode cJ2_getChar_3b067 22 = .ok (.ldc 54, 2) := by decide +kernel
theorem dJ2_getChar_3b067_24 : decode cJ2_getChar_3b067 24 = .ok (.invokespecial 56, 3) := by decide +kernel
theorem dJ2_getChar_3b067_27 : decode cJ2_getChar_3b067 27 = .ok (.athrow, 1) := by decide +kernel
theorem dJ2_getChar_3b067_28 : decode cJ2_getChar_3b067 28 = .ok (.iload_n 1, 1) := by decide +kernel
theorem dJ2_getChar_3b067_29 : decode cJ2_getChar_3b067 29 = .ok (.iconst 1, 1) := by decide +kernel
theorem dJ2_getChar_3b067_30 : decode cJ2_getChar_3b067 30 = .ok (.ishl, 1) := by decide +kernel
theorem dJ2_getChar_3b067_31 : decode cJ2_getChar_3b067 31 = .ok (.istore_n 1, 1) := by decide +kernel
theorem dJ2_getChar_3b067_32 : decode cJ2_getChar_3b067 32 = .ok (.aload_n 0, 1) := by decide +kernel
theorem dJ2_getChar_3b067_33 : decode cJ2_getChar_3b067 33 = .ok (.iload_n 1, 1) := by decide +kernel
theorem dJ2_getChar_3b067_34 : decode cJ2_getChar_3b067 34 = .ok (.iinc 1 1, 3) := by decide +kernel
theorem dJ2_getChar_3b067_37 : decode cJ2_getChar_3b067 37 = .ok (.baload, 1) := by decide +kernel
theorem dJ2_getChar_3b067_38 : decode cJ2_getChar_3b067 38 = .ok (.sipush 255, 3) := by decide +kernel
theorem dJ2_getChar_3b067_41 : decode cJ2_getChar_3b067 41 = .ok (.iand, 1) := by decide +kernel
theorem dJ2_getChar_3b067_42 : decode cJ2_getChar_3b067 42 = .ok (.getstatic 59, 3) := by decide +kernel
theorem dJ2_getChar_3b067_45 : decode cJ2_getChar_3b067 45 = .ok (.ishl, 1) := by decide +kernel
theorem dJ2_getChar_3b067_46 : decode cJ2_getChar_3b067 46 = .ok (.aload_n 0, 1) := by decide +kernel
theorem dJ2_getChar_3b067_47 : decode cJ2_getChar_3b067 47 = .ok (.iload_n 1, 1) := by decide +kernel
theorem dJ2_getChar_3b067_48 : decode cJ2_getChar_3b067 48 = .ok (.baload, 1) := by decide +kernel
theorem dJ2_getChar_3b067_49 : decode cJ2_getChar_3b067 49 = .ok (.sipush 255, 3) := by decide +kernel
theorem dJ2_getChar_3b067_52 : decode cJ2_getChar_3b067 52 = .ok (.iand, 1) := by decide +kernel
theorem dJ2_getChar_3b067_53 : decode cJ2_getChar_3b067 53 = .ok (.getstatic 63, 3) := by decide +kernel
theorem dJ2_getChar_3b067_56 : decode cJ2_getChar_3b067 56 = .ok (.ishl, 1) := by decide +kernel
theorem dJ2_getChar_3b067_57 : decode cJ2_getChar_3b067 57 = .ok (.ior, 1) := by decide +kernel
theorem dJ2_getChar_3b067_58 : decode cJ2_getChar_3b067 58 = .ok (.i2c, 1) := by decide +kernel
theorem dJ2_getChar_3b067_59 : decode cJ2_getChar_3b067 59 = .ok (.ireturn, 1) := by decide +kernel
theorem dJ2_length_9d52b_0 : decode cJ2_length_9d52b 0 = .ok (.aload_n 0, 1) := by decide +kernel
theorem dJ2_length_9d52b_1 : decode cJ2_length_9d52b 1 = .ok (.arraylength, 1) := by decide +kernel
theorem dJ2_length_9d52b_2 : decode cJ2_length_9d52b 2 = .ok (.iconst 1, 1) := by decide +kernel
theorem dJ2_length_9d52b_3 : decode cJ2_length_9d52b 3 = .ok (.ishr, 1) := by decide +kernel
theorem dJ2_length_9d52b_4 : decode cJ2_length_9d52b 4 = .ok (.ireturn, 1) := by decide +kernel
theorem dJ2_charAt_3b067_0 : decode cJ2_charAt_3b067 0 = .ok (.iload_n 1, 1) := by decide +kernel
theorem dJ2_charAt_3b067_1 : decode cJ2_charAt_3b067 1 = .ok (.aload_n 0, 1) := by decide +kernel
theorem dJ2_charAt_3b067_2 : decode cJ2_charAt_3b067 2 = .ok (.invokestatic 67, 3) := by decide +kernel
theorem dJ2_charAt_3b067_5 : decode cJ2_charAt_3b067 5 = .ok (.aload_n 0, 1) := by decide +kernel
theorem dJ2_charAt_3b067_6 : decode cJ2_charAt_3b067 6 = .ok (.iload_n 1, 1) := by decide +kernel
theorem dJ2_charAt_3b067_7 : decode cJ2_charAt_3b067 7 = .ok (.invokestatic 71, 3) := by decide +kernel
theorem dJ2_charAt_3b067_10 : decode cJ2_charAt_3b067 10 = .ok (.ireturn, 1) := by decide +kernel
theorem dJ2_checkIndex_2214a_0 : decode cJ2_checkIndex_2214a 0 = .ok (.iload_n 0, 1) := by decide +kernel
theorem dJ2_checkIndex_2214a_1 : decode cJ2_checkIndex_2214a 1 = .ok (.aload_n 1, 1) := by decide +kernel
theorem dJ2_checkIndex_2214a_2 : decode cJ2_checkIndex_2214a 2 = .ok (.invokestatic 48, 3) := by decide +kernel
theorem dJ2_checkIndex_2214a_5 : decode cJ2_checkIndex_2214a 5 = .ok (.invokestatic 414, 3) := by decide +kernel
theorem dJ2_checkIndex_2214a_8 : decode cJ2_checkIndex_2214a 8 = .ok (.return_, 1) := by decide +kernel
theorem dJ3_checkIndex_8e157_0 : decode cJ3_checkIndex_8e157 0 = .ok (.iload_n 0, 1) := by decide +kernel
theorem dJ3_checkIndex_8e157_1 : decode cJ3_checkIndex_8e157 1 = .ok (.ifCond .lt 8, 3) := by decide +kernel
theorem dJ3_checkIndex_8e157_4 : decode cJ3_checkIndex_8e157 4 = .ok (.iload_n 0, 1) := by decide +kernel
theorem dJ3_checkIndex_8e157_5 : decode cJ3_checkIndex_8e157 5 = .ok (.iload_n 1, 1) := by decide +kernel
theorem dJ3_checkIndex_8e157_6 : decode cJ3_checkIndex_8e157 6 = .ok (.if_icmp .lt 10, 3) := by decide +kernel
theorem dJ3_checkIndex_8e157_9 : decode cJ3_checkIndex_8e157 9 = .ok (.aload_n 2, 1) := by decide +kernel
theorem dJ3_checkIndex_8e157_10 : decode cJ3_checkIndex_8e157 10 = .ok (.iload_n 0, 1) := by decide +kernel
theorem dJ3_checkIndex_8e157_11 : decode cJ3_checkIndex_8e157 11 = .ok (.iload_n 1, 1) := by decide +kernel
theorem dJ3_checkIndex_8e157_12 : decode cJ3_checkIndex_8e157 12 = .ok (.invokestatic 95, 3) := by decide +kernel
theorem dJ3_checkIndex_8e157_15 : decode cJ3_checkIndex_8e157 15 = .ok (.athrow, 1) := by decide +kernel
theorem dJ3_checkIndex_8e157_16 : decode cJ3_checkIndex_8e157 16 = .ok (.iload_n 0, 1) := by decide +kernel
theorem dJ3_checkIndex_8e157_17 : decode cJ3_checkIndex_8e157 17 = .ok (.ireturn, 1) := by decide +kernel
