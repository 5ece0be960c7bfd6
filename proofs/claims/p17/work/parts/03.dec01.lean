theorem dX2_makeRows_43 : decode cX2_makeRows 43 = .ok (.invokevirtual 170, 3) := by decide +kernel
theorem dX2_makeRows_46 : decode cX2_makeRows 46 = .ok (.aload_n 1, 1) := by decide +kernel
theorem dX2_makeRows_47 : decode cX2_makeRows 47 = .ok (.getfield 64, 3) := by decide +kernel
theorem dX2_makeRows_50 : decode cX2_makeRows 50 = .ok (.iconst 1, 1) := by decide +kernel
theorem dX2_makeRows_51 : decode cX2_makeRows 51 = .ok (.laload, 1) := by decide +kernel
theorem dX2_makeRows_52 : decode cX2_makeRows 52 = .ok (.bipush 8, 2) := by decide +kernel
theorem dX2_makeRows_54 : decode cX2_makeRows 54 = .ok (.invokestatic 134, 3) := by decide +kernel
theorem dX2_makeRows_57 : decode cX2_makeRows 57 = .ok (.ifCond .ne 15, 3) := by decide +kernel
theorem dX2_makeRows_60 : decode cX2_makeRows 60 = .ok (.aload_n 0, 1) := by decide +kernel
theorem dX2_makeRows_61 : decode cX2_makeRows 61 = .ok (.ldc 176, 2) := by decide +kernel
theorem dX2_makeRows_63 : decode cX2_makeRows 63 = .ok (.aload_n 1, 1) := by decide +kernel
theorem dX2_makeRows_64 : decode cX2_makeRows 64 = .ok (.getfield 64, 3) := by decide +kernel
theorem dX2_makeRows_67 : decode cX2_makeRows 67 = .ok (.iconst 1, 1) := by decide +kernel
theorem dX2_makeRows_68 : decode cX2_makeRows 68 = .ok (.laload, 1) := by decide +kernel
theorem dX2_makeRows_69 : decode cX2_makeRows 69 = .ok (.invokevirtual 178, 3) := by decide +kernel
theorem dX2_makeRows_72 : decode cX2_makeRows 72 = .ok (.aload_n 1, 1) := by decide +kernel
theorem dX2_makeRows_73 : decode cX2_makeRows 73 = .ok (.getfield 64, 3) := by decide +kernel
theorem dX2_makeRows_76 : decode cX2_makeRows 76 = .ok (.iconst 2, 1) := by decide +kernel
theorem dX2_makeRows_77 : decode cX2_makeRows 77 = .ok (.laload, 1) := by decide +kernel
theorem dX2_makeRows_78 : decode cX2_makeRows 78 = .ok (.bipush 8, 2) := by decide +kernel
theorem dX2_makeRows_80 : decode cX2_makeRows 80 = .ok (.invokestatic 134, 3) := by decide +kernel
theorem dX2_makeRows_83 : decode cX2_makeRows 83 = .ok (.ifCond .ne 15, 3) := by decide +kernel
theorem dX2_makeRows_86 : decode cX2_makeRows 86 = .ok (.aload_n 0, 1) := by decide +kernel
theorem dX2_makeRows_87 : decode cX2_makeRows 87 = .ok (.ldc 182, 2) := by decide +kernel
theorem dX2_makeRows_89 : decode cX2_makeRows 89 = .ok (.aload_n 1, 1) := by decide +kernel
theorem dX2_makeRows_90 : decode cX2_makeRows 90 = .ok (.getfield 64, 3) := by decide +kernel
theorem dX2_makeRows_93 : decode cX2_makeRows 93 = .ok (.iconst 2, 1) := by decide +kernel
theorem dX2_makeRows_94 : decode cX2_makeRows 94 = .ok (.laload, 1) := by decide +kernel
theorem dX2_makeRows_95 : decode cX2_makeRows 95 = .ok (.invokevirtual 178, 3) := by decide +kernel
theorem dX2_makeRows_98 : decode cX2_makeRows 98 = .ok (.aload_n 1, 1) := by decide +kernel
theorem dX2_makeRows_99 : decode cX2_makeRows 99 = .ok (.getfield 64, 3) := by decide +kernel
theorem dX2_makeRows_102 : decode cX2_makeRows 102 = .ok (.iconst 3, 1) := by decide +kernel
theorem dX2_makeRows_103 : decode cX2_makeRows 103 = .ok (.laload, 1) := by decide +kernel
theorem dX2_makeRows_104 : decode cX2_makeRows 104 = .ok (.bipush 12, 2) := by decide +kernel
theorem dX2_makeRows_106 : decode cX2_makeRows 106 = .ok (.invokestatic 134, 3) := by decide +kernel
theorem dX2_makeRows_109 : decode cX2_makeRows 109 = .ok (.ifCond .eq 14, 3) := by decide +kernel
theorem dX2_makeRows_112 : decode cX2_makeRows 112 = .ok (.aload_n 1, 1) := by decide +kernel
theorem dX2_makeRows_113 : decode cX2_makeRows 113 = .ok (.getfield 64, 3) := by decide +kernel
theorem dX2_makeRows_116 : decode cX2_makeRows 116 = .ok (.iconst 4, 1) := by decide +kernel
theorem dX2_makeRows_117 : decode cX2_makeRows 117 = .ok (.laload, 1) := by decide +kernel
theorem dX2_makeRows_118 : decode cX2_makeRows 118 = .ok (.lconst 0, 1) := by decide +kernel
theorem dX2_makeRows_119 : decode cX2_makeRows 119 = .ok (.lcmp, 1) := by decide +kernel
theorem dX2_makeRows_120 : decode cX2_makeRows 120 = .ok (.ifCond .eq 30, 3) := by decide +kernel
theorem dX2_makeRows_123 : decode cX2_makeRows 123 = .ok (.aload_n 0, 1) := by decide +kernel
theorem dX2_makeRows_124 : decode cX2_makeRows 124 = .ok (.aload_n 1, 1) := by decide +kernel
theorem dX2_makeRows_125 : decode cX2_makeRows 125 = .ok (.getfield 64, 3) := by decide +kernel
theorem dX2_makeRows_128 : decode cX2_makeRows 128 = .ok (.iconst 3, 1) := by decide +kernel
theorem dX2_makeRows_129 : decode cX2_makeRows 129 = .ok (.laload, 1) := by decide +kernel
theorem dX2_makeRows_130 : decode cX2_makeRows 130 = .ok (.aload_n 1, 1) := by decide +kernel
theorem dX2_makeRows_131 : decode cX2_makeRows 131 = .ok (.getfield 64, 3) := by decide +kernel
theorem dX2_makeRows_134 : decode cX2_makeRows 134 = .ok (.iconst 4, 1) := by decide +kernel
theorem dX2_makeRows_135 : decode cX2_makeRows 135 = .ok (.laload, 1) := by decide +kernel
theorem dX2_makeRows_136 : decode cX2_makeRows 136 = .ok (.l2i, 1) := by decide +kernel
theorem dX2_makeRows_137 : decode cX2_makeRows 137 = .ok (.invokevirtual 184, 3) := by decide +kernel
theorem dX2_makeRows_140 : decode cX2_makeRows 140 = .ok (.aload_n 0, 1) := by decide +kernel
theorem dX2_makeRows_141 : decode cX2_makeRows 141 = .ok (.ldc 188, 2) := by decide +kernel
theorem dX2_makeRows_143 : decode cX2_makeRows 143 = .ok (.aload_n 0, 1) := by decide +kernel
theorem dX2_makeRows_144 : decode cX2_makeRows 144 = .ok (.getfield 20, 3) := by decide +kernel
theorem dX2_makeRows_147 : decode cX2_makeRows 147 = .ok (.invokevirtual 170, 3) := by decide +kernel
theorem dX2_makeRows_150 : decode cX2_makeRows 150 = .ok (.return_, 1) := by decide +kernel
theorem dX2_addNumberRow_0 : decode cX2_addNumberRow 0 = .ok (.aload_n 0, 1) := by decide +kernel
theorem dX2_addNumberRow_1 : decode cX2_addNumberRow 1 = .ok (.getfield 20, 3) := by decide +kernel
theorem dX2_addNumberRow_4 : decode cX2_addNumberRow 4 = .ok (.invokevirtual 161, 3) := by decide +kernel
theorem dX2_addNumberRow_7 : decode cX2_addNumberRow 7 = .ok (.aload_n 0, 1) := by decide +kernel
theorem dX2_addNumberRow_8 : decode cX2_addNumberRow 8 = .ok (.getfield 20, 3) := by decide +kernel
theorem dX2_addNumberRow_11 : decode cX2_addNumberRow 11 = .ok (.lload_n 2, 1) := by decide +kernel
theorem dX2_addNumberRow_12 : decode cX2_addNumberRow 12 = .ok (.invokevirtual 190, 3) := by decide +kernel
theorem dX2_addNumberRow_15 : decode cX2_addNumberRow 15 = .ok (.aload_n 0, 1) := by decide +kernel
theorem dX2_addNumberRow_16 : decode cX2_addNumberRow 16 = .ok (.aload_n 1, 1) := by decide +kernel
theorem dX2_addNumberRow_17 : decode cX2_addNumberRow 17 = .ok (.aload_n 0, 1) := by decide +kernel
theorem dX2_addNumberRow_18 : decode cX2_addNumberRow 18 = .ok (.getfield 20, 3) := by decide +kernel
theorem dX2_addNumberRow_21 : decode cX2_addNumberRow 21 = .ok (.invokevirtual 170, 3) := by decide +kernel
theorem dX2_addNumberRow_24 : decode cX2_addNumberRow 24 = .ok (.return_, 1) := by decide +kernel
theorem dX2_addRow_0 : decode cX2_addRow 0 = .ok (.aload_n 1, 1) := by decide +kernel
theorem dX2_addRow_1 : decode cX2_addRow 1 = .ok (.invokevirtual 194, 3) := by decide +kernel
theorem dX2_addRow_4 : decode cX2_addRow 4 = .ok (.aload_n 2, 1) := by decide +kernel
theorem dX2_addRow_5 : decode cX2_addRow 5 = .ok (.invokevirtual 40, 3) := by decide +kernel
theorem dX2_addRow_8 : decode cX2_addRow 8 = .ok (.iadd, 1) := by decide +kernel
theorem dX2_addRow_9 : decode cX2_addRow 9 = .ok (.iconst 3, 1) := by decide +kernel
theorem dX2_addRow_10 : decode cX2_addRow 10 = .ok (.iadd, 1) := by decide +kernel
theorem dX2_addRow_11 : decode cX2_addRow 11 = .ok (.istore_n 3, 1) := by decide +kernel
theorem dX2_addRow_12 : decode cX2_addRow 12 = .ok (.iload_n 3, 1) := by decide +kernel
theorem dX2_addRow_13 : decode cX2_addRow 13 = .ok (.iload_n 3, 1) := by decide +kernel
theorem dX2_addRow_14 : decode cX2_addRow 14 = .ok (.i2l, 1) := by decide +kernel
theorem dX2_addRow_15 : decode cX2_addRow 15 = .ok (.invokestatic 199, 3) := by decide +kernel
theorem dX2_addRow_18 : decode cX2_addRow 18 = .ok (.iadd, 1) := by decide +kernel
theorem dX2_addRow_19 : decode cX2_addRow 19 = .ok (.istore 4, 2) := by decide +kernel
theorem dX2_addRow_21 : decode cX2_addRow 21 = .ok (.aload_n 0, 1) := by decide +kernel
theorem dX2_addRow_22 : decode cX2_addRow 22 = .ok (.getfield 14, 3) := by decide +kernel
theorem dX2_addRow_25 : decode cX2_addRow 25 = .ok (.iload_n 3, 1) := by decide +kernel
theorem dX2_addRow_26 : decode cX2_addRow 26 = .ok (.iload 4, 2) := by decide +kernel
theorem dX2_addRow_28 : decode cX2_addRow 28 = .ok (.i2l, 1) := by decide +kernel
theorem dX2_addRow_29 : decode cX2_addRow 29 = .ok (.invokestatic 199, 3) := by decide +kernel
theorem dX2_addRow_32 : decode cX2_addRow 32 = .ok (.iadd, 1) := by decide +kernel
theorem dX2_addRow_33 : decode cX2_addRow 33 = .ok (.i2l, 1) := by decide +kernel
theorem dX2_addRow_34 : decode cX2_addRow 34 = .ok (.invokevirtual 190, 3) := by decide +kernel
theorem dX2_addRow_37 : decode cX2_addRow 37 = .ok (.aload_n 0, 1) := by decide +kernel
theorem dX2_addRow_38 : decode cX2_addRow 38 = .ok (.getfield 14, 3) := by decide +kernel
theorem dX2_addRow_41 : decode cX2_addRow 41 = .ok (.bipush 32, 2) := by decide +kernel
theorem dX2_addRow_43 : decode cX2_addRow 43 = .ok (.invokevirtual 86, 3) := by decide +kernel
theorem dX2_addRow_46 : decode cX2_addRow 46 = .ok (.aload_n 0, 1) := by decide +kernel
theorem dX2_addRow_47 : decode cX2_addRow 47 = .ok (.getfield 14, 3) := by decide +kernel
theorem dX2_addRow_50 : decode cX2_addRow 50 = .ok (.aload_n 1, 1) := by decide +kernel
theorem dX2_addRow_51 : decode cX2_addRow 51 = .ok (.invokevirtual 203, 3) := by decide +kernel
theorem dX2_addRow_54 : decode cX2_addRow 54 = .ok (.aload_n 0, 1) := by decide +kernel
theorem dX2_addRow_55 : decode cX2_addRow 55 = .ok (.getfield 14, 3) := by decide +kernel
theorem dX2_addRow_58 : decode cX2_addRow 58 = .ok (.bipush 61, 2) := by decide +kernel
theorem dX2_addRow_60 : decode cX2_addRow 60 = .ok (.invokevirtual 86, 3) := by decide +kernel
theorem dX2_addRow_63 : decode cX2_addRow 63 = .ok (.aload_n 0, 1) := by decide +kernel
theorem dX2_addRow_64 : decode cX2_addRow 64 = .ok (.getfield 14, 3) := by decide +kernel
theorem dX2_addRow_67 : decode cX2_addRow 67 = .ok (.aload_n 2, 1) := by decide +kernel
theorem dX2_addRow_68 : decode cX2_addRow 68 = .ok (.iconst 0, 1) := by decide +kernel
theorem dX2_addRow_69 : decode cX2_addRow 69 = .ok (.aload_n 2, 1) := by decide +kernel
theorem dX2_addRow_70 : decode cX2_addRow 70 = .ok (.invokevirtual 40, 3) := by decide +kernel
theorem dX2_addRow_73 : decode cX2_addRow 73 = .ok (.invokevirtual 149, 3) := by decide +kernel
theorem dX2_addRow_76 : decode cX2_addRow 76 = .ok (.aload_n 0, 1) := by decide +kernel
theorem dX2_addRow_77 : decode cX2_addRow 77 = .ok (.getfield 14, 3) := by decide +kernel
theorem dX2_addRow_80 : decode cX2_addRow 80 = .ok (.bipush 10, 2) := by decide +kernel
theorem dX2_addRow_82 : decode cX2_addRow 82 = .ok (.invokevirtual 86, 3) := by decide +kernel
theorem dX2_addRow_85 : decode cX2_addRow 85 = .ok (.return_, 1) := by decide +kernel
theorem dX2_makeTime_0 : decode cX2_makeTime 0 = .ok (.lload_n 1, 1) := by decide +kernel
theorem dX2_makeTime_1 : decode cX2_makeTime 1 = .ok (.lconst 0, 1) := by decide +kernel
theorem dX2_makeTime_2 : decode cX2_makeTime 2 = .ok (.lcmp, 1) := by decide +kernel
theorem dX2_makeTime_3 : decode cX2_makeTime 3 = .ok (.ifCond .ge 7, 3) := by decide +kernel
theorem dX2_makeTime_6 : decode cX2_makeTime 6 = .ok (.iconst 1, 1) := by decide +kernel
theorem dX2_makeTime_7 : decode cX2_makeTime 7 = .ok (.goto 4, 3) := by decide +kernel
theorem dX2_makeTime_10 : decode cX2_makeTime 10 = .ok (.iconst 0, 1) := by decide +kernel
theorem dX2_makeTime_11 : decode cX2_makeTime 11 = .ok (.istore 4, 2) := by decide +kernel
theorem dX2_makeTime_13 : decode cX2_makeTime 13 = .ok (.iload 4, 2) := by decide +kernel
theorem dX2_makeTime_15 : decode cX2_makeTime 15 = .ok (.ifCond .eq 11, 3) := by decide +kernel
theorem dX2_makeTime_18 : decode cX2_makeTime 18 = .ok (.iload_n 3, 1) := by decide +kernel
theorem dX2_makeTime_19 : decode cX2_makeTime 19 = .ok (.ifCond .le 7, 3) := by decide +kernel
theorem dX2_makeTime_22 : decode cX2_makeTime 22 = .ok (.iconst 1, 1) := by decide +kernel
theorem dX2_makeTime_23 : decode cX2_makeTime 23 = .ok (.goto 4, 3) := by decide +kernel
theorem dX2_makeTime_26 : decode cX2_makeTime 26 = .ok (.iconst 0, 1) := by decide +kernel
theorem dX2_makeTime_27 : decode cX2_makeTime 27 = .ok (.istore 5, 2) := by decide +kernel
theorem dX2_makeTime_29 : decode cX2_makeTime 29 = .ok (.iload 5, 2) := by decide +kernel
theorem dX2_makeTime_31 : decode cX2_makeTime 31 = .ok (.ifCond .eq 10, 3) := by decide +kernel
theorem dX2_makeTime_34 : decode cX2_makeTime 34 = .ok (.lload_n 1, 1) := by decide +kernel
theorem dX2_makeTime_35 : decode cX2_makeTime 35 = .ok (.lconst 1, 1) := by decide +kernel
theorem dX2_makeTime_36 : decode cX2_makeTime 36 = .ok (.ladd, 1) := by decide +kernel
theorem dX2_makeTime_37 : decode cX2_makeTime 37 = .ok (.lneg, 1) := by decide +kernel
theorem dX2_makeTime_38 : decode cX2_makeTime 38 = .ok (.goto 7, 3) := by decide +kernel
theorem dX2_makeTime_41 : decode cX2_makeTime 41 = .ok (.lload_n 1, 1) := by decide +kernel
theorem dX2_makeTime_42 : decode cX2_makeTime 42 = .ok (.invokestatic 207, 3) := by decide +kernel
theorem dX2_makeTime_45 : decode cX2_makeTime 45 = .ok (.lstore 6, 2) := by decide +kernel
theorem dX2_makeTime_47 : decode cX2_makeTime 47 = .ok (.aload_n 0, 1) := by decide +kernel
theorem dX2_makeTime_48 : decode cX2_makeTime 48 = .ok (.getfield 20, 3) := by decide +kernel
theorem dX2_makeTime_51 : decode cX2_makeTime 51 = .ok (.invokevirtual 161, 3) := by decide +kernel
theorem dX2_makeTime_54 : decode cX2_makeTime 54 = .ok (.iload 4, 2) := by decide +kernel
theorem dX2_makeTime_56 : decode cX2_makeTime 56 = .ok (.ifCond .eq 12, 3) := by decide +kernel
theorem dX2_makeTime_59 : decode cX2_makeTime 59 = .ok (.aload_n 0, 1) := by decide +kernel
theorem dX2_makeTime_60 : decode cX2_makeTime 60 = .ok (.getfield 20, 3) := by decide +kernel
theorem dX2_makeTime_63 : decode cX2_makeTime 63 = .ok (.bipush 45, 2) := by decide +kernel
theorem dX2_makeTime_65 : decode cX2_makeTime 65 = .ok (.invokevirtual 86, 3) := by decide +kernel
theorem dX2_makeTime_68 : decode cX2_makeTime 68 = .ok (.aload_n 0, 1) := by decide +kernel
theorem dX2_makeTime_69 : decode cX2_makeTime 69 = .ok (.getfield 20, 3) := by decide +kernel
theorem dX2_makeTime_72 : decode cX2_makeTime 72 = .ok (.lload 6, 2) := by decide +kernel
theorem dX2_makeTime_74 : decode cX2_makeTime 74 = .ok (.invokevirtual 190, 3) := by decide +kernel
theorem dX2_makeTime_77 : decode cX2_makeTime 77 = .ok (.aload_n 0, 1) := by decide +kernel
theorem dX2_makeTime_78 : decode cX2_makeTime 78 = .ok (.iload 5, 2) := by decide +kernel
theorem dX2_makeTime_80 : decode cX2_makeTime 80 = .ok (.ifCond .eq 10, 3) := by decide +kernel
theorem dX2_makeTime_83 : decode cX2_makeTime 83 = .ok (.ldc 211, 2) := by decide +kernel
theorem dX2_makeTime_85 : decode cX2_makeTime 85 = .ok (.iload_n 3, 1) := by decide +kernel
theorem dX2_makeTime_86 : decode cX2_makeTime 86 = .ok (.isub, 1) := by decide +kernel
theorem dX2_makeTime_87 : decode cX2_makeTime 87 = .ok (.goto 4, 3) := by decide +kernel
theorem dX2_makeTime_90 : decode cX2_makeTime 90 = .ok (.iload_n 3, 1) := by decide +kernel
theorem dX2_makeTime_91 : decode cX2_makeTime 91 = .ok (.invokevirtual 212, 3) := by decide +kernel
theorem dX2_makeTime_94 : decode cX2_makeTime 94 = .ok (.return_, 1) := by decide +kernel
theorem dX2_addFraction_0 : decode cX2_addFraction 0 = .ok (.iload_n 1, 1) := by decide +kernel
theorem dX2_addFraction_1 : decode cX2_addFraction 1 = .ok (.ifCond .le 12, 3) := by decide +kernel
theorem dX2_addFraction_4 : decode cX2_addFraction 4 = .ok (.aload_n 0, 1) := by decide +kernel
theorem dX2_addFraction_5 : decode cX2_addFraction 5 = .ok (.getfield 20, 3) := by decide +kernel
theorem dX2_addFraction_8 : decode cX2_addFraction 8 = .ok (.bipush 46, 2) := by decide +kernel
theorem dX2_addFraction_10 : decode cX2_addFraction 10 = .ok (.invokevirtual 86, 3) := by decide +kernel
theorem dX2_addFraction_13 : decode cX2_addFraction 13 = .ok (.iload_n 1, 1) := by decide +kernel
theorem dX2_addFraction_14 : decode cX2_addFraction 14 = .ok (.istore_n 2, 1) := by decide +kernel
theorem dX2_addFraction_15 : decode cX2_addFraction 15 = .ok (.ldc 215, 2) := by decide +kernel
theorem dX2_addFraction_17 : decode cX2_addFraction 17 = .ok (.istore_n 3, 1) := by decide +kernel
theorem dX2_addFraction_18 : decode cX2_addFraction 18 = .ok (.iload_n 3, 1) := by decide +kernel
theorem dX2_addFraction_19 : decode cX2_addFraction 19 = .ok (.ifCond .le 32, 3) := by decide +kernel
theorem dX2_addFraction_22 : decode cX2_addFraction 22 = .ok (.iload_n 2, 1) := by decide +kernel
theorem dX2_addFraction_23 : decode cX2_addFraction 23 = .ok (.ifCond .le 28, 3) := by decide +kernel
theorem dX2_addFraction_26 : decode cX2_addFraction 26 = .ok (.aload_n 0, 1) := by decide +kernel
theorem dX2_addFraction_27 : decode cX2_addFraction 27 = .ok (.getfield 20, 3) := by decide +kernel
theorem dX2_addFraction_30 : decode cX2_addFraction 30 = .ok (.bipush 48, 2) := by decide +kernel
theorem dX2_addFraction_32 : decode cX2_addFraction 32 = .ok (.iload_n 2, 1) := by decide +kernel
theorem dX2_addFraction_33 : decode cX2_addFraction 33 = .ok (.iload_n 3, 1) := by decide +kernel
theorem dX2_addFraction_34 : decode cX2_addFraction 34 = .ok (.idiv, 1) := by decide +kernel
theorem dX2_addFraction_35 : decode cX2_addFraction 35 = .ok (.iadd, 1) := by decide +kernel
theorem dX2_addFraction_36 : decode cX2_addFraction 36 = .ok (.invokevirtual 86, 3) := by decide +kernel
theorem dX2_addFraction_39 : decode cX2_addFraction 39 = .ok (.iload_n 2, 1) := by decide +kernel
theorem dX2_addFraction_40 : decode cX2_addFraction 40 = .ok (.iload_n 3, 1) := by decide +kernel
theorem dX2_addFraction_41 : decode cX2_addFraction 41 = .ok (.irem, 1) := by decide +kernel
theorem dX2_addFraction_42 : decode cX2_addFraction 42 = .ok (.istore_n 2, 1) := by decide +kernel
theorem dX2_addFraction_43 : decode cX2_addFraction 43 = .ok (.iload_n 3, 1) := by decide +kernel
theorem dX2_addFraction_44 : decode cX2_addFraction 44 = .ok (.bipush 10, 2) := by decide +kernel
theorem dX2_addFraction_46 : decode cX2_addFraction 46 = .ok (.idiv, 1) := by decide +kernel
theorem dX2_addFraction_47 : decode cX2_addFraction 47 = .ok (.istore_n 3, 1) := by decide +kernel
theorem dX2_addFraction_48 : decode cX2_addFraction 48 = .ok (.goto (-30), 3) := by decide +kernel
theorem dX2_addFraction_51 : decode cX2_addFraction 51 = .ok (.return_, 1) := by decide +kernel
theorem dX3_init_0 : decode cX3_init 0 = .ok (.aload_n 0, 1) := by decide +kernel
theorem dX3_init_1 : decode cX3_init 1 = .ok (.invokespecial 3, 3) := by decide +kernel
theorem dX3_init_4 : decode cX3_init 4 = .ok (.aload_n 0, 1) := by decide +kernel
theorem dX3_init_5 : decode cX3_init 5 = .ok (.new 9, 3) := by decide +kernel
theorem dX3_init_8 : decode cX3_init 8 = .ok (.dup, 1) := by decide +kernel
theorem dX3_init_9 : decode cX3_init 9 = .ok (.sipush 400, 3) := by decide +kernel
theorem dX3_init_12 : decode cX3_init 12 = .ok (.invokespecial 11, 3) := by decide +kernel
theorem dX3_init_15 : decode cX3_init 15 = .ok (.putfield 14, 3) := by decide +kernel
theorem dX3_init_18 : decode cX3_init 18 = .ok (.aload_n 0, 1) := by decide +kernel
theorem dX3_init_19 : decode cX3_init 19 = .ok (.new 9, 3) := by decide +kernel
theorem dX3_init_22 : decode cX3_init 22 = .ok (.dup, 1) := by decide +kernel
theorem dX3_init_23 : decode cX3_init 23 = .ok (.sipush 400, 3) := by decide +kernel
theorem dX3_init_26 : decode cX3_init 26 = .ok (.invokespecial 11, 3) := by decide +kernel
theorem dX3_init_29 : decode cX3_init 29 = .ok (.putfield 20, 3) := by decide +kernel
theorem dX3_init_32 : decode cX3_init 32 = .ok (.aload_n 0, 1) := by decide +kernel
theorem dX3_init_33 : decode cX3_init 33 = .ok (.iconst 5, 1) := by decide +kernel
theorem dX3_init_34 : decode cX3_init 34 = .ok (.newarray .long, 2) := by decide +kernel
theorem dX3_init_36 : decode cX3_init 36 = .ok (.dup, 1) := by decide +kernel
theorem dX3_init_37 : decode cX3_init 37 = .ok (.iconst 0, 1) := by decide +kernel
theorem dX3_init_38 : decode cX3_init 38 = .ok (.ldc2_w 23, 3) := by decide +kernel
theorem dX3_init_41 : decode cX3_init 41 = .ok (.lastore, 1) := by decide +kernel
theorem dX3_init_42 : decode cX3_init 42 = .ok (.dup, 1) := by decide +kernel
theorem dX3_init_43 : decode cX3_init 43 = .ok (.iconst 1, 1) := by decide +kernel
theorem dX3_init_44 : decode cX3_init 44 = .ok (.lconst 0, 1) := by decide +kernel
theorem dX3_init_45 : decode cX3_init 45 = .ok (.lastore, 1) := by decide +kernel
theorem dX3_init_46 : decode cX3_init 46 = .ok (.dup, 1) := by decide +kernel
theorem dX3_init_47 : decode cX3_init 47 = .ok (.iconst 2, 1) := by decide +kernel
theorem dX3_init_48 : decode cX3_init 48 = .ok (.lconst 0, 1) := by decide +kernel
theorem dX3_init_49 : decode cX3_init 49 = .ok (.lastore, 1) := by decide +kernel
theorem dX3_init_50 : decode cX3_init 50 = .ok (.dup, 1) := by decide +kernel
theorem dX3_init_51 : decode cX3_init 51 = .ok (.iconst 3, 1) := by decide +kernel
theorem dX3_init_52 : decode cX3_init 52 = .ok (.lconst 0, 1) := by decide +kernel
theorem dX3_init_53 : decode cX3_init 53 = .ok (.lastore, 1) := by decide +kernel
theorem dX3_init_54 : decode cX3_init 54 = .ok (.dup, 1) := by decide +kernel
theorem dX3_init_55 : decode cX3_init 55 = .ok (.iconst 4, 1) := by decide +kernel
theorem dX3_init_56 : decode cX3_init 56 = .ok (.lconst 0, 1) := by decide +kernel
theorem dX3_init_57 : decode cX3_init 57 = .ok (.lastore, 1) := by decide +kernel
theorem dX3_init_58 : decode cX3_init 58 = .ok (.putfield 25, 3) := by decide +kernel
theorem dX3_init_61 : decode cX3_init 61 = .ok (.aload_n 0, 1) := by decide +kernel
theorem dX3_init_62 : decode cX3_init 62 = .ok (.bipush 48, 2) := by decide +kernel
theorem dX3_init_64 : decode cX3_init 64 = .ok (.putfield 29, 3) := by decide +kernel
theorem dX3_init_67 : decode cX3_init 67 = .ok (.aload_n 0, 1) := by decide +kernel
theorem dX3_init_68 : decode cX3_init 68 = .ok (.iconst 0, 1) := by decide +kernel
theorem dX3_init_69 : decode cX3_init 69 = .ok (.putfield 33, 3) := by decide +kernel
theorem dX3_init_72 : decode cX3_init 72 = .ok (.aload_n 0, 1) := by decide +kernel
theorem dX3_init_73 : decode cX3_init 73 = .ok (.iconst 0, 1) := by decide +kernel
theorem dX3_init_74 : decode cX3_init 74 = .ok (.putfield 36, 3) := by decide +kernel
theorem dX3_init_77 : decode cX3_init 77 = .ok (.return_, 1) := by decide +kernel
theorem dX3_empty_0 : decode cX3_empty 0 = .ok (.aload_n 0, 1) := by decide +kernel
theorem dX3_empty_1 : decode cX3_empty 1 = .ok (.getfield 14, 3) := by decide +kernel
theorem dX3_empty_4 : decode cX3_empty 4 = .ok (.invokevirtual 39, 3) := by decide +kernel
theorem dX3_empty_7 : decode cX3_empty 7 = .ok (.aload_n 0, 1) := by decide +kernel
theorem dX3_empty_8 : decode cX3_empty 8 = .ok (.getfield 20, 3) := by decide +kernel
theorem dX3_empty_11 : decode cX3_empty 11 = .ok (.invokevirtual 39, 3) := by decide +kernel
theorem dX3_empty_14 : decode cX3_empty 14 = .ok (.aload_n 0, 1) := by decide +kernel
theorem dX3_empty_15 : decode cX3_empty 15 = .ok (.getfield 25, 3) := by decide +kernel
theorem dX3_empty_18 : decode cX3_empty 18 = .ok (.iconst 0, 1) := by decide +kernel
theorem dX3_empty_19 : decode cX3_empty 19 = .ok (.ldc2_w 23, 3) := by decide +kernel
theorem dX3_empty_22 : decode cX3_empty 22 = .ok (.lastore, 1) := by decide +kernel
theorem dX3_empty_23 : decode cX3_empty 23 = .ok (.aload_n 0, 1) := by decide +kernel
theorem dX3_empty_24 : decode cX3_empty 24 = .ok (.getfield 25, 3) := by decide +kernel
theorem dX3_empty_27 : decode cX3_empty 27 = .ok (.iconst 1, 1) := by decide +kernel
theorem dX3_empty_28 : decode cX3_empty 28 = .ok (.lconst 0, 1) := by decide +kernel
theorem dX3_empty_29 : decode cX3_empty 29 = .ok (.lastore, 1) := by decide +kernel
theorem dX3_empty_30 : decode cX3_empty 30 = .ok (.aload_n 0, 1) := by decide +kernel
theorem dX3_empty_31 : decode cX3_empty 31 = .ok (.getfield 25, 3) := by decide +kernel
theorem dX3_empty_34 : decode cX3_empty 34 = .ok (.iconst 2, 1) := by decide +kernel
theorem dX3_empty_35 : decode cX3_empty 35 = .ok (.lconst 0, 1) := by decide +kernel
theorem dX3_empty_36 : decode cX3_empty 36 = .ok (.lastore, 1) := by decide +kernel
theorem dX3_empty_37 : decode cX3_empty 37 = .ok (.aload_n 0, 1) := by decide +kernel
theorem dX3_empty_38 : decode cX3_empty 38 = .ok (.getfield 25, 3) := by decide +kernel
theorem dX3_empty_41 : decode cX3_empty 41 = .ok (.iconst 3, 1) := by decide +kernel
theorem dX3_empty_42 : decode cX3_empty 42 = .ok (.lconst 0, 1) := by decide +kernel
theorem dX3_empty_43 : decode cX3_empty 43 = .ok (.lastore, 1) := by decide +kernel
theorem dX3_empty_44 : decode cX3_empty 44 = .ok (.aload_n 0, 1) := by decide +kernel
theorem dX3_empty_45 : decode cX3_empty 45 = .ok (.getfield 25, 3) := by decide +kernel
theorem dX3_empty_48 : decode cX3_empty 48 = .ok (.iconst 4, 1) := by decide +kernel
theorem dX3_empty_49 : decode cX3_empty 49 = .ok (.lconst 0, 1) := by decide +kernel
theorem dX3_empty_50 : decode cX3_empty 50 = .ok (.lastore, 1) := by decide +kernel
theorem dX3_empty_51 : decode cX3_empty 51 = .ok (.return_, 1) := by decide +kernel
theorem dX3_isOf_0 : decode cX3_isOf 0 = .ok (.iload_n 1, 1) := by decide +kernel
theorem dX3_isOf_1 : decode cX3_isOf 1 = .ok (.tableswitch 81 0 2 #[27, 59, 79], 27) := by decide +kernel
theorem dX3_isOf_28 : decode cX3_isOf 28 = .ok (.aload_n 0, 1) := by decide +kernel
theorem dX3_isOf_29 : decode cX3_isOf 29 = .ok (.invokevirtual 42, 3) := by decide +kernel
theorem dX3_isOf_32 : decode cX3_isOf 32 = .ok (.ifCond .ne 26, 3) := by decide +kernel
theorem dX3_isOf_35 : decode cX3_isOf 35 = .ok (.aload_n 0, 1) := by decide +kernel
theorem dX3_isOf_36 : decode cX3_isOf 36 = .ok (.getfield 14, 3) := by decide +kernel
theorem dX3_isOf_39 : decode cX3_isOf 39 = .ok (.invokevirtual 46, 3) := by decide +kernel
theorem dX3_isOf_42 : decode cX3_isOf 42 = .ok (.bipush 100, 2) := by decide +kernel
theorem dX3_isOf_44 : decode cX3_isOf 44 = .ok (.if_icmp .gt 14, 3) := by decide +kernel
theorem dX3_isOf_47 : decode cX3_isOf 47 = .ok (.aload_n 0, 1) := by decide +kernel
theorem dX3_isOf_48 : decode cX3_isOf 48 = .ok (.invokevirtual 50, 3) := by decide +kernel
theorem dX3_isOf_51 : decode cX3_isOf 51 = .ok (.ifCond .eq 7, 3) := by decide +kernel
theorem dX3_isOf_54 : decode cX3_isOf 54 = .ok (.iconst 1, 1) := by decide +kernel
theorem dX3_isOf_55 : decode cX3_isOf 55 = .ok (.goto 4, 3) := by decide +kernel
theorem dX3_isOf_58 : decode cX3_isOf 58 = .ok (.iconst 0, 1) := by decide +kernel
theorem dX3_isOf_59 : decode cX3_isOf 59 = .ok (.ireturn, 1) := by decide +kernel
theorem dX3_isOf_60 : decode cX3_isOf 60 = .ok (.aload_n 0, 1) := by decide +kernel
theorem dX3_isOf_61 : decode cX3_isOf 61 = .ok (.invokevirtual 53, 3) := by decide +kernel
theorem dX3_isOf_64 : decode cX3_isOf 64 = .ok (.ifCond .eq 14, 3) := by decide +kernel
theorem dX3_isOf_67 : decode cX3_isOf 67 = .ok (.aload_n 0, 1) := by decide +kernel
theorem dX3_isOf_68 : decode cX3_isOf 68 = .ok (.invokevirtual 50, 3) := by decide +kernel
theorem dX3_isOf_71 : decode cX3_isOf 71 = .ok (.ifCond .eq 7, 3) := by decide +kernel
theorem dX3_isOf_74 : decode cX3_isOf 74 = .ok (.iconst 1, 1) := by decide +kernel
theorem dX3_isOf_75 : decode cX3_isOf 75 = .ok (.goto 4, 3) := by decide +kernel
theorem dX3_isOf_78 : decode cX3_isOf 78 = .ok (.iconst 0, 1) := by decide +kernel
theorem dX3_isOf_79 : decode cX3_isOf 79 = .ok (.ireturn, 1) := by decide +kernel
theorem dX3_isOf_80 : decode cX3_isOf 80 = .ok (.iconst 1, 1) := by decide +kernel
theorem dX3_isOf_81 : decode cX3_isOf 81 = .ok (.ireturn, 1) := by decide +kernel
theorem dX3_isOf_82 : decode cX3_isOf 82 = .ok (.aload_n 0, 1) := by decide +kernel
theorem dX3_isOf_83 : decode cX3_isOf 83 = .ok (.getfield 25, 3) := by decide +kernel
theorem dX3_isOf_86 : decode cX3_isOf 86 = .ok (.iconst 4, 1) := by decide +kernel
theorem dX3_isOf_87 : decode cX3_isOf 87 = .ok (.laload, 1) := by decide +kernel
theorem dX3_isOf_88 : decode cX3_isOf 88 = .ok (.lconst 0, 1) := by decide +kernel
theorem dX3_isOf_89 : decode cX3_isOf 89 = .ok (.lcmp, 1) := by decide +kernel
theorem dX3_isOf_90 : decode cX3_isOf 90 = .ok (.ifCond .ne 7, 3) := by decide +kernel
theorem dX3_isOf_93 : decode cX3_isOf 93 = .ok (.iconst 1, 1) := by decide +kernel
theorem dX3_isOf_94 : decode cX3_isOf 94 = .ok (.goto 4, 3) := by decide +kernel
theorem dX3_isOf_97 : decode cX3_isOf 97 = .ok (.iconst 0, 1) := by decide +kernel
theorem dX3_isOf_98 : decode cX3_isOf 98 = .ok (.ireturn, 1) := by decide +kernel
theorem dX3_looksLikeFolder_0 : decode cX3_looksLikeFolder 0 = .ok (.aload_n 0, 1) := by decide +kernel
theorem dX3_looksLikeFolder_1 : decode cX3_looksLikeFolder 1 = .ok (.getfield 29, 3) := by decide +kernel
theorem dX3_looksLikeFolder_4 : decode cX3_looksLikeFolder 4 = .ok (.bipush 53, 2) := by decide +kernel
theorem dX3_looksLikeFolder_6 : decode cX3_looksLikeFolder 6 = .ok (.if_icmp .eq 22, 3) := by decide +kernel
theorem dX3_looksLikeFolder_9 : decode cX3_looksLikeFolder 9 = .ok (.aload_n 0, 1) := by decide +kernel
theorem dX3_looksLikeFolder_10 : decode cX3_looksLikeFolder 10 = .ok (.getfield 29, 3) := by decide +kernel
theorem dX3_looksLikeFolder_13 : decode cX3_looksLikeFolder 13 = .ok (.bipush 48, 2) := by decide +kernel
theorem dX3_looksLikeFolder_15 : decode cX3_looksLikeFolder 15 = .ok (.if_icmp .ne 17, 3) := by decide +kernel
theorem dX3_looksLikeFolder_18 : decode cX3_looksLikeFolder 18 = .ok (.aload_n 0, 1) := by decide +kernel
theorem dX3_looksLikeFolder_19 : decode cX3_looksLikeFolder 19 = .ok (.getfield 14, 3) := by decide +kernel
theorem dX3_looksLikeFolder_22 : decode cX3_looksLikeFolder 22 = .ok (.invokevirtual 56, 3) := by decide +kernel
theorem dX3_looksLikeFolder_25 : decode cX3_looksLikeFolder 25 = .ok (.ifCond .eq 7, 3) := by decide +kernel
theorem dX3_looksLikeFolder_28 : decode cX3_looksLikeFolder 28 = .ok (.iconst 1, 1) := by decide +kernel
theorem dX3_looksLikeFolder_29 : decode cX3_looksLikeFolder 29 = .ok (.goto 4, 3) := by decide +kernel
theorem dX3_looksLikeFolder_32 : decode cX3_looksLikeFolder 32 = .ok (.iconst 0, 1) := by decide +kernel
theorem dX3_looksLikeFolder_33 : decode cX3_looksLikeFolder 33 = .ok (.ireturn, 1) := by decide +kernel
theorem dX3_isPlain_0 : decode cX3_isPlain 0 = .ok (.aload_n 0, 1) := by decide +kernel
theorem dX3_isPlain_1 : decode cX3_isPlain 1 = .ok (.getfield 20, 3) := by decide +kernel
theorem dX3_isPlain_4 : decode cX3_isPlain 4 = .ok (.invokevirtual 46, 3) := by decide +kernel
theorem dX3_isPlain_7 : decode cX3_isPlain 7 = .ok (.bipush 100, 2) := by decide +kernel
theorem dX3_isPlain_9 : decode cX3_isPlain 9 = .ok (.if_icmp .gt 60, 3) := by decide +kernel
theorem dX3_isPlain_12 : decode cX3_isPlain 12 = .ok (.aload_n 0, 1) := by decide +kernel
theorem dX3_isPlain_13 : decode cX3_isPlain 13 = .ok (.getfield 25, 3) := by decide +kernel
theorem dX3_isPlain_16 : decode cX3_isPlain 16 = .ok (.iconst 1, 1) := by decide +kernel
theorem dX3_isPlain_17 : decode cX3_isPlain 17 = .ok (.laload, 1) := by decide +kernel
theorem dX3_isPlain_18 : decode cX3_isPlain 18 = .ok (.bipush 8, 2) := by decide +kernel
theorem dX3_isPlain_20 : decode cX3_isPlain 20 = .ok (.invokestatic 59, 3) := by decide +kernel
theorem dX3_isPlain_23 : decode cX3_isPlain 23 = .ok (.ifCond .eq 46, 3) := by decide +kernel
theorem dX3_isPlain_26 : decode cX3_isPlain 26 = .ok (.aload_n 0, 1) := by decide +kernel
theorem dX3_isPlain_27 : decode cX3_isPlain 27 = .ok (.getfield 25, 3) := by decide +kernel
theorem dX3_isPlain_30 : decode cX3_isPlain 30 = .ok (.iconst 2, 1) := by decide +kernel
theorem dX3_isPlain_31 : decode cX3_isPlain 31 = .ok (.laload, 1) := by decide +kernel
theorem dX3_isPlain_32 : decode cX3_isPlain 32 = .ok (.bipush 8, 2) := by decide +kernel
theorem dX3_isPlain_34 : decode cX3_isPlain 34 = .ok (.invokestatic 59, 3) := by decide +kernel
theorem dX3_isPlain_37 : decode cX3_isPlain 37 = .ok (.ifCond .eq 32, 3) := by decide +kernel
theorem dX3_isPlain_40 : decode cX3_isPlain 40 = .ok (.aload_n 0, 1) := by decide +kernel
theorem dX3_isPlain_41 : decode cX3_isPlain 41 = .ok (.getfield 25, 3) := by decide +kernel
theorem dX3_isPlain_44 : decode cX3_isPlain 44 = .ok (.iconst 3, 1) := by decide +kernel
theorem dX3_isPlain_45 : decode cX3_isPlain 45 = .ok (.laload, 1) := by decide +kernel
theorem dX3_isPlain_46 : decode cX3_isPlain 46 = .ok (.bipush 12, 2) := by decide +kernel
theorem dX3_isPlain_48 : decode cX3_isPlain 48 = .ok (.invokestatic 59, 3) := by decide +kernel
theorem dX3_isPlain_51 : decode cX3_isPlain 51 = .ok (.ifCond .eq 18, 3) := by decide +kernel
theorem dX3_isPlain_54 : decode cX3_isPlain 54 = .ok (.aload_n 0, 1) := by decide +kernel
theorem dX3_isPlain_55 : decode cX3_isPlain 55 = .ok (.getfield 25, 3) := by decide +kernel
theorem dX3_isPlain_58 : decode cX3_isPlain 58 = .ok (.iconst 4, 1) := by decide +kernel
theorem dX3_isPlain_59 : decode cX3_isPlain 59 = .ok (.laload, 1) := by decide +kernel
theorem dX3_isPlain_60 : decode cX3_isPlain 60 = .ok (.lconst 0, 1) := by decide +kernel
theorem dX3_isPlain_61 : decode cX3_isPlain 61 = .ok (.lcmp, 1) := by decide +kernel
theorem dX3_isPlain_62 : decode cX3_isPlain 62 = .ok (.ifCond .ne 7, 3) := by decide +kernel
theorem dX3_isPlain_65 : decode cX3_isPlain 65 = .ok (.iconst 1, 1) := by decide +kernel
theorem dX3_isPlain_66 : decode cX3_isPlain 66 = .ok (.goto 4, 3) := by decide +kernel
theorem dX3_isPlain_69 : decode cX3_isPlain 69 = .ok (.iconst 0, 1) := by decide +kernel
theorem dX3_isPlain_70 : decode cX3_isPlain 70 = .ok (.ireturn, 1) := by decide +kernel
theorem dX3_fits_0 : decode cX3_fits 0 = .ok (.lload_n 0, 1) := by decide +kernel
theorem dX3_fits_1 : decode cX3_fits 1 = .ok (.lconst 0, 1) := by decide +kernel
theorem dX3_fits_2 : decode cX3_fits 2 = .ok (.lcmp, 1) := by decide +kernel
theorem dX3_fits_3 : decode cX3_fits 3 = .ok (.ifCond .lt 19, 3) := by decide +kernel
theorem dX3_fits_6 : decode cX3_fits 6 = .ok (.lload_n 0, 1) := by decide +kernel
theorem dX3_fits_7 : decode cX3_fits 7 = .ok (.lconst 1, 1) := by decide +kernel
theorem dX3_fits_8 : decode cX3_fits 8 = .ok (.iconst 3, 1) := by decide +kernel
theorem dX3_fits_9 : decode cX3_fits 9 = .ok (.iload_n 2, 1) := by decide +kernel
theorem dX3_fits_10 : decode cX3_fits 10 = .ok (.iconst 1, 1) := by decide +kernel
theorem dX3_fits_11 : decode cX3_fits 11 = .ok (.isub, 1) := by decide +kernel
theorem dX3_fits_12 : decode cX3_fits 12 = .ok (.imul, 1) := by decide +kernel
theorem dX3_fits_13 : decode cX3_fits 13 = .ok (.lshl, 1) := by decide +kernel
theorem dX3_fits_14 : decode cX3_fits 14 = .ok (.lcmp, 1) := by decide +kernel
theorem dX3_fits_15 : decode cX3_fits 15 = .ok (.ifCond .ge 7, 3) := by decide +kernel
theorem dX3_fits_18 : decode cX3_fits 18 = .ok (.iconst 1, 1) := by decide +kernel
theorem dX3_fits_19 : decode cX3_fits 19 = .ok (.goto 4, 3) := by decide +kernel
theorem dX3_fits_22 : decode cX3_fits 22 = .ok (.iconst 0, 1) := by decide +kernel
theorem dX3_fits_23 : decode cX3_fits 23 = .ok (.ireturn, 1) := by decide +kernel
theorem dX3_isNameInFields_0 : decode cX3_isNameInFields 0 = .ok (.aload_n 0, 1) := by decide +kernel
theorem dX3_isNameInFields_1 : decode cX3_isNameInFields 1 = .ok (.getfield 14, 3) := by decide +kernel
theorem dX3_isNameInFields_4 : decode cX3_isNameInFields 4 = .ok (.invokevirtual 46, 3) := by decide +kernel
theorem dX3_isNameInFields_7 : decode cX3_isNameInFields 7 = .ok (.bipush 100, 2) := by decide +kernel
theorem dX3_isNameInFields_9 : decode cX3_isNameInFields 9 = .ok (.if_icmp .le 10, 3) := by decide +kernel
theorem dX3_isNameInFields_12 : decode cX3_isNameInFields 12 = .ok (.aload_n 0, 1) := by decide +kernel
theorem dX3_isNameInFields_13 : decode cX3_isNameInFields 13 = .ok (.invokevirtual 63, 3) := by decide +kernel
theorem dX3_isNameInFields_16 : decode cX3_isNameInFields 16 = .ok (.ifCond .le 7, 3) := by decide +kernel
theorem dX3_isNameInFields_19 : decode cX3_isNameInFields 19 = .ok (.iconst 1, 1) := by decide +kernel
theorem dX3_isNameInFields_20 : decode cX3_isNameInFields 20 = .ok (.goto 4, 3) := by decide +kernel
theorem dX3_isNameInFields_23 : decode cX3_isNameInFields 23 = .ok (.iconst 0, 1) := by decide +kernel
theorem dX3_isNameInFields_24 : decode cX3_isNameInFields 24 = .ok (.ireturn, 1) := by decide +kernel
theorem dX3_split_0 : decode cX3_split 0 = .ok (.aload_n 0, 1) := by decide +kernel
theorem dX3_split_1 : decode cX3_split 1 = .ok (.getfield 14, 3) := by decide +kernel
theorem dX3_split_4 : decode cX3_split 4 = .ok (.invokevirtual 46, 3) := by decide +kernel
theorem dX3_split_7 : decode cX3_split 7 = .ok (.istore_n 1, 1) := by decide +kernel
theorem dX3_split_8 : decode cX3_split 8 = .ok (.sipush 155, 3) := by decide +kernel
theorem dX3_split_11 : decode cX3_split 11 = .ok (.iload_n 1, 1) := by decide +kernel
theorem dX3_split_12 : decode cX3_split 12 = .ok (.iconst 2, 1) := by decide +kernel
theorem dX3_split_13 : decode cX3_split 13 = .ok (.isub, 1) := by decide +kernel
theorem dX3_split_14 : decode cX3_split 14 = .ok (.invokestatic 66, 3) := by decide +kernel
theorem dX3_split_17 : decode cX3_split 17 = .ok (.istore_n 2, 1) := by decide +kernel
theorem dX3_split_18 : decode cX3_split 18 = .ok (.iload_n 2, 1) := by decide +kernel
theorem dX3_split_19 : decode cX3_split 19 = .ok (.iconst 1, 1) := by decide +kernel
theorem dX3_split_20 : decode cX3_split 20 = .ok (.if_icmp .lt 34, 3) := by decide +kernel
theorem dX3_split_23 : decode cX3_split 23 = .ok (.iload_n 1, 1) := by decide +kernel
theorem dX3_split_24 : decode cX3_split 24 = .ok (.iconst 1, 1) := by decide +kernel
theorem dX3_split_25 : decode cX3_split 25 = .ok (.isub, 1) := by decide +kernel
theorem dX3_split_26 : decode cX3_split 26 = .ok (.iload_n 2, 1) := by decide +kernel
theorem dX3_split_27 : decode cX3_split 27 = .ok (.isub, 1) := by decide +kernel
theorem dX3_split_28 : decode cX3_split 28 = .ok (.bipush 100, 2) := by decide +kernel
theorem dX3_split_30 : decode cX3_split 30 = .ok (.if_icmp .gt 24, 3) := by decide +kernel
theorem dX3_split_33 : decode cX3_split 33 = .ok (.aload_n 0, 1) := by decide +kernel
theorem dX3_split_34 : decode cX3_split 34 = .ok (.getfield 14, 3) := by decide +kernel
theorem dX3_split_37 : decode cX3_split 37 = .ok (.iload_n 2, 1) := by decide +kernel
theorem dX3_split_38 : decode cX3_split 38 = .ok (.invokevirtual 72, 3) := by decide +kernel
theorem dX3_split_41 : decode cX3_split 41 = .ok (.bipush 47, 2) := by decide +kernel
theorem dX3_split_43 : decode cX3_split 43 = .ok (.if_icmp .ne 5, 3) := by decide +kernel
theorem dX3_split_46 : decode cX3_split 46 = .ok (.iload_n 2, 1) := by decide +kernel
theorem dX3_split_47 : decode cX3_split 47 = .ok (.ireturn, 1) := by decide +kernel
theorem dX3_split_48 : decode cX3_split 48 = .ok (.iinc 2 (-1), 3) := by decide +kernel
theorem dX3_split_51 : decode cX3_split 51 = .ok (.goto (-33), 3) := by decide +kernel
theorem dX3_split_54 : decode cX3_split 54 = .ok (.iconst (-1), 1) := by decide +kernel
theorem dX3_split_55 : decode cX3_split 55 = .ok (.ireturn, 1) := by decide +kernel
theorem dX3_dataByte_0 : decode cX3_dataByte 0 = .ok (.aload_n 0, 1) := by decide +kernel
theorem dX3_dataByte_1 : decode cX3_dataByte 1 = .ok (.getfield 36, 3) := by decide +kernel
theorem dX3_dataByte_4 : decode cX3_dataByte 4 = .ok (.iload_n 1, 1) := by decide +kernel
theorem dX3_dataByte_5 : decode cX3_dataByte 5 = .ok (.iadd, 1) := by decide +kernel
theorem dX3_dataByte_6 : decode cX3_dataByte 6 = .ok (.ldc 76, 2) := by decide +kernel
theorem dX3_dataByte_8 : decode cX3_dataByte 8 = .ok (.imul, 1) := by decide +kernel
theorem dX3_dataByte_9 : decode cX3_dataByte 9 = .ok (.istore_n 2, 1) := by decide +kernel
theorem dX3_dataByte_10 : decode cX3_dataByte 10 = .ok (.iload_n 2, 1) := by decide +kernel
theorem dX3_dataByte_11 : decode cX3_dataByte 11 = .ok (.iload_n 2, 1) := by decide +kernel
theorem dX3_dataByte_12 : decode cX3_dataByte 12 = .ok (.bipush 15, 2) := by decide +kernel
theorem dX3_dataByte_14 : decode cX3_dataByte 14 = .ok (.iushr, 1) := by decide +kernel
theorem dX3_dataByte_15 : decode cX3_dataByte 15 = .ok (.ixor, 1) := by decide +kernel
theorem dX3_dataByte_16 : decode cX3_dataByte 16 = .ok (.sipush 255, 3) := by decide +kernel
theorem dX3_dataByte_19 : decode cX3_dataByte 19 = .ok (.iand, 1) := by decide +kernel
theorem dX3_dataByte_20 : decode cX3_dataByte 20 = .ok (.ireturn, 1) := by decide +kernel
theorem dX4_init_0 : decode cX4_init 0 = .ok (.aload_n 0, 1) := by decide +kernel
theorem dX4_init_1 : decode cX4_init 1 = .ok (.invokespecial 1, 3) := by decide +kernel
theorem dX4_init_4 : decode cX4_init 4 = .ok (.aload_n 0, 1) := by decide +kernel
theorem dX4_init_5 : decode cX4_init 5 = .ok (.iconst 0, 1) := by decide +kernel
theorem dX4_init_6 : decode cX4_init 6 = .ok (.putfield 7, 3) := by decide +kernel
theorem dX4_init_9 : decode cX4_init 9 = .ok (.aload_n 0, 1) := by decide +kernel
theorem dX4_init_10 : decode cX4_init 10 = .ok (.iconst 0, 1) := by decide +kernel
theorem dX4_init_11 : decode cX4_init 11 = .ok (.putfield 13, 3) := by decide +kernel
theorem dX4_init_14 : decode cX4_init 14 = .ok (.return_, 1) := by decide +kernel
theorem dX4_forget_0 : decode cX4_forget 0 = .ok (.aload_n 0, 1) := by decide +kernel
theorem dX4_forget_1 : decode cX4_forget 1 = .ok (.iconst 0, 1) := by decide +kernel
theorem dX4_forget_2 : decode cX4_forget 2 = .ok (.putfield 7, 3) := by decide +kernel
theorem dX4_forget_5 : decode cX4_forget 5 = .ok (.aload_n 0, 1) := by decide +kernel
theorem dX4_forget_6 : decode cX4_forget 6 = .ok (.iconst 0, 1) := by decide +kernel
theorem dX4_forget_7 : decode cX4_forget 7 = .ok (.putfield 13, 3) := by decide +kernel
theorem dX4_forget_10 : decode cX4_forget 10 = .ok (.return_, 1) := by decide +kernel
theorem dX4_end_0 : decode cX4_end 0 = .ok (.aload_n 0, 1) := by decide +kernel
theorem dX4_end_1 : decode cX4_end 1 = .ok (.iload_n 1, 1) := by decide +kernel
theorem dX4_end_2 : decode cX4_end 2 = .ok (.putfield 7, 3) := by decide +kernel
theorem dX4_end_5 : decode cX4_end 5 = .ok (.aload_n 0, 1) := by decide +kernel
theorem dX4_end_6 : decode cX4_end 6 = .ok (.iload_n 2, 1) := by decide +kernel
theorem dX4_end_7 : decode cX4_end 7 = .ok (.putfield 13, 3) := by decide +kernel
theorem dX4_end_10 : decode cX4_end 10 = .ok (.iconst (-1), 1) := by decide +kernel
theorem dX4_end_11 : decode cX4_end 11 = .ok (.ireturn, 1) := by decide +kernel
theorem dX5_init_0 : decode cX5_init 0 = .ok (.aload_n 0, 1) := by decide +kernel
theorem dX5_init_1 : decode cX5_init 1 = .ok (.invokespecial 3, 3) := by decide +kernel
theorem dX5_init_4 : decode cX5_init 4 = .ok (.aload_n 0, 1) := by decide +kernel
theorem dX5_init_5 : decode cX5_init 5 = .ok (.bipush 12, 2) := by decide +kernel
theorem dX5_init_7 : decode cX5_init 7 = .ok (.newarray .long, 2) := by decide +kernel
theorem dX5_init_9 : decode cX5_init 9 = .ok (.putfield 9, 3) := by decide +kernel
theorem dX5_init_12 : decode cX5_init 12 = .ok (.aload_n 0, 1) := by decide +kernel
theorem dX5_init_13 : decode cX5_init 13 = .ok (.new 15, 3) := by decide +kernel
theorem dX5_init_16 : decode cX5_init 16 = .ok (.dup, 1) := by decide +kernel
theorem dX5_init_17 : decode cX5_init 17 = .ok (.sipush 400, 3) := by decide +kernel
theorem dX5_init_20 : decode cX5_init 20 = .ok (.invokespecial 17, 3) := by decide +kernel
theorem dX5_init_23 : decode cX5_init 23 = .ok (.putfield 20, 3) := by decide +kernel
theorem dX5_init_26 : decode cX5_init 26 = .ok (.aload_n 0, 1) := by decide +kernel
theorem dX5_init_27 : decode cX5_init 27 = .ok (.new 15, 3) := by decide +kernel
theorem dX5_init_30 : decode cX5_init 30 = .ok (.dup, 1) := by decide +kernel
theorem dX5_init_31 : decode cX5_init 31 = .ok (.sipush 400, 3) := by decide +kernel
theorem dX5_init_34 : decode cX5_init 34 = .ok (.invokespecial 17, 3) := by decide +kernel
theorem dX5_init_37 : decode cX5_init 37 = .ok (.putfield 24, 3) := by decide +kernel
theorem dX5_init_40 : decode cX5_init 40 = .ok (.return_, 1) := by decide +kernel
theorem dX6_init_0 : decode cX6_init 0 = .ok (.aload_n 0, 1) := by decide +kernel
theorem dX6_init_1 : decode cX6_init 1 = .ok (.invokespecial 3, 3) := by decide +kernel
theorem dX6_init_4 : decode cX6_init 4 = .ok (.aload_n 0, 1) := by decide +kernel
theorem dX6_init_5 : decode cX6_init 5 = .ok (.lconst 0, 1) := by decide +kernel
theorem dX6_init_6 : decode cX6_init 6 = .ok (.putfield 9, 3) := by decide +kernel
theorem dX6_init_9 : decode cX6_init 9 = .ok (.aload_n 0, 1) := by decide +kernel
theorem dX6_init_10 : decode cX6_init 10 = .ok (.lconst 0, 1) := by decide +kernel
theorem dX6_init_11 : decode cX6_init 11 = .ok (.putfield 15, 3) := by decide +kernel
theorem dX6_init_14 : decode cX6_init 14 = .ok (.aload_n 0, 1) := by decide +kernel
theorem dX6_init_15 : decode cX6_init 15 = .ok (.lconst 0, 1) := by decide +kernel
theorem dX6_init_16 : decode cX6_init 16 = .ok (.putfield 18, 3) := by decide +kernel
theorem dX6_init_19 : decode cX6_init 19 = .ok (.aload_n 0, 1) := by decide +kernel
theorem dX6_init_20 : decode cX6_init 20 = .ok (.lconst 0, 1) := by decide +kernel
theorem dX6_init_21 : decode cX6_init 21 = .ok (.putfield 21, 3) := by decide +kernel
theorem dX6_init_24 : decode cX6_init 24 = .ok (.aload_n 0, 1) := by decide +kernel
theorem dX6_init_25 : decode cX6_init 25 = .ok (.lconst 0, 1) := by decide +kernel
theorem dX6_init_26 : decode cX6_init 26 = .ok (.putfield 24, 3) := by decide +kernel
theorem dX6_init_29 : decode cX6_init 29 = .ok (.aload_n 0, 1) := by decide +kernel
theorem dX6_init_30 : decode cX6_init 30 = .ok (.lconst 0, 1) := by decide +kernel
theorem dX6_init_31 : decode cX6_init 31 = .ok (.putfield 27, 3) := by decide +kernel
theorem dX6_init_34 : decode cX6_init 34 = .ok (.aload_n 0, 1) := by decide +kernel
theorem dX6_init_35 : decode cX6_init 35 = .ok (.aload_n 1, 1) := by decide +kernel
theorem dX6_init_36 : decode cX6_init 36 = .ok (.putfield 30, 3) := by decide +kernel
theorem dX6_init_39 : decode cX6_init 39 = .ok (.return_, 1) := by decide +kernel
theorem dX6_isSumRight_0 : decode cX6_isSumRight 0 = .ok (.aload_n 0, 1) := by decide +kernel
theorem dX6_isSumRight_1 : decode cX6_isSumRight 1 = .ok (.iload_n 1, 1) := by decide +kernel
theorem dX6_isSumRight_2 : decode cX6_isSumRight 2 = .ok (.sipush 148, 3) := by decide +kernel
theorem dX6_isSumRight_5 : decode cX6_isSumRight 5 = .ok (.iadd, 1) := by decide +kernel
theorem dX6_isSumRight_6 : decode cX6_isSumRight 6 = .ok (.bipush 8, 2) := by decide +kernel
theorem dX6_isSumRight_8 : decode cX6_isSumRight 8 = .ok (.invokevirtual 34, 3) := by decide +kernel
theorem dX6_isSumRight_11 : decode cX6_isSumRight 11 = .ok (.ifCond .eq 43, 3) := by decide +kernel
theorem dX6_isSumRight_14 : decode cX6_isSumRight 14 = .ok (.aload_n 0, 1) := by decide +kernel
theorem dX6_isSumRight_15 : decode cX6_isSumRight 15 = .ok (.getfield 9, 3) := by decide +kernel
theorem dX6_isSumRight_18 : decode cX6_isSumRight 18 = .ok (.aload_n 0, 1) := by decide +kernel
theorem dX6_isSumRight_19 : decode cX6_isSumRight 19 = .ok (.getfield 30, 3) := by decide +kernel
theorem dX6_isSumRight_22 : decode cX6_isSumRight 22 = .ok (.iload_n 1, 1) := by decide +kernel
theorem dX6_isSumRight_23 : decode cX6_isSumRight 23 = .ok (.iconst 0, 1) := by decide +kernel
theorem dX6_isSumRight_24 : decode cX6_isSumRight 24 = .ok (.invokestatic 38, 3) := by decide +kernel
theorem dX6_isSumRight_27 : decode cX6_isSumRight 27 = .ok (.i2l, 1) := by decide +kernel
theorem dX6_isSumRight_28 : decode cX6_isSumRight 28 = .ok (.lcmp, 1) := by decide +kernel
theorem dX6_isSumRight_29 : decode cX6_isSumRight 29 = .ok (.ifCond .eq 21, 3) := by decide +kernel
theorem dX6_isSumRight_32 : decode cX6_isSumRight 32 = .ok (.aload_n 0, 1) := by decide +kernel
theorem dX6_isSumRight_33 : decode cX6_isSumRight 33 = .ok (.getfield 9, 3) := by decide +kernel
theorem dX6_isSumRight_36 : decode cX6_isSumRight 36 = .ok (.aload_n 0, 1) := by decide +kernel
theorem dX6_isSumRight_37 : decode cX6_isSumRight 37 = .ok (.getfield 30, 3) := by decide +kernel
theorem dX6_isSumRight_40 : decode cX6_isSumRight 40 = .ok (.iload_n 1, 1) := by decide +kernel
theorem dX6_isSumRight_41 : decode cX6_isSumRight 41 = .ok (.iconst 1, 1) := by decide +kernel
theorem dX6_isSumRight_42 : decode cX6_isSumRight 42 = .ok (.invokestatic 38, 3) := by decide +kernel
theorem dX6_isSumRight_45 : decode cX6_isSumRight 45 = .ok (.i2l, 1) := by decide +kernel
theorem dX6_isSumRight_46 : decode cX6_isSumRight 46 = .ok (.lcmp, 1) := by decide +kernel
theorem dX6_isSumRight_47 : decode cX6_isSumRight 47 = .ok (.ifCond .ne 7, 3) := by decide +kernel
theorem dX6_isSumRight_50 : decode cX6_isSumRight 50 = .ok (.iconst 1, 1) := by decide +kernel
theorem dX6_isSumRight_51 : decode cX6_isSumRight 51 = .ok (.goto 4, 3) := by decide +kernel
theorem dX6_isSumRight_54 : decode cX6_isSumRight 54 = .ok (.iconst 0, 1) := by decide +kernel
theorem dX6_isSumRight_55 : decode cX6_isSumRight 55 = .ok (.ireturn, 1) := by decide +kernel
theorem dX6_take_0 : decode cX6_take 0 = .ok (.iconst 0, 1) := by decide +kernel
theorem dX6_take_1 : decode cX6_take 1 = .ok (.istore_n 2, 1) := by decide +kernel
theorem dX6_take_2 : decode cX6_take 2 = .ok (.iload_n 2, 1) := by decide +kernel
theorem dX6_take_3 : decode cX6_take 3 = .ok (.getstatic 42, 3) := by decide +kernel
theorem dX6_take_6 : decode cX6_take 6 = .ok (.arraylength, 1) := by decide +kernel
theorem dX6_take_7 : decode cX6_take 7 = .ok (.if_icmp .ge 68, 3) := by decide +kernel
theorem dX6_take_10 : decode cX6_take 10 = .ok (.iload_n 2, 1) := by decide +kernel
theorem dX6_take_11 : decode cX6_take 11 = .ok (.getstatic 46, 3) := by decide +kernel
theorem dX6_take_14 : decode cX6_take 14 = .ok (.arraylength, 1) := by decide +kernel
theorem dX6_take_15 : decode cX6_take 15 = .ok (.if_icmp .ge 60, 3) := by decide +kernel
theorem dX6_take_18 : decode cX6_take 18 = .ok (.iload_n 1, 1) := by decide +kernel
theorem dX6_take_19 : decode cX6_take 19 = .ok (.getstatic 42, 3) := by decide +kernel
theorem dX6_take_22 : decode cX6_take 22 = .ok (.iload_n 2, 1) := by decide +kernel
theorem dX6_take_23 : decode cX6_take 23 = .ok (.iaload, 1) := by decide +kernel
theorem dX6_take_24 : decode cX6_take 24 = .ok (.iadd, 1) := by decide +kernel
theorem dX6_take_25 : decode cX6_take 25 = .ok (.istore_n 3, 1) := by decide +kernel
theorem dX6_take_26 : decode cX6_take 26 = .ok (.aload_n 0, 1) := by decide +kernel
theorem dX6_take_27 : decode cX6_take 27 = .ok (.iload_n 3, 1) := by decide +kernel
theorem dX6_take_28 : decode cX6_take 28 = .ok (.getstatic 46, 3) := by decide +kernel
theorem dX6_take_31 : decode cX6_take 31 = .ok (.iload_n 2, 1) := by decide +kernel
theorem dX6_take_32 : decode cX6_take 32 = .ok (.iaload, 1) := by decide +kernel
theorem dX6_take_33 : decode cX6_take 33 = .ok (.invokevirtual 49, 3) := by decide +kernel
theorem dX6_take_36 : decode cX6_take 36 = .ok (.ifCond .eq 22, 3) := by decide +kernel
theorem dX6_take_39 : decode cX6_take 39 = .ok (.getstatic 42, 3) := by decide +kernel
theorem dX6_take_42 : decode cX6_take 42 = .ok (.iload_n 2, 1) := by decide +kernel
theorem dX6_take_43 : decode cX6_take 43 = .ok (.iaload, 1) := by decide +kernel
theorem dX6_take_44 : decode cX6_take 44 = .ok (.bipush 124, 2) := by decide +kernel
theorem dX6_take_46 : decode cX6_take 46 = .ok (.if_icmp .ne 14, 3) := by decide +kernel
theorem dX6_take_49 : decode cX6_take 49 = .ok (.aload_n 0, 1) := by decide +kernel
theorem dX6_take_50 : decode cX6_take 50 = .ok (.getfield 9, 3) := by decide +kernel
theorem dX6_take_53 : decode cX6_take 53 = .ok (.lconst 0, 1) := by decide +kernel
theorem dX6_take_54 : decode cX6_take 54 = .ok (.lcmp, 1) := by decide +kernel
theorem dX6_take_55 : decode cX6_take 55 = .ok (.ifCond .ge 5, 3) := by decide +kernel
theorem dX6_take_58 : decode cX6_take 58 = .ok (.iload_n 3, 1) := by decide +kernel
theorem dX6_take_59 : decode cX6_take 59 = .ok (.ireturn, 1) := by decide +kernel
theorem dX6_take_60 : decode cX6_take 60 = .ok (.aload_n 0, 1) := by decide +kernel
theorem dX6_take_61 : decode cX6_take 61 = .ok (.getstatic 42, 3) := by decide +kernel
theorem dX6_take_64 : decode cX6_take 64 = .ok (.iload_n 2, 1) := by decide +kernel
theorem dX6_take_65 : decode cX6_take 65 = .ok (.iaload, 1) := by decide +kernel
theorem dX6_take_66 : decode cX6_take 66 = .ok (.invokevirtual 52, 3) := by decide +kernel
theorem dX6_take_69 : decode cX6_take 69 = .ok (.iinc 2 1, 3) := by decide +kernel
theorem dX6_take_72 : decode cX6_take 72 = .ok (.goto (-70), 3) := by decide +kernel
theorem dX6_take_75 : decode cX6_take 75 = .ok (.iconst (-1), 1) := by decide +kernel
theorem dX6_take_76 : decode cX6_take 76 = .ok (.ireturn, 1) := by decide +kernel
theorem dX6_keep_0 : decode cX6_keep 0 = .ok (.iload_n 1, 1) := by decide +kernel
theorem dX6_keep_1 : decode cX6_keep 1 = .ok (.lookupswitch 87 #[(100, 43), (108, 54), (116, 65), (124, 76)], 43) := by decide +kernel
theorem dX6_keep_44 : decode cX6_keep 44 = .ok (.aload_n 0, 1) := by decide +kernel
theorem dX6_keep_45 : decode cX6_keep 45 = .ok (.aload_n 0, 1) := by decide +kernel
theorem dX6_keep_46 : decode cX6_keep 46 = .ok (.getfield 9, 3) := by decide +kernel
theorem dX6_keep_49 : decode cX6_keep 49 = .ok (.putfield 15, 3) := by decide +kernel
theorem dX6_keep_52 : decode cX6_keep 52 = .ok (.goto 44, 3) := by decide +kernel
theorem dX6_keep_55 : decode cX6_keep 55 = .ok (.aload_n 0, 1) := by decide +kernel
theorem dX6_keep_56 : decode cX6_keep 56 = .ok (.aload_n 0, 1) := by decide +kernel
theorem dX6_keep_57 : decode cX6_keep 57 = .ok (.getfield 9, 3) := by decide +kernel
theorem dX6_keep_60 : decode cX6_keep 60 = .ok (.putfield 18, 3) := by decide +kernel
theorem dX6_keep_63 : decode cX6_keep 63 = .ok (.goto 33, 3) := by decide +kernel
theorem dX6_keep_66 : decode cX6_keep 66 = .ok (.aload_n 0, 1) := by decide +kernel
theorem dX6_keep_67 : decode cX6_keep 67 = .ok (.aload_n 0, 1) := by decide +kernel
theorem dX6_keep_68 : decode cX6_keep 68 = .ok (.getfield 9, 3) := by decide +kernel
theorem dX6_keep_71 : decode cX6_keep 71 = .ok (.putfield 21, 3) := by decide +kernel
theorem dX6_keep_74 : decode cX6_keep 74 = .ok (.goto 22, 3) := by decide +kernel
theorem dX6_keep_77 : decode cX6_keep 77 = .ok (.aload_n 0, 1) := by decide +kernel
theorem dX6_keep_78 : decode cX6_keep 78 = .ok (.aload_n 0, 1) := by decide +kernel
theorem dX6_keep_79 : decode cX6_keep 79 = .ok (.getfield 9, 3) := by decide +kernel
theorem dX6_keep_82 : decode cX6_keep 82 = .ok (.putfield 24, 3) := by decide +kernel
theorem dX6_keep_85 : decode cX6_keep 85 = .ok (.goto 11, 3) := by decide +kernel
theorem dX6_keep_88 : decode cX6_keep 88 = .ok (.aload_n 0, 1) := by decide +kernel
theorem dX6_keep_89 : decode cX6_keep 89 = .ok (.aload_n 0, 1) := by decide +kernel
theorem dX6_keep_90 : decode cX6_keep 90 = .ok (.getfield 9, 3) := by decide +kernel
theorem dX6_keep_93 : decode cX6_keep 93 = .ok (.putfield 27, 3) := by decide +kernel
theorem dX6_keep_96 : decode cX6_keep 96 = .ok (.return_, 1) := by decide +kernel
theorem dX6_takeField_0 : decode cX6_takeField 0 = .ok (.aload_n 0, 1) := by decide +kernel
theorem dX6_takeField_1 : decode cX6_takeField 1 = .ok (.getfield 30, 3) := by decide +kernel
theorem dX6_takeField_4 : decode cX6_takeField 4 = .ok (.iload_n 1, 1) := by decide +kernel
theorem dX6_takeField_5 : decode cX6_takeField 5 = .ok (.invokevirtual 56, 3) := by decide +kernel
theorem dX6_takeField_8 : decode cX6_takeField 8 = .ok (.istore_n 3, 1) := by decide +kernel
theorem dX6_takeField_9 : decode cX6_takeField 9 = .ok (.iload_n 3, 1) := by decide +kernel
theorem dX6_takeField_10 : decode cX6_takeField 10 = .ok (.sipush 128, 3) := by decide +kernel
theorem dX6_takeField_13 : decode cX6_takeField 13 = .ok (.if_icmp .eq 10, 3) := by decide +kernel
theorem dX6_takeField_16 : decode cX6_takeField 16 = .ok (.iload_n 3, 1) := by decide +kernel
theorem dX6_takeField_17 : decode cX6_takeField 17 = .ok (.sipush 255, 3) := by decide +kernel
theorem dX6_takeField_20 : decode cX6_takeField 20 = .ok (.if_icmp .ne 12, 3) := by decide +kernel
theorem dX6_takeField_23 : decode cX6_takeField 23 = .ok (.aload_n 0, 1) := by decide +kernel
theorem dX6_takeField_24 : decode cX6_takeField 24 = .ok (.iload_n 1, 1) := by decide +kernel
theorem dX6_takeField_25 : decode cX6_takeField 25 = .ok (.iload_n 2, 1) := by decide +kernel
theorem dX6_takeField_26 : decode cX6_takeField 26 = .ok (.invokevirtual 62, 3) := by decide +kernel
theorem dX6_takeField_29 : decode cX6_takeField 29 = .ok (.goto 9, 3) := by decide +kernel
theorem dX6_takeField_32 : decode cX6_takeField 32 = .ok (.aload_n 0, 1) := by decide +kernel
theorem dX6_takeField_33 : decode cX6_takeField 33 = .ok (.iload_n 1, 1) := by decide +kernel
theorem dX6_takeField_34 : decode cX6_takeField 34 = .ok (.iload_n 2, 1) := by decide +kernel
theorem dX6_takeField_35 : decode cX6_takeField 35 = .ok (.invokevirtual 34, 3) := by decide +kernel
theorem dX6_takeField_38 : decode cX6_takeField 38 = .ok (.ireturn, 1) := by decide +kernel
theorem dX6_takeOctal_0 : decode cX6_takeOctal 0 = .ok (.iload_n 1, 1) := by decide +kernel
theorem dX6_takeOctal_1 : decode cX6_takeOctal 1 = .ok (.iload_n 2, 1) := by decide +kernel
theorem dX6_takeOctal_2 : decode cX6_takeOctal 2 = .ok (.iadd, 1) := by decide +kernel
theorem dX6_takeOctal_3 : decode cX6_takeOctal 3 = .ok (.istore_n 3, 1) := by decide +kernel
theorem dX6_takeOctal_4 : decode cX6_takeOctal 4 = .ok (.iload_n 1, 1) := by decide +kernel
theorem dX6_takeOctal_5 : decode cX6_takeOctal 5 = .ok (.istore 4, 2) := by decide +kernel
theorem dX6_takeOctal_7 : decode cX6_takeOctal 7 = .ok (.iload 4, 2) := by decide +kernel
theorem dX6_takeOctal_9 : decode cX6_takeOctal 9 = .ok (.iload_n 3, 1) := by decide +kernel
theorem dX6_takeOctal_10 : decode cX6_takeOctal 10 = .ok (.if_icmp .ge 23, 3) := by decide +kernel
theorem dX6_takeOctal_13 : decode cX6_takeOctal 13 = .ok (.aload_n 0, 1) := by decide +kernel
theorem dX6_takeOctal_14 : decode cX6_takeOctal 14 = .ok (.getfield 30, 3) := by decide +kernel
theorem dX6_takeOctal_17 : decode cX6_takeOctal 17 = .ok (.iload 4, 2) := by decide +kernel
theorem dX6_takeOctal_19 : decode cX6_takeOctal 19 = .ok (.invokevirtual 56, 3) := by decide +kernel
theorem dX6_takeOctal_22 : decode cX6_takeOctal 22 = .ok (.bipush 32, 2) := by decide +kernel
theorem dX6_takeOctal_24 : decode cX6_takeOctal 24 = .ok (.if_icmp .ne 9, 3) := by decide +kernel
theorem dX6_takeOctal_27 : decode cX6_takeOctal 27 = .ok (.iinc 4 1, 3) := by decide +kernel
theorem dX6_takeOctal_30 : decode cX6_takeOctal 30 = .ok (.goto (-23), 3) := by decide +kernel
theorem dX6_takeOctal_33 : decode cX6_takeOctal 33 = .ok (.aload_n 0, 1) := by decide +kernel
theorem dX6_takeOctal_34 : decode cX6_takeOctal 34 = .ok (.lconst 0, 1) := by decide +kernel
theorem dX6_takeOctal_35 : decode cX6_takeOctal 35 = .ok (.putfield 9, 3) := by decide +kernel
theorem dX6_takeOctal_38 : decode cX6_takeOctal 38 = .ok (.iload 4, 2) := by decide +kernel
theorem dX6_takeOctal_40 : decode cX6_takeOctal 40 = .ok (.iload_n 3, 1) := by decide +kernel
theorem dX6_takeOctal_41 : decode cX6_takeOctal 41 = .ok (.if_icmp .ge 64, 3) := by decide +kernel
theorem dX6_takeOctal_44 : decode cX6_takeOctal 44 = .ok (.aload_n 0, 1) := by decide +kernel
theorem dX6_takeOctal_45 : decode cX6_takeOctal 45 = .ok (.getfield 30, 3) := by decide +kernel
theorem dX6_takeOctal_48 : decode cX6_takeOctal 48 = .ok (.iload 4, 2) := by decide +kernel
theorem dX6_takeOctal_50 : decode cX6_takeOctal 50 = .ok (.invokevirtual 56, 3) := by decide +kernel
theorem dX6_takeOctal_53 : decode cX6_takeOctal 53 = .ok (.bipush 48, 2) := by decide +kernel
theorem dX6_takeOctal_55 : decode cX6_takeOctal 55 = .ok (.if_icmp .lt 50, 3) := by decide +kernel
theorem dX6_takeOctal_58 : decode cX6_takeOctal 58 = .ok (.aload_n 0, 1) := by decide +kernel
theorem dX6_takeOctal_59 : decode cX6_takeOctal 59 = .ok (.getfield 30, 3) := by decide +kernel
theorem dX6_takeOctal_62 : decode cX6_takeOctal 62 = .ok (.iload 4, 2) := by decide +kernel
theorem dX6_takeOctal_64 : decode cX6_takeOctal 64 = .ok (.invokevirtual 56, 3) := by decide +kernel
theorem dX6_takeOctal_67 : decode cX6_takeOctal 67 = .ok (.bipush 55, 2) := by decide +kernel
theorem dX6_takeOctal_69 : decode cX6_takeOctal 69 = .ok (.if_icmp .gt 36, 3) := by decide +kernel
theorem dX6_takeOctal_72 : decode cX6_takeOctal 72 = .ok (.aload_n 0, 1) := by decide +kernel
theorem dX6_takeOctal_73 : decode cX6_takeOctal 73 = .ok (.aload_n 0, 1) := by decide +kernel
theorem dX6_takeOctal_74 : decode cX6_takeOctal 74 = .ok (.getfield 9, 3) := by decide +kernel
theorem dX6_takeOctal_77 : decode cX6_takeOctal 77 = .ok (.ldc2_w 65, 3) := by decide +kernel
theorem dX6_takeOctal_80 : decode cX6_takeOctal 80 = .ok (.lmul, 1) := by decide +kernel
theorem dX6_takeOctal_81 : decode cX6_takeOctal 81 = .ok (.aload_n 0, 1) := by decide +kernel
theorem dX6_takeOctal_82 : decode cX6_takeOctal 82 = .ok (.getfield 30, 3) := by decide +kernel
theorem dX6_takeOctal_85 : decode cX6_takeOctal 85 = .ok (.iload 4, 2) := by decide +kernel
theorem dX6_takeOctal_87 : decode cX6_takeOctal 87 = .ok (.invokevirtual 56, 3) := by decide +kernel
theorem dX6_takeOctal_90 : decode cX6_takeOctal 90 = .ok (.i2l, 1) := by decide +kernel
theorem dX6_takeOctal_91 : decode cX6_takeOctal 91 = .ok (.ladd, 1) := by decide +kernel
theorem dX6_takeOctal_92 : decode cX6_takeOctal 92 = .ok (.ldc2_w 67, 3) := by decide +kernel
theorem dX6_takeOctal_95 : decode cX6_takeOctal 95 = .ok (.lsub, 1) := by decide +kernel
theorem dX6_takeOctal_96 : decode cX6_takeOctal 96 = .ok (.putfield 9, 3) := by decide +kernel
theorem dX6_takeOctal_99 : decode cX6_takeOctal 99 = .ok (.iinc 4 1, 3) := by decide +kernel
theorem dX6_takeOctal_102 : decode cX6_takeOctal 102 = .ok (.goto (-64), 3) := by decide +kernel
theorem dX6_takeOctal_105 : decode cX6_takeOctal 105 = .ok (.iload 4, 2) := by decide +kernel
theorem dX6_takeOctal_107 : decode cX6_takeOctal 107 = .ok (.iload_n 3, 1) := by decide +kernel
theorem dX6_takeOctal_108 : decode cX6_takeOctal 108 = .ok (.if_icmp .ge 35, 3) := by decide +kernel
theorem dX6_takeOctal_111 : decode cX6_takeOctal 111 = .ok (.aload_n 0, 1) := by decide +kernel
theorem dX6_takeOctal_112 : decode cX6_takeOctal 112 = .ok (.getfield 30, 3) := by decide +kernel
theorem dX6_takeOctal_115 : decode cX6_takeOctal 115 = .ok (.iload 4, 2) := by decide +kernel
theorem dX6_takeOctal_117 : decode cX6_takeOctal 117 = .ok (.invokevirtual 56, 3) := by decide +kernel
theorem dX6_takeOctal_120 : decode cX6_takeOctal 120 = .ok (.bipush 32, 2) := by decide +kernel
theorem dX6_takeOctal_122 : decode cX6_takeOctal 122 = .ok (.if_icmp .eq 15, 3) := by decide +kernel
theorem dX6_takeOctal_125 : decode cX6_takeOctal 125 = .ok (.aload_n 0, 1) := by decide +kernel
theorem dX6_takeOctal_126 : decode cX6_takeOctal 126 = .ok (.getfield 30, 3) := by decide +kernel
theorem dX6_takeOctal_129 : decode cX6_takeOctal 129 = .ok (.iload 4, 2) := by decide +kernel
theorem dX6_takeOctal_131 : decode cX6_takeOctal 131 = .ok (.invokevirtual 56, 3) := by decide +kernel
theorem dX6_takeOctal_134 : decode cX6_takeOctal 134 = .ok (.ifCond .ne 9, 3) := by decide +kernel
theorem dX6_takeOctal_137 : decode cX6_takeOctal 137 = .ok (.iinc 4 1, 3) := by decide +kernel
theorem dX6_takeOctal_140 : decode cX6_takeOctal 140 = .ok (.goto (-35), 3) := by decide +kernel
theorem dX6_takeOctal_143 : decode cX6_takeOctal 143 = .ok (.iload 4, 2) := by decide +kernel
theorem dX6_takeOctal_145 : decode cX6_takeOctal 145 = .ok (.iload_n 3, 1) := by decide +kernel
theorem dX6_takeOctal_146 : decode cX6_takeOctal 146 = .ok (.if_icmp .ne 7, 3) := by decide +kernel
theorem dX6_takeOctal_149 : decode cX6_takeOctal 149 = .ok (.iconst 1, 1) := by decide +kernel
theorem dX6_takeOctal_150 : decode cX6_takeOctal 150 = .ok (.goto 4, 3) := by decide +kernel
theorem dX6_takeOctal_153 : decode cX6_takeOctal 153 = .ok (.iconst 0, 1) := by decide +kernel
theorem dX6_takeOctal_154 : decode cX6_takeOctal 154 = .ok (.ireturn, 1) := by decide +kernel
theorem dX6_takeBy256_0 : decode cX6_takeBy256 0 = .ok (.aload_n 0, 1) := by decide +kernel
theorem dX6_takeBy256_1 : decode cX6_takeBy256 1 = .ok (.getfield 30, 3) := by decide +kernel
theorem dX6_takeBy256_4 : decode cX6_takeBy256 4 = .ok (.iload_n 1, 1) := by decide +kernel
theorem dX6_takeBy256_5 : decode cX6_takeBy256 5 = .ok (.invokevirtual 56, 3) := by decide +kernel
theorem dX6_takeBy256_8 : decode cX6_takeBy256 8 = .ok (.sipush 255, 3) := by decide +kernel
theorem dX6_takeBy256_11 : decode cX6_takeBy256 11 = .ok (.if_icmp .ne 7, 3) := by decide +kernel
theorem dX6_takeBy256_14 : decode cX6_takeBy256 14 = .ok (.iconst 1, 1) := by decide +kernel
theorem dX6_takeBy256_15 : decode cX6_takeBy256 15 = .ok (.goto 4, 3) := by decide +kernel
theorem dX6_takeBy256_18 : decode cX6_takeBy256 18 = .ok (.iconst 0, 1) := by decide +kernel
theorem dX6_takeBy256_19 : decode cX6_takeBy256 19 = .ok (.istore_n 3, 1) := by decide +kernel
theorem dX6_takeBy256_20 : decode cX6_takeBy256 20 = .ok (.iload_n 1, 1) := by decide +kernel
theorem dX6_takeBy256_21 : decode cX6_takeBy256 21 = .ok (.iload_n 2, 1) := by decide +kernel
theorem dX6_takeBy256_22 : decode cX6_takeBy256 22 = .ok (.iadd, 1) := by decide +kernel
theorem dX6_takeBy256_23 : decode cX6_takeBy256 23 = .ok (.istore 4, 2) := by decide +kernel
theorem dX6_takeBy256_25 : decode cX6_takeBy256 25 = .ok (.iload_n 1, 1) := by decide +kernel
theorem dX6_takeBy256_26 : decode cX6_takeBy256 26 = .ok (.iconst 1, 1) := by decide +kernel
theorem dX6_takeBy256_27 : decode cX6_takeBy256 27 = .ok (.iadd, 1) := by decide +kernel
theorem dX6_takeBy256_28 : decode cX6_takeBy256 28 = .ok (.iload 4, 2) := by decide +kernel
theorem dX6_takeBy256_30 : decode cX6_takeBy256 30 = .ok (.bipush 8, 2) := by decide +kernel
theorem dX6_takeBy256_32 : decode cX6_takeBy256 32 = .ok (.isub, 1) := by decide +kernel
theorem dX6_takeBy256_33 : decode cX6_takeBy256 33 = .ok (.invokestatic 69, 3) := by decide +kernel
theorem dX6_takeBy256_36 : decode cX6_takeBy256 36 = .ok (.istore 5, 2) := by decide +kernel
theorem dX6_takeBy256_38 : decode cX6_takeBy256 38 = .ok (.iload_n 1, 1) := by decide +kernel
theorem dX6_takeBy256_39 : decode cX6_takeBy256 39 = .ok (.iconst 1, 1) := by decide +kernel
theorem dX6_takeBy256_40 : decode cX6_takeBy256 40 = .ok (.iadd, 1) := by decide +kernel
theorem dX6_takeBy256_41 : decode cX6_takeBy256 41 = .ok (.istore 6, 2) := by decide +kernel
theorem dX6_takeBy256_43 : decode cX6_takeBy256 43 = .ok (.iload 6, 2) := by decide +kernel
theorem dX6_takeBy256_45 : decode cX6_takeBy256 45 = .ok (.iload 5, 2) := by decide +kernel
theorem dX6_takeBy256_47 : decode cX6_takeBy256 47 = .ok (.if_icmp .ge 34, 3) := by decide +kernel
theorem dX6_takeBy256_50 : decode cX6_takeBy256 50 = .ok (.aload_n 0, 1) := by decide +kernel
theorem dX6_takeBy256_51 : decode cX6_takeBy256 51 = .ok (.getfield 30, 3) := by decide +kernel
theorem dX6_takeBy256_54 : decode cX6_takeBy256 54 = .ok (.iload 6, 2) := by decide +kernel
theorem dX6_takeBy256_56 : decode cX6_takeBy256 56 = .ok (.invokevirtual 56, 3) := by decide +kernel
theorem dX6_takeBy256_59 : decode cX6_takeBy256 59 = .ok (.iload_n 3, 1) := by decide +kernel
theorem dX6_takeBy256_60 : decode cX6_takeBy256 60 = .ok (.ifCond .eq 9, 3) := by decide +kernel
theorem dX6_takeBy256_63 : decode cX6_takeBy256 63 = .ok (.sipush 255, 3) := by decide +kernel
theorem dX6_takeBy256_66 : decode cX6_takeBy256 66 = .ok (.goto 4, 3) := by decide +kernel
theorem dX6_takeBy256_69 : decode cX6_takeBy256 69 = .ok (.iconst 0, 1) := by decide +kernel
theorem dX6_takeBy256_70 : decode cX6_takeBy256 70 = .ok (.if_icmp .eq 5, 3) := by decide +kernel
theorem dX6_takeBy256_73 : decode cX6_takeBy256 73 = .ok (.iconst 0, 1) := by decide +kernel
theorem dX6_takeBy256_74 : decode cX6_takeBy256 74 = .ok (.ireturn, 1) := by decide +kernel
theorem dX6_takeBy256_75 : decode cX6_takeBy256 75 = .ok (.iinc 6 1, 3) := by decide +kernel
theorem dX6_takeBy256_78 : decode cX6_takeBy256 78 = .ok (.goto (-35), 3) := by decide +kernel
theorem dX6_takeBy256_81 : decode cX6_takeBy256 81 = .ok (.aload_n 0, 1) := by decide +kernel
theorem dX6_takeBy256_82 : decode cX6_takeBy256 82 = .ok (.iload_n 3, 1) := by decide +kernel
theorem dX6_takeBy256_83 : decode cX6_takeBy256 83 = .ok (.ifCond .eq 9, 3) := by decide +kernel
theorem dX6_takeBy256_86 : decode cX6_takeBy256 86 = .ok (.ldc2_w 75, 3) := by decide +kernel
theorem dX6_takeBy256_89 : decode cX6_takeBy256 89 = .ok (.goto 4, 3) := by decide +kernel
theorem dX6_takeBy256_92 : decode cX6_takeBy256 92 = .ok (.lconst 0, 1) := by decide +kernel
theorem dX6_takeBy256_93 : decode cX6_takeBy256 93 = .ok (.putfield 9, 3) := by decide +kernel
theorem dX6_takeBy256_96 : decode cX6_takeBy256 96 = .ok (.iload 5, 2) := by decide +kernel
theorem dX6_takeBy256_98 : decode cX6_takeBy256 98 = .ok (.istore 6, 2) := by decide +kernel
theorem dX6_takeBy256_100 : decode cX6_takeBy256 100 = .ok (.iload 6, 2) := by decide +kernel
theorem dX6_takeBy256_102 : decode cX6_takeBy256 102 = .ok (.iload 4, 2) := by decide +kernel
theorem dX6_takeBy256_104 : decode cX6_takeBy256 104 = .ok (.if_icmp .ge 31, 3) := by decide +kernel
theorem dX6_takeBy256_107 : decode cX6_takeBy256 107 = .ok (.aload_n 0, 1) := by decide +kernel
theorem dX6_takeBy256_108 : decode cX6_takeBy256 108 = .ok (.aload_n 0, 1) := by decide +kernel
theorem dX6_takeBy256_109 : decode cX6_takeBy256 109 = .ok (.getfield 9, 3) := by decide +kernel
theorem dX6_takeBy256_112 : decode cX6_takeBy256 112 = .ok (.bipush 8, 2) := by decide +kernel
theorem dX6_takeBy256_114 : decode cX6_takeBy256 114 = .ok (.lshl, 1) := by decide +kernel
theorem dX6_takeBy256_115 : decode cX6_takeBy256 115 = .ok (.aload_n 0, 1) := by decide +kernel
theorem dX6_takeBy256_116 : decode cX6_takeBy256 116 = .ok (.getfield 30, 3) := by decide +kernel
theorem dX6_takeBy256_119 : decode cX6_takeBy256 119 = .ok (.iload 6, 2) := by decide +kernel
theorem dX6_takeBy256_121 : decode cX6_takeBy256 121 = .ok (.invokevirtual 56, 3) := by decide +kernel
theorem dX6_takeBy256_124 : decode cX6_takeBy256 124 = .ok (.i2l, 1) := by decide +kernel
theorem dX6_takeBy256_125 : decode cX6_takeBy256 125 = .ok (.lor, 1) := by decide +kernel
theorem dX6_takeBy256_126 : decode cX6_takeBy256 126 = .ok (.putfield 9, 3) := by decide +kernel
theorem dX6_takeBy256_129 : decode cX6_takeBy256 129 = .ok (.iinc 6 1, 3) := by decide +kernel
theorem dX6_takeBy256_132 : decode cX6_takeBy256 132 = .ok (.goto (-32), 3) := by decide +kernel
theorem dX6_takeBy256_135 : decode cX6_takeBy256 135 = .ok (.aload_n 0, 1) := by decide +kernel
theorem dX6_takeBy256_136 : decode cX6_takeBy256 136 = .ok (.getfield 9, 3) := by decide +kernel
theorem dX6_takeBy256_139 : decode cX6_takeBy256 139 = .ok (.lconst 0, 1) := by decide +kernel
theorem dX6_takeBy256_140 : decode cX6_takeBy256 140 = .ok (.lcmp, 1) := by decide +kernel
theorem dX6_takeBy256_141 : decode cX6_takeBy256 141 = .ok (.ifCond .ge 7, 3) := by decide +kernel
theorem dX6_takeBy256_144 : decode cX6_takeBy256 144 = .ok (.iconst 1, 1) := by decide +kernel
theorem dX6_takeBy256_145 : decode cX6_takeBy256 145 = .ok (.goto 4, 3) := by decide +kernel
theorem dX6_takeBy256_148 : decode cX6_takeBy256 148 = .ok (.iconst 0, 1) := by decide +kernel
theorem dX6_takeBy256_149 : decode cX6_takeBy256 149 = .ok (.iload_n 3, 1) := by decide +kernel
theorem dX6_takeBy256_150 : decode cX6_takeBy256 150 = .ok (.if_icmp .ne 7, 3) := by decide +kernel
theorem dX6_takeBy256_153 : decode cX6_takeBy256 153 = .ok (.iconst 1, 1) := by decide +kernel
theorem dX6_takeBy256_154 : decode cX6_takeBy256 154 = .ok (.goto 4, 3) := by decide +kernel
theorem dX6_takeBy256_157 : decode cX6_takeBy256 157 = .ok (.iconst 0, 1) := by decide +kernel
theorem dX6_takeBy256_158 : decode cX6_takeBy256 158 = .ok (.ireturn, 1) := by decide +kernel
theorem dX7_init_0 : decode cX7_init 0 = .ok (.aload_n 0, 1) := by decide +kernel
theorem dX7_init_1 : decode cX7_init 1 = .ok (.invokespecial 3, 3) := by decide +kernel
theorem dX7_init_4 : decode cX7_init 4 = .ok (.aload_n 0, 1) := by decide +kernel
theorem dX7_init_5 : decode cX7_init 5 = .ok (.iconst 0, 1) := by decide +kernel
theorem dX7_init_6 : decode cX7_init 6 = .ok (.putfield 9, 3) := by decide +kernel
theorem dX7_init_9 : decode cX7_init 9 = .ok (.aload_n 0, 1) := by decide +kernel
theorem dX7_init_10 : decode cX7_init 10 = .ok (.iload_n 1, 1) := by decide +kernel
theorem dX7_init_11 : decode cX7_init 11 = .ok (.iconst 0, 1) := by decide +kernel
theorem dX7_init_12 : decode cX7_init 12 = .ok (.invokestatic 15, 3) := by decide +kernel
theorem dX7_init_15 : decode cX7_init 15 = .ok (.newarray .byte, 2) := by decide +kernel
theorem dX7_init_17 : decode cX7_init 17 = .ok (.putfield 21, 3) := by decide +kernel
theorem dX7_init_20 : decode cX7_init 20 = .ok (.return_, 1) := by decide +kernel
theorem dX7_count_0 : decode cX7_count 0 = .ok (.aload_n 0, 1) := by decide +kernel
theorem dX7_count_1 : decode cX7_count 1 = .ok (.getfield 9, 3) := by decide +kernel
theorem dX7_count_4 : decode cX7_count 4 = .ok (.ireturn, 1) := by decide +kernel
theorem dX7_room_0 : decode cX7_room 0 = .ok (.aload_n 0, 1) := by decide +kernel
theorem dX7_room_1 : decode cX7_room 1 = .ok (.getfield 21, 3) := by decide +kernel
theorem dX7_room_4 : decode cX7_room 4 = .ok (.arraylength, 1) := by decide +kernel
theorem dX7_room_5 : decode cX7_room 5 = .ok (.aload_n 0, 1) := by decide +kernel
theorem dX7_room_6 : decode cX7_room 6 = .ok (.getfield 9, 3) := by decide +kernel
theorem dX7_room_9 : decode cX7_room 9 = .ok (.isub, 1) := by decide +kernel
theorem dX7_room_10 : decode cX7_room 10 = .ok (.ireturn, 1) := by decide +kernel
theorem dX7_at_0 : decode cX7_at 0 = .ok (.iload_n 1, 1) := by decide +kernel
theorem dX7_at_1 : decode cX7_at 1 = .ok (.ifCond .lt 33, 3) := by decide +kernel
theorem dX7_at_4 : decode cX7_at 4 = .ok (.iload_n 1, 1) := by decide +kernel
theorem dX7_at_5 : decode cX7_at 5 = .ok (.aload_n 0, 1) := by decide +kernel
theorem dX7_at_6 : decode cX7_at 6 = .ok (.getfield 9, 3) := by decide +kernel
theorem dX7_at_9 : decode cX7_at 9 = .ok (.if_icmp .ge 25, 3) := by decide +kernel
theorem dX7_at_12 : decode cX7_at 12 = .ok (.iload_n 1, 1) := by decide +kernel
theorem dX7_at_13 : decode cX7_at 13 = .ok (.aload_n 0, 1) := by decide +kernel
theorem dX7_at_14 : decode cX7_at 14 = .ok (.getfield 21, 3) := by decide +kernel
theorem dX7_at_17 : decode cX7_at 17 = .ok (.arraylength, 1) := by decide +kernel
theorem dX7_at_18 : decode cX7_at 18 = .ok (.if_icmp .ge 16, 3) := by decide +kernel
theorem dX7_at_21 : decode cX7_at 21 = .ok (.aload_n 0, 1) := by decide +kernel
theorem dX7_at_22 : decode cX7_at 22 = .ok (.getfield 21, 3) := by decide +kernel
theorem dX7_at_25 : decode cX7_at 25 = .ok (.iload_n 1, 1) := by decide +kernel
theorem dX7_at_26 : decode cX7_at 26 = .ok (.baload, 1) := by decide +kernel
theorem dX7_at_27 : decode cX7_at 27 = .ok (.sipush 255, 3) := by decide +kernel
theorem dX7_at_30 : decode cX7_at 30 = .ok (.iand, 1) := by decide +kernel
theorem dX7_at_31 : decode cX7_at 31 = .ok (.goto 4, 3) := by decide +kernel
theorem dX7_at_34 : decode cX7_at 34 = .ok (.iconst (-1), 1) := by decide +kernel
theorem dX7_at_35 : decode cX7_at 35 = .ok (.ireturn, 1) := by decide +kernel
theorem dX7_set_0 : decode cX7_set 0 = .ok (.iload_n 1, 1) := by decide +kernel
theorem dX7_set_1 : decode cX7_set 1 = .ok (.ifCond .lt 28, 3) := by decide +kernel
theorem dX7_set_4 : decode cX7_set 4 = .ok (.iload_n 1, 1) := by decide +kernel
theorem dX7_set_5 : decode cX7_set 5 = .ok (.aload_n 0, 1) := by decide +kernel
theorem dX7_set_6 : decode cX7_set 6 = .ok (.getfield 9, 3) := by decide +kernel
theorem dX7_set_9 : decode cX7_set 9 = .ok (.if_icmp .ge 20, 3) := by decide +kernel
theorem dX7_set_12 : decode cX7_set 12 = .ok (.iload_n 1, 1) := by decide +kernel
theorem dX7_set_13 : decode cX7_set 13 = .ok (.aload_n 0, 1) := by decide +kernel
theorem dX7_set_14 : decode cX7_set 14 = .ok (.getfield 21, 3) := by decide +kernel
theorem dX7_set_17 : decode cX7_set 17 = .ok (.arraylength, 1) := by decide +kernel
theorem dX7_set_18 : decode cX7_set 18 = .ok (.if_icmp .ge 11, 3) := by decide +kernel
theorem dX7_set_21 : decode cX7_set 21 = .ok (.aload_n 0, 1) := by decide +kernel
theorem dX7_set_22 : decode cX7_set 22 = .ok (.getfield 21, 3) := by decide +kernel
theorem dX7_set_25 : decode cX7_set 25 = .ok (.iload_n 1, 1) := by decide +kernel
theorem dX7_set_26 : decode cX7_set 26 = .ok (.iload_n 2, 1) := by decide +kernel
theorem dX7_set_27 : decode cX7_set 27 = .ok (.i2b, 1) := by decide +kernel
theorem dX7_set_28 : decode cX7_set 28 = .ok (.bastore, 1) := by decide +kernel
theorem dX7_set_29 : decode cX7_set 29 = .ok (.return_, 1) := by decide +kernel
theorem dX7_add_0 : decode cX7_add 0 = .ok (.aload_n 0, 1) := by decide +kernel
theorem dX7_add_1 : decode cX7_add 1 = .ok (.getfield 9, 3) := by decide +kernel
theorem dX7_add_4 : decode cX7_add 4 = .ok (.ifCond .lt 36, 3) := by decide +kernel
theorem dX7_add_7 : decode cX7_add 7 = .ok (.aload_n 0, 1) := by decide +kernel
theorem dX7_add_8 : decode cX7_add 8 = .ok (.getfield 9, 3) := by decide +kernel
theorem dX7_add_11 : decode cX7_add 11 = .ok (.aload_n 0, 1) := by decide +kernel
theorem dX7_add_12 : decode cX7_add 12 = .ok (.getfield 21, 3) := by decide +kernel
theorem dX7_add_15 : decode cX7_add 15 = .ok (.arraylength, 1) := by decide +kernel
theorem dX7_add_16 : decode cX7_add 16 = .ok (.if_icmp .ge 24, 3) := by decide +kernel
theorem dX7_add_19 : decode cX7_add 19 = .ok (.aload_n 0, 1) := by decide +kernel
theorem dX7_add_20 : decode cX7_add 20 = .ok (.getfield 21, 3) := by decide +kernel
theorem dX7_add_23 : decode cX7_add 23 = .ok (.aload_n 0, 1) := by decide +kernel
theorem dX7_add_24 : decode cX7_add 24 = .ok (.getfield 9, 3) := by decide +kernel
theorem dX7_add_27 : decode cX7_add 27 = .ok (.iload_n 1, 1) := by decide +kernel
theorem dX7_add_28 : decode cX7_add 28 = .ok (.i2b, 1) := by decide +kernel
theorem dX7_add_29 : decode cX7_add 29 = .ok (.bastore, 1) := by decide +kernel
theorem dX7_add_30 : decode cX7_add 30 = .ok (.aload_n 0, 1) := by decide +kernel
theorem dX7_add_31 : decode cX7_add 31 = .ok (.dup, 1) := by decide +kernel
theorem dX7_add_32 : decode cX7_add 32 = .ok (.getfield 9, 3) := by decide +kernel
theorem dX7_add_35 : decode cX7_add 35 = .ok (.iconst 1, 1) := by decide +kernel
theorem dX7_add_36 : decode cX7_add 36 = .ok (.iadd, 1) := by decide +kernel
theorem dX7_add_37 : decode cX7_add 37 = .ok (.putfield 9, 3) := by decide +kernel
theorem dX7_add_40 : decode cX7_add 40 = .ok (.return_, 1) := by decide +kernel
theorem dX7_empty_0 : decode cX7_empty 0 = .ok (.aload_n 0, 1) := by decide +kernel
theorem dX7_empty_1 : decode cX7_empty 1 = .ok (.iconst 0, 1) := by decide +kernel
theorem dX7_empty_2 : decode cX7_empty 2 = .ok (.putfield 9, 3) := by decide +kernel
theorem dX7_empty_5 : decode cX7_empty 5 = .ok (.return_, 1) := by decide +kernel
theorem dX7_keep_0 : decode cX7_keep 0 = .ok (.iload_n 1, 1) := by decide +kernel
theorem dX7_keep_1 : decode cX7_keep 1 = .ok (.ifCond .lt 16, 3) := by decide +kernel
theorem dX7_keep_4 : decode cX7_keep 4 = .ok (.iload_n 1, 1) := by decide +kernel
theorem dX7_keep_5 : decode cX7_keep 5 = .ok (.aload_n 0, 1) := by decide +kernel
theorem dX7_keep_6 : decode cX7_keep 6 = .ok (.getfield 9, 3) := by decide +kernel
theorem dX7_keep_9 : decode cX7_keep 9 = .ok (.if_icmp .ge 8, 3) := by decide +kernel
theorem dX7_keep_12 : decode cX7_keep 12 = .ok (.aload_n 0, 1) := by decide +kernel
theorem dX7_keep_13 : decode cX7_keep 13 = .ok (.iload_n 1, 1) := by decide +kernel
theorem dX7_keep_14 : decode cX7_keep 14 = .ok (.putfield 9, 3) := by decide +kernel
theorem dX7_keep_17 : decode cX7_keep 17 = .ok (.return_, 1) := by decide +kernel
theorem dX7_addWord_0 : decode cX7_addWord 0 = .ok (.aload_n 0, 1) := by decide +kernel
theorem dX7_addWord_1 : decode cX7_addWord 1 = .ok (.iload_n 1, 1) := by decide +kernel
theorem dX7_addWord_2 : decode cX7_addWord 2 = .ok (.bipush 24, 2) := by decide +kernel
theorem dX7_addWord_4 : decode cX7_addWord 4 = .ok (.iushr, 1) := by decide +kernel
theorem dX7_addWord_5 : decode cX7_addWord 5 = .ok (.invokevirtual 25, 3) := by decide +kernel
theorem dX7_addWord_8 : decode cX7_addWord 8 = .ok (.aload_n 0, 1) := by decide +kernel
theorem dX7_addWord_9 : decode cX7_addWord 9 = .ok (.iload_n 1, 1) := by decide +kernel
theorem dX7_addWord_10 : decode cX7_addWord 10 = .ok (.bipush 16, 2) := by decide +kernel
theorem dX7_addWord_12 : decode cX7_addWord 12 = .ok (.iushr, 1) := by decide +kernel
theorem dX7_addWord_13 : decode cX7_addWord 13 = .ok (.invokevirtual 25, 3) := by decide +kernel
theorem dX7_addWord_16 : decode cX7_addWord 16 = .ok (.aload_n 0, 1) := by decide +kernel
theorem dX7_addWord_17 : decode cX7_addWord 17 = .ok (.iload_n 1, 1) := by decide +kernel
theorem dX7_addWord_18 : decode cX7_addWord 18 = .ok (.bipush 8, 2) := by decide +kernel
theorem dX7_addWord_20 : decode cX7_addWord 20 = .ok (.iushr, 1) := by decide +kernel
theorem dX7_addWord_21 : decode cX7_addWord 21 = .ok (.invokevirtual 25, 3) := by decide +kernel
theorem dX7_addWord_24 : decode cX7_addWord 24 = .ok (.aload_n 0, 1) := by decide +kernel
theorem dX7_addWord_25 : decode cX7_addWord 25 = .ok (.iload_n 1, 1) := by decide +kernel
theorem dX7_addWord_26 : decode cX7_addWord 26 = .ok (.invokevirtual 25, 3) := by decide +kernel
theorem dX7_addWord_29 : decode cX7_addWord 29 = .ok (.return_, 1) := by decide +kernel
theorem dX7_addZeros_0 : decode cX7_addZeros 0 = .ok (.iconst 0, 1) := by decide +kernel
theorem dX7_addZeros_1 : decode cX7_addZeros 1 = .ok (.istore_n 2, 1) := by decide +kernel
theorem dX7_addZeros_2 : decode cX7_addZeros 2 = .ok (.iload_n 2, 1) := by decide +kernel
theorem dX7_addZeros_3 : decode cX7_addZeros 3 = .ok (.iload_n 1, 1) := by decide +kernel
theorem dX7_addZeros_4 : decode cX7_addZeros 4 = .ok (.if_icmp .ge 14, 3) := by decide +kernel
theorem dX7_addZeros_7 : decode cX7_addZeros 7 = .ok (.aload_n 0, 1) := by decide +kernel
theorem dX7_addZeros_8 : decode cX7_addZeros 8 = .ok (.iconst 0, 1) := by decide +kernel
theorem dX7_addZeros_9 : decode cX7_addZeros 9 = .ok (.invokevirtual 25, 3) := by decide +kernel
theorem dX7_addZeros_12 : decode cX7_addZeros 12 = .ok (.iinc 2 1, 3) := by decide +kernel
theorem dX7_addZeros_15 : decode cX7_addZeros 15 = .ok (.goto (-13), 3) := by decide +kernel
theorem dX7_addZeros_18 : decode cX7_addZeros 18 = .ok (.return_, 1) := by decide +kernel
theorem dX7_become_0 : decode cX7_become 0 = .ok (.iload_n 3, 1) := by decide +kernel
theorem dX7_become_1 : decode cX7_become 1 = .ok (.iload_n 2, 1) := by decide +kernel
theorem dX7_become_2 : decode cX7_become 2 = .ok (.isub, 1) := by decide +kernel
theorem dX7_become_3 : decode cX7_become 3 = .ok (.iconst 1, 1) := by decide +kernel
theorem dX7_become_4 : decode cX7_become 4 = .ok (.if_icmp .lt 14, 3) := by decide +kernel
theorem dX7_become_7 : decode cX7_become 7 = .ok (.iload_n 3, 1) := by decide +kernel
theorem dX7_become_8 : decode cX7_become 8 = .ok (.iload_n 2, 1) := by decide +kernel
theorem dX7_become_9 : decode cX7_become 9 = .ok (.isub, 1) := by decide +kernel
theorem dX7_become_10 : decode cX7_become 10 = .ok (.aload_n 0, 1) := by decide +kernel
theorem dX7_become_11 : decode cX7_become 11 = .ok (.getfield 21, 3) := by decide +kernel
theorem dX7_become_14 : decode cX7_become 14 = .ok (.arraylength, 1) := by decide +kernel
theorem dX7_become_15 : decode cX7_become 15 = .ok (.if_icmp .le 5, 3) := by decide +kernel
theorem dX7_become_18 : decode cX7_become 18 = .ok (.iconst 0, 1) := by decide +kernel
theorem dX7_become_19 : decode cX7_become 19 = .ok (.ireturn, 1) := by decide +kernel
theorem dX7_become_20 : decode cX7_become 20 = .ok (.aload_n 0, 1) := by decide +kernel
theorem dX7_become_21 : decode cX7_become 21 = .ok (.iconst 0, 1) := by decide +kernel
theorem dX7_become_22 : decode cX7_become 22 = .ok (.putfield 9, 3) := by decide +kernel
theorem dX7_become_25 : decode cX7_become 25 = .ok (.aload_n 0, 1) := by decide +kernel
theorem dX7_become_26 : decode cX7_become 26 = .ok (.aload_n 1, 1) := by decide +kernel
theorem dX7_become_27 : decode cX7_become 27 = .ok (.iload_n 2, 1) := by decide +kernel
theorem dX7_become_28 : decode cX7_become 28 = .ok (.iload_n 3, 1) := by decide +kernel
theorem dX7_become_29 : decode cX7_become 29 = .ok (.invokevirtual 29, 3) := by decide +kernel
theorem dX7_become_32 : decode cX7_become 32 = .ok (.iconst 1, 1) := by decide +kernel
theorem dX7_become_33 : decode cX7_become 33 = .ok (.ireturn, 1) := by decide +kernel
theorem dX7_addPart_0 : decode cX7_addPart 0 = .ok (.iload_n 2, 1) := by decide +kernel
theorem dX7_addPart_1 : decode cX7_addPart 1 = .ok (.istore 4, 2) := by decide +kernel
theorem dX7_addPart_3 : decode cX7_addPart 3 = .ok (.iload 4, 2) := by decide +kernel
theorem dX7_addPart_5 : decode cX7_addPart 5 = .ok (.iload_n 3, 1) := by decide +kernel
theorem dX7_addPart_6 : decode cX7_addPart 6 = .ok (.if_icmp .ge 19, 3) := by decide +kernel
theorem dX7_addPart_9 : decode cX7_addPart 9 = .ok (.aload_n 0, 1) := by decide +kernel
theorem dX7_addPart_10 : decode cX7_addPart 10 = .ok (.aload_n 1, 1) := by decide +kernel
theorem dX7_addPart_11 : decode cX7_addPart 11 = .ok (.iload 4, 2) := by decide +kernel
theorem dX7_addPart_13 : decode cX7_addPart 13 = .ok (.invokevirtual 33, 3) := by decide +kernel
theorem dX7_addPart_16 : decode cX7_addPart 16 = .ok (.invokevirtual 25, 3) := by decide +kernel
theorem dX7_addPart_19 : decode cX7_addPart 19 = .ok (.iinc 4 1, 3) := by decide +kernel
theorem dX7_addPart_22 : decode cX7_addPart 22 = .ok (.goto (-19), 3) := by decide +kernel
theorem dX7_addPart_25 : decode cX7_addPart 25 = .ok (.return_, 1) := by decide +kernel
theorem dX7_addText_0 : decode cX7_addText 0 = .ok (.iconst 0, 1) := by decide +kernel
theorem dX7_addText_1 : decode cX7_addText 1 = .ok (.istore_n 2, 1) := by decide +kernel
theorem dX7_addText_2 : decode cX7_addText 2 = .ok (.iload_n 2, 1) := by decide +kernel
theorem dX7_addText_3 : decode cX7_addText 3 = .ok (.aload_n 1, 1) := by decide +kernel
theorem dX7_addText_4 : decode cX7_addText 4 = .ok (.invokevirtual 37, 3) := by decide +kernel
theorem dX7_addText_7 : decode cX7_addText 7 = .ok (.if_icmp .ge 18, 3) := by decide +kernel
theorem dX7_addText_10 : decode cX7_addText 10 = .ok (.aload_n 0, 1) := by decide +kernel
theorem dX7_addText_11 : decode cX7_addText 11 = .ok (.aload_n 1, 1) := by decide +kernel
theorem dX7_addText_12 : decode cX7_addText 12 = .ok (.iload_n 2, 1) := by decide +kernel
theorem dX7_addText_13 : decode cX7_addText 13 = .ok (.invokevirtual 43, 3) := by decide +kernel
theorem dX7_addText_16 : decode cX7_addText 16 = .ok (.invokevirtual 25, 3) := by decide +kernel
theorem dX7_addText_19 : decode cX7_addText 19 = .ok (.iinc 2 1, 3) := by decide +kernel
theorem dX7_addText_22 : decode cX7_addText 22 = .ok (.goto (-20), 3) := by decide +kernel
theorem dX7_addText_25 : decode cX7_addText 25 = .ok (.return_, 1) := by decide +kernel
theorem dX7_addDecimal_0 : decode cX7_addDecimal 0 = .ok (.lload_n 1, 1) := by decide +kernel
theorem dX7_addDecimal_1 : decode cX7_addDecimal 1 = .ok (.invokestatic 47, 3) := by decide +kernel
theorem dX7_addDecimal_4 : decode cX7_addDecimal 4 = .ok (.istore_n 3, 1) := by decide +kernel
theorem dX7_addDecimal_5 : decode cX7_addDecimal 5 = .ok (.lconst 1, 1) := by decide +kernel
theorem dX7_addDecimal_6 : decode cX7_addDecimal 6 = .ok (.lstore 4, 2) := by decide +kernel
theorem dX7_addDecimal_8 : decode cX7_addDecimal 8 = .ok (.iconst 1, 1) := by decide +kernel
theorem dX7_addDecimal_9 : decode cX7_addDecimal 9 = .ok (.istore 6, 2) := by decide +kernel
theorem dX7_addDecimal_11 : decode cX7_addDecimal 11 = .ok (.iload 6, 2) := by decide +kernel
theorem dX7_addDecimal_13 : decode cX7_addDecimal 13 = .ok (.iload_n 3, 1) := by decide +kernel
theorem dX7_addDecimal_14 : decode cX7_addDecimal 14 = .ok (.if_icmp .ge 17, 3) := by decide +kernel
theorem dX7_addDecimal_17 : decode cX7_addDecimal 17 = .ok (.lload 4, 2) := by decide +kernel
theorem dX7_addDecimal_19 : decode cX7_addDecimal 19 = .ok (.ldc2_w 51, 3) := by decide +kernel
theorem dX7_addDecimal_22 : decode cX7_addDecimal 22 = .ok (.lmul, 1) := by decide +kernel
theorem dX7_addDecimal_23 : decode cX7_addDecimal 23 = .ok (.lstore 4, 2) := by decide +kernel
theorem dX7_addDecimal_25 : decode cX7_addDecimal 25 = .ok (.iinc 6 1, 3) := by decide +kernel
theorem dX7_addDecimal_28 : decode cX7_addDecimal 28 = .ok (.goto (-17), 3) := by decide +kernel
theorem dX7_addDecimal_31 : decode cX7_addDecimal 31 = .ok (.iconst 0, 1) := by decide +kernel
theorem dX7_addDecimal_32 : decode cX7_addDecimal 32 = .ok (.istore 6, 2) := by decide +kernel
theorem dX7_addDecimal_34 : decode cX7_addDecimal 34 = .ok (.iload 6, 2) := by decide +kernel
theorem dX7_addDecimal_36 : decode cX7_addDecimal 36 = .ok (.iload_n 3, 1) := by decide +kernel
theorem dX7_addDecimal_37 : decode cX7_addDecimal 37 = .ok (.if_icmp .ge 40, 3) := by decide +kernel
theorem dX7_addDecimal_40 : decode cX7_addDecimal 40 = .ok (.lload 4, 2) := by decide +kernel
theorem dX7_addDecimal_42 : decode cX7_addDecimal 42 = .ok (.lconst 0, 1) := by decide +kernel
theorem dX7_addDecimal_43 : decode cX7_addDecimal 43 = .ok (.lcmp, 1) := by decide +kernel
theorem dX7_addDecimal_44 : decode cX7_addDecimal 44 = .ok (.ifCond .le 33, 3) := by decide +kernel
theorem dX7_addDecimal_47 : decode cX7_addDecimal 47 = .ok (.aload_n 0, 1) := by decide +kernel
theorem dX7_addDecimal_48 : decode cX7_addDecimal 48 = .ok (.bipush 48, 2) := by decide +kernel
theorem dX7_addDecimal_50 : decode cX7_addDecimal 50 = .ok (.lload_n 1, 1) := by decide +kernel
theorem dX7_addDecimal_51 : decode cX7_addDecimal 51 = .ok (.lload 4, 2) := by decide +kernel
theorem dX7_addDecimal_53 : decode cX7_addDecimal 53 = .ok (.ldiv, 1) := by decide +kernel
theorem dX7_addDecimal_54 : decode cX7_addDecimal 54 = .ok (.ldc2_w 51, 3) := by decide +kernel
theorem dX7_addDecimal_57 : decode cX7_addDecimal 57 = .ok (.lrem, 1) := by decide +kernel
theorem dX7_addDecimal_58 : decode cX7_addDecimal 58 = .ok (.l2i, 1) := by decide +kernel
theorem dX7_addDecimal_59 : decode cX7_addDecimal 59 = .ok (.iadd, 1) := by decide +kernel
theorem dX7_addDecimal_60 : decode cX7_addDecimal 60 = .ok (.invokevirtual 25, 3) := by decide +kernel
theorem dX7_addDecimal_63 : decode cX7_addDecimal 63 = .ok (.lload 4, 2) := by decide +kernel
theorem dX7_addDecimal_65 : decode cX7_addDecimal 65 = .ok (.ldc2_w 51, 3) := by decide +kernel
theorem dX7_addDecimal_68 : decode cX7_addDecimal 68 = .ok (.ldiv, 1) := by decide +kernel
theorem dX7_addDecimal_69 : decode cX7_addDecimal 69 = .ok (.lstore 4, 2) := by decide +kernel
theorem dX7_addDecimal_71 : decode cX7_addDecimal 71 = .ok (.iinc 6 1, 3) := by decide +kernel
theorem dX7_addDecimal_74 : decode cX7_addDecimal 74 = .ok (.goto (-40), 3) := by decide +kernel
theorem dX7_addDecimal_77 : decode cX7_addDecimal 77 = .ok (.return_, 1) := by decide +kernel
theorem dX7_setPart_0 : decode cX7_setPart 0 = .ok (.iload_n 3, 1) := by decide +kernel
theorem dX7_setPart_1 : decode cX7_setPart 1 = .ok (.istore 5, 2) := by decide +kernel
theorem dX7_setPart_3 : decode cX7_setPart 3 = .ok (.iload 5, 2) := by decide +kernel
theorem dX7_setPart_5 : decode cX7_setPart 5 = .ok (.iload 4, 2) := by decide +kernel
theorem dX7_setPart_7 : decode cX7_setPart 7 = .ok (.if_icmp .ge 25, 3) := by decide +kernel
theorem dX7_setPart_10 : decode cX7_setPart 10 = .ok (.aload_n 0, 1) := by decide +kernel
theorem dX7_setPart_11 : decode cX7_setPart 11 = .ok (.iload_n 1, 1) := by decide +kernel
theorem dX7_setPart_12 : decode cX7_setPart 12 = .ok (.iload 5, 2) := by decide +kernel
theorem dX7_setPart_14 : decode cX7_setPart 14 = .ok (.iadd, 1) := by decide +kernel
theorem dX7_setPart_15 : decode cX7_setPart 15 = .ok (.iload_n 3, 1) := by decide +kernel
theorem dX7_setPart_16 : decode cX7_setPart 16 = .ok (.isub, 1) := by decide +kernel
theorem dX7_setPart_17 : decode cX7_setPart 17 = .ok (.aload_n 2, 1) := by decide +kernel
theorem dX7_setPart_18 : decode cX7_setPart 18 = .ok (.iload 5, 2) := by decide +kernel
theorem dX7_setPart_20 : decode cX7_setPart 20 = .ok (.invokevirtual 33, 3) := by decide +kernel
theorem dX7_setPart_23 : decode cX7_setPart 23 = .ok (.invokevirtual 53, 3) := by decide +kernel
theorem dX7_setPart_26 : decode cX7_setPart 26 = .ok (.iinc 5 1, 3) := by decide +kernel
theorem dX7_setPart_29 : decode cX7_setPart 29 = .ok (.goto (-26), 3) := by decide +kernel
theorem dX7_setPart_32 : decode cX7_setPart 32 = .ok (.return_, 1) := by decide +kernel
theorem dX7_setText_0 : decode cX7_setText 0 = .ok (.iconst 0, 1) := by decide +kernel
theorem dX7_setText_1 : decode cX7_setText 1 = .ok (.istore_n 3, 1) := by decide +kernel
theorem dX7_setText_2 : decode cX7_setText 2 = .ok (.iload_n 3, 1) := by decide +kernel
theorem dX7_setText_3 : decode cX7_setText 3 = .ok (.aload_n 2, 1) := by decide +kernel
theorem dX7_setText_4 : decode cX7_setText 4 = .ok (.invokevirtual 37, 3) := by decide +kernel
theorem dX7_setText_7 : decode cX7_setText 7 = .ok (.if_icmp .ge 21, 3) := by decide +kernel
theorem dX7_setText_10 : decode cX7_setText 10 = .ok (.aload_n 0, 1) := by decide +kernel
theorem dX7_setText_11 : decode cX7_setText 11 = .ok (.iload_n 1, 1) := by decide +kernel
theorem dX7_setText_12 : decode cX7_setText 12 = .ok (.iload_n 3, 1) := by decide +kernel
theorem dX7_setText_13 : decode cX7_setText 13 = .ok (.iadd, 1) := by decide +kernel
theorem dX7_setText_14 : decode cX7_setText 14 = .ok (.aload_n 2, 1) := by decide +kernel
theorem dX7_setText_15 : decode cX7_setText 15 = .ok (.iload_n 3, 1) := by decide +kernel
theorem dX7_setText_16 : decode cX7_setText 16 = .ok (.invokevirtual 43, 3) := by decide +kernel
theorem dX7_setText_19 : decode cX7_setText 19 = .ok (.invokevirtual 53, 3) := by decide +kernel
theorem dX7_setText_22 : decode cX7_setText 22 = .ok (.iinc 3 1, 3) := by decide +kernel
theorem dX7_setText_25 : decode cX7_setText 25 = .ok (.goto (-23), 3) := by decide +kernel
theorem dX7_setText_28 : decode cX7_setText 28 = .ok (.return_, 1) := by decide +kernel
theorem dX7_setAll_0 : decode cX7_setAll 0 = .ok (.iconst 0, 1) := by decide +kernel
theorem dX7_setAll_1 : decode cX7_setAll 1 = .ok (.istore_n 3, 1) := by decide +kernel
theorem dX7_setAll_2 : decode cX7_setAll 2 = .ok (.iload_n 3, 1) := by decide +kernel
theorem dX7_setAll_3 : decode cX7_setAll 3 = .ok (.aload_n 2, 1) := by decide +kernel
theorem dX7_setAll_4 : decode cX7_setAll 4 = .ok (.arraylength, 1) := by decide +kernel
theorem dX7_setAll_5 : decode cX7_setAll 5 = .ok (.if_icmp .ge 19, 3) := by decide +kernel
theorem dX7_setAll_8 : decode cX7_setAll 8 = .ok (.aload_n 0, 1) := by decide +kernel
theorem dX7_setAll_9 : decode cX7_setAll 9 = .ok (.iload_n 1, 1) := by decide +kernel
theorem dX7_setAll_10 : decode cX7_setAll 10 = .ok (.iload_n 3, 1) := by decide +kernel
theorem dX7_setAll_11 : decode cX7_setAll 11 = .ok (.iadd, 1) := by decide +kernel
theorem dX7_setAll_12 : decode cX7_setAll 12 = .ok (.aload_n 2, 1) := by decide +kernel
theorem dX7_setAll_13 : decode cX7_setAll 13 = .ok (.iload_n 3, 1) := by decide +kernel
theorem dX7_setAll_14 : decode cX7_setAll 14 = .ok (.iaload, 1) := by decide +kernel
theorem dX7_setAll_15 : decode cX7_setAll 15 = .ok (.invokevirtual 53, 3) := by decide +kernel
theorem dX7_setAll_18 : decode cX7_setAll 18 = .ok (.iinc 3 1, 3) := by decide +kernel
theorem dX7_setAll_21 : decode cX7_setAll 21 = .ok (.goto (-19), 3) := by decide +kernel
theorem dX7_setAll_24 : decode cX7_setAll 24 = .ok (.return_, 1) := by decide +kernel
theorem dX7_setOctal_0 : decode cX7_setOctal 0 = .ok (.lload_n 3, 1) := by decide +kernel
theorem dX7_setOctal_1 : decode cX7_setOctal 1 = .ok (.lstore 5, 2) := by decide +kernel
theorem dX7_setOctal_3 : decode cX7_setOctal 3 = .ok (.iload_n 2, 1) := by decide +kernel
theorem dX7_setOctal_4 : decode cX7_setOctal 4 = .ok (.iconst 1, 1) := by decide +kernel
theorem dX7_setOctal_5 : decode cX7_setOctal 5 = .ok (.isub, 1) := by decide +kernel
theorem dX7_setOctal_6 : decode cX7_setOctal 6 = .ok (.istore 7, 2) := by decide +kernel
theorem dX7_setOctal_8 : decode cX7_setOctal 8 = .ok (.iload 7, 2) := by decide +kernel
theorem dX7_setOctal_10 : decode cX7_setOctal 10 = .ok (.ifCond .lt 33, 3) := by decide +kernel
theorem dX7_setOctal_13 : decode cX7_setOctal 13 = .ok (.aload_n 0, 1) := by decide +kernel
theorem dX7_setOctal_14 : decode cX7_setOctal 14 = .ok (.iload_n 1, 1) := by decide +kernel
theorem dX7_setOctal_15 : decode cX7_setOctal 15 = .ok (.iload 7, 2) := by decide +kernel
theorem dX7_setOctal_17 : decode cX7_setOctal 17 = .ok (.iadd, 1) := by decide +kernel
theorem dX7_setOctal_18 : decode cX7_setOctal 18 = .ok (.bipush 48, 2) := by decide +kernel
theorem dX7_setOctal_20 : decode cX7_setOctal 20 = .ok (.lload 5, 2) := by decide +kernel
theorem dX7_setOctal_22 : decode cX7_setOctal 22 = .ok (.ldc2_w 57, 3) := by decide +kernel
theorem dX7_setOctal_25 : decode cX7_setOctal 25 = .ok (.land, 1) := by decide +kernel
theorem dX7_setOctal_26 : decode cX7_setOctal 26 = .ok (.l2i, 1) := by decide +kernel
theorem dX7_setOctal_27 : decode cX7_setOctal 27 = .ok (.iadd, 1) := by decide +kernel
theorem dX7_setOctal_28 : decode cX7_setOctal 28 = .ok (.invokevirtual 53, 3) := by decide +kernel
theorem dX7_setOctal_31 : decode cX7_setOctal 31 = .ok (.lload 5, 2) := by decide +kernel
theorem dX7_setOctal_33 : decode cX7_setOctal 33 = .ok (.iconst 3, 1) := by decide +kernel
theorem dX7_setOctal_34 : decode cX7_setOctal 34 = .ok (.lushr, 1) := by decide +kernel
theorem dX7_setOctal_35 : decode cX7_setOctal 35 = .ok (.lstore 5, 2) := by decide +kernel
theorem dX7_setOctal_37 : decode cX7_setOctal 37 = .ok (.iinc 7 (-1), 3) := by decide +kernel
theorem dX7_setOctal_40 : decode cX7_setOctal 40 = .ok (.goto (-32), 3) := by decide +kernel
theorem dX7_setOctal_43 : decode cX7_setOctal 43 = .ok (.return_, 1) := by decide +kernel
theorem dX7_find_0 : decode cX7_find 0 = .ok (.iload_n 2, 1) := by decide +kernel
theorem dX7_find_1 : decode cX7_find 1 = .ok (.istore 4, 2) := by decide +kernel
theorem dX7_find_3 : decode cX7_find 3 = .ok (.iload 4, 2) := by decide +kernel
theorem dX7_find_5 : decode cX7_find 5 = .ok (.iload_n 3, 1) := by decide +kernel
theorem dX7_find_6 : decode cX7_find 6 = .ok (.if_icmp .ge 22, 3) := by decide +kernel
theorem dX7_find_9 : decode cX7_find 9 = .ok (.aload_n 0, 1) := by decide +kernel
theorem dX7_find_10 : decode cX7_find 10 = .ok (.iload 4, 2) := by decide +kernel
theorem dX7_find_12 : decode cX7_find 12 = .ok (.invokevirtual 33, 3) := by decide +kernel
theorem dX7_find_15 : decode cX7_find 15 = .ok (.iload_n 1, 1) := by decide +kernel
theorem dX7_find_16 : decode cX7_find 16 = .ok (.if_icmp .ne 6, 3) := by decide +kernel
theorem dX7_find_19 : decode cX7_find 19 = .ok (.iload 4, 2) := by decide +kernel
theorem dX7_find_21 : decode cX7_find 21 = .ok (.ireturn, 1) := by decide +kernel
theorem dX7_find_22 : decode cX7_find 22 = .ok (.iinc 4 1, 3) := by decide +kernel
theorem dX7_find_25 : decode cX7_find 25 = .ok (.goto (-22), 3) := by decide +kernel
theorem dX7_find_28 : decode cX7_find 28 = .ok (.iload_n 3, 1) := by decide +kernel
theorem dX7_find_29 : decode cX7_find 29 = .ok (.ireturn, 1) := by decide +kernel
theorem dX7_holds_0 : decode cX7_holds 0 = .ok (.iload_n 2, 1) := by decide +kernel
theorem dX7_holds_1 : decode cX7_holds 1 = .ok (.iload_n 1, 1) := by decide +kernel
theorem dX7_holds_2 : decode cX7_holds 2 = .ok (.isub, 1) := by decide +kernel
theorem dX7_holds_3 : decode cX7_holds 3 = .ok (.aload_n 3, 1) := by decide +kernel
theorem dX7_holds_4 : decode cX7_holds 4 = .ok (.invokevirtual 37, 3) := by decide +kernel
theorem dX7_holds_7 : decode cX7_holds 7 = .ok (.if_icmp .eq 5, 3) := by decide +kernel
theorem dX7_holds_10 : decode cX7_holds 10 = .ok (.iconst 0, 1) := by decide +kernel
theorem dX7_holds_11 : decode cX7_holds 11 = .ok (.ireturn, 1) := by decide +kernel
theorem dX7_holds_12 : decode cX7_holds 12 = .ok (.iconst 0, 1) := by decide +kernel
theorem dX7_holds_13 : decode cX7_holds 13 = .ok (.istore 4, 2) := by decide +kernel
theorem dX7_holds_15 : decode cX7_holds 15 = .ok (.iload 4, 2) := by decide +kernel
theorem dX7_holds_17 : decode cX7_holds 17 = .ok (.aload_n 3, 1) := by decide +kernel
theorem dX7_holds_18 : decode cX7_holds 18 = .ok (.invokevirtual 37, 3) := by decide +kernel
theorem dX7_holds_21 : decode cX7_holds 21 = .ok (.if_icmp .ge 28, 3) := by decide +kernel
theorem dX7_holds_24 : decode cX7_holds 24 = .ok (.aload_n 0, 1) := by decide +kernel
theorem dX7_holds_25 : decode cX7_holds 25 = .ok (.iload_n 1, 1) := by decide +kernel
theorem dX7_holds_26 : decode cX7_holds 26 = .ok (.iload 4, 2) := by decide +kernel
theorem dX7_holds_28 : decode cX7_holds 28 = .ok (.iadd, 1) := by decide +kernel
theorem dX7_holds_29 : decode cX7_holds 29 = .ok (.invokevirtual 33, 3) := by decide +kernel
theorem dX7_holds_32 : decode cX7_holds 32 = .ok (.aload_n 3, 1) := by decide +kernel
theorem dX7_holds_33 : decode cX7_holds 33 = .ok (.iload 4, 2) := by decide +kernel
theorem dX7_holds_35 : decode cX7_holds 35 = .ok (.invokevirtual 43, 3) := by decide +kernel
theorem dX7_holds_38 : decode cX7_holds 38 = .ok (.if_icmp .eq 5, 3) := by decide +kernel
theorem dX7_holds_41 : decode cX7_holds 41 = .ok (.iconst 0, 1) := by decide +kernel
theorem dX7_holds_42 : decode cX7_holds 42 = .ok (.ireturn, 1) := by decide +kernel
theorem dX7_holds_43 : decode cX7_holds 43 = .ok (.iinc 4 1, 3) := by decide +kernel
theorem dX7_holds_46 : decode cX7_holds 46 = .ok (.goto (-31), 3) := by decide +kernel
theorem dX7_holds_49 : decode cX7_holds 49 = .ok (.iconst 1, 1) := by decide +kernel
theorem dX7_holds_50 : decode cX7_holds 50 = .ok (.ireturn, 1) := by decide +kernel
theorem dX7_endsWithSlash_0 : decode cX7_endsWithSlash 0 = .ok (.aload_n 0, 1) := by decide +kernel
theorem dX7_endsWithSlash_1 : decode cX7_endsWithSlash 1 = .ok (.aload_n 0, 1) := by decide +kernel
theorem dX7_endsWithSlash_2 : decode cX7_endsWithSlash 2 = .ok (.getfield 9, 3) := by decide +kernel
theorem dX7_endsWithSlash_5 : decode cX7_endsWithSlash 5 = .ok (.iconst 1, 1) := by decide +kernel
theorem dX7_endsWithSlash_6 : decode cX7_endsWithSlash 6 = .ok (.isub, 1) := by decide +kernel
theorem dX7_endsWithSlash_7 : decode cX7_endsWithSlash 7 = .ok (.invokevirtual 33, 3) := by decide +kernel
theorem dX7_endsWithSlash_10 : decode cX7_endsWithSlash 10 = .ok (.bipush 47, 2) := by decide +kernel
theorem dX7_endsWithSlash_12 : decode cX7_endsWithSlash 12 = .ok (.if_icmp .ne 7, 3) := by decide +kernel
theorem dX7_endsWithSlash_15 : decode cX7_endsWithSlash 15 = .ok (.iconst 1, 1) := by decide +kernel
theorem dX7_endsWithSlash_16 : decode cX7_endsWithSlash 16 = .ok (.goto 4, 3) := by decide +kernel
theorem dX7_endsWithSlash_19 : decode cX7_endsWithSlash 19 = .ok (.iconst 0, 1) := by decide +kernel
theorem dX7_endsWithSlash_20 : decode cX7_endsWithSlash 20 = .ok (.ireturn, 1) := by decide +kernel
theorem dX7_decimal_0 : decode cX7_decimal 0 = .ok (.iload_n 2, 1) := by decide +kernel
theorem dX7_decimal_1 : decode cX7_decimal 1 = .ok (.iload_n 1, 1) := by decide +kernel
theorem dX7_decimal_2 : decode cX7_decimal 2 = .ok (.isub, 1) := by decide +kernel
theorem dX7_decimal_3 : decode cX7_decimal 3 = .ok (.iconst 1, 1) := by decide +kernel
theorem dX7_decimal_4 : decode cX7_decimal 4 = .ok (.if_icmp .lt 10, 3) := by decide +kernel
theorem dX7_decimal_7 : decode cX7_decimal 7 = .ok (.iload_n 2, 1) := by decide +kernel
theorem dX7_decimal_8 : decode cX7_decimal 8 = .ok (.iload_n 1, 1) := by decide +kernel
theorem dX7_decimal_9 : decode cX7_decimal 9 = .ok (.isub, 1) := by decide +kernel
theorem dX7_decimal_10 : decode cX7_decimal 10 = .ok (.iload_n 3, 1) := by decide +kernel
theorem dX7_decimal_11 : decode cX7_decimal 11 = .ok (.if_icmp .le 7, 3) := by decide +kernel
theorem dX7_decimal_14 : decode cX7_decimal 14 = .ok (.ldc2_w 59, 3) := by decide +kernel
theorem dX7_decimal_17 : decode cX7_decimal 17 = .ok (.lreturn, 1) := by decide +kernel
theorem dX7_decimal_18 : decode cX7_decimal 18 = .ok (.lconst 0, 1) := by decide +kernel
theorem dX7_decimal_19 : decode cX7_decimal 19 = .ok (.lstore 4, 2) := by decide +kernel
theorem dX7_decimal_21 : decode cX7_decimal 21 = .ok (.iload_n 1, 1) := by decide +kernel
theorem dX7_decimal_22 : decode cX7_decimal 22 = .ok (.istore 6, 2) := by decide +kernel
theorem dX7_decimal_24 : decode cX7_decimal 24 = .ok (.iload 6, 2) := by decide +kernel
theorem dX7_decimal_26 : decode cX7_decimal 26 = .ok (.iload_n 2, 1) := by decide +kernel
theorem dX7_decimal_27 : decode cX7_decimal 27 = .ok (.if_icmp .ge 48, 3) := by decide +kernel
theorem dX7_decimal_30 : decode cX7_decimal 30 = .ok (.aload_n 0, 1) := by decide +kernel
theorem dX7_decimal_31 : decode cX7_decimal 31 = .ok (.iload 6, 2) := by decide +kernel
theorem dX7_decimal_33 : decode cX7_decimal 33 = .ok (.invokevirtual 33, 3) := by decide +kernel
theorem dX7_decimal_36 : decode cX7_decimal 36 = .ok (.bipush 48, 2) := by decide +kernel
theorem dX7_decimal_38 : decode cX7_decimal 38 = .ok (.isub, 1) := by decide +kernel
theorem dX7_decimal_39 : decode cX7_decimal 39 = .ok (.istore 7, 2) := by decide +kernel
theorem dX7_decimal_41 : decode cX7_decimal 41 = .ok (.iload 7, 2) := by decide +kernel
theorem dX7_decimal_43 : decode cX7_decimal 43 = .ok (.ifCond .lt 10, 3) := by decide +kernel
theorem dX7_decimal_46 : decode cX7_decimal 46 = .ok (.iload 7, 2) := by decide +kernel
theorem dX7_decimal_48 : decode cX7_decimal 48 = .ok (.bipush 9, 2) := by decide +kernel
theorem dX7_decimal_50 : decode cX7_decimal 50 = .ok (.if_icmp .le 7, 3) := by decide +kernel
theorem dX7_decimal_53 : decode cX7_decimal 53 = .ok (.ldc2_w 59, 3) := by decide +kernel
theorem dX7_decimal_56 : decode cX7_decimal 56 = .ok (.lreturn, 1) := by decide +kernel
theorem dX7_decimal_57 : decode cX7_decimal 57 = .ok (.lload 4, 2) := by decide +kernel
theorem dX7_decimal_59 : decode cX7_decimal 59 = .ok (.ldc2_w 51, 3) := by decide +kernel
theorem dX7_decimal_62 : decode cX7_decimal 62 = .ok (.lmul, 1) := by decide +kernel
theorem dX7_decimal_63 : decode cX7_decimal 63 = .ok (.iload 7, 2) := by decide +kernel
theorem dX7_decimal_65 : decode cX7_decimal 65 = .ok (.i2l, 1) := by decide +kernel
theorem dX7_decimal_66 : decode cX7_decimal 66 = .ok (.ladd, 1) := by decide +kernel
theorem dX7_decimal_67 : decode cX7_decimal 67 = .ok (.lstore 4, 2) := by decide +kernel
theorem dX7_decimal_69 : decode cX7_decimal 69 = .ok (.iinc 6 1, 3) := by decide +kernel
theorem dX7_decimal_72 : decode cX7_decimal 72 = .ok (.goto (-48), 3) := by decide +kernel
theorem dX7_decimal_75 : decode cX7_decimal 75 = .ok (.lload 4, 2) := by decide +kernel
theorem dX7_decimal_77 : decode cX7_decimal 77 = .ok (.lreturn, 1) := by decide +kernel
theorem dX7_decimalWidth_0 : decode cX7_decimalWidth 0 = .ok (.iconst 1, 1) := by decide +kernel
theorem dX7_decimalWidth_1 : decode cX7_decimalWidth 1 = .ok (.istore_n 2, 1) := by decide +kernel
theorem dX7_decimalWidth_2 : decode cX7_decimalWidth 2 = .ok (.lload_n 0, 1) := by decide +kernel
theorem dX7_decimalWidth_3 : decode cX7_decimalWidth 3 = .ok (.ldc2_w 51, 3) := by decide +kernel
theorem dX7_decimalWidth_6 : decode cX7_decimalWidth 6 = .ok (.ldiv, 1) := by decide +kernel
theorem dX7_decimalWidth_7 : decode cX7_decimalWidth 7 = .ok (.lstore_n 3, 1) := by decide +kernel
theorem dX7_decimalWidth_8 : decode cX7_decimalWidth 8 = .ok (.iconst 1, 1) := by decide +kernel
theorem dX7_decimalWidth_9 : decode cX7_decimalWidth 9 = .ok (.istore 5, 2) := by decide +kernel
theorem dX7_decimalWidth_11 : decode cX7_decimalWidth 11 = .ok (.iload 5, 2) := by decide +kernel
theorem dX7_decimalWidth_13 : decode cX7_decimalWidth 13 = .ok (.bipush 19, 2) := by decide +kernel
theorem dX7_decimalWidth_15 : decode cX7_decimalWidth 15 = .ok (.if_icmp .ge 24, 3) := by decide +kernel
theorem dX7_decimalWidth_18 : decode cX7_decimalWidth 18 = .ok (.lload_n 3, 1) := by decide +kernel
theorem dX7_decimalWidth_19 : decode cX7_decimalWidth 19 = .ok (.lconst 0, 1) := by decide +kernel
theorem dX7_decimalWidth_20 : decode cX7_decimalWidth 20 = .ok (.lcmp, 1) := by decide +kernel
theorem dX7_decimalWidth_21 : decode cX7_decimalWidth 21 = .ok (.ifCond .le 18, 3) := by decide +kernel
theorem dX7_decimalWidth_24 : decode cX7_decimalWidth 24 = .ok (.iinc 2 1, 3) := by decide +kernel
theorem dX7_decimalWidth_27 : decode cX7_decimalWidth 27 = .ok (.lload_n 3, 1) := by decide +kernel
theorem dX7_decimalWidth_28 : decode cX7_decimalWidth 28 = .ok (.ldc2_w 51, 3) := by decide +kernel
theorem dX7_decimalWidth_31 : decode cX7_decimalWidth 31 = .ok (.ldiv, 1) := by decide +kernel
theorem dX7_decimalWidth_32 : decode cX7_decimalWidth 32 = .ok (.lstore_n 3, 1) := by decide +kernel
theorem dX7_decimalWidth_33 : decode cX7_decimalWidth 33 = .ok (.iinc 5 1, 3) := by decide +kernel
theorem dX7_decimalWidth_36 : decode cX7_decimalWidth 36 = .ok (.goto (-25), 3) := by decide +kernel
theorem dX7_decimalWidth_39 : decode cX7_decimalWidth 39 = .ok (.iload_n 2, 1) := by decide +kernel
theorem dX7_decimalWidth_40 : decode cX7_decimalWidth 40 = .ok (.ireturn, 1) := by decide +kernel
theorem dX8_init_0 : decode cX8_init 0 = .ok (.aload_n 0, 1) := by decide +kernel
theorem dX8_init_1 : decode cX8_init 1 = .ok (.invokespecial 3, 3) := by decide +kernel
theorem dX8_init_4 : decode cX8_init 4 = .ok (.aload_n 0, 1) := by decide +kernel
theorem dX8_init_5 : decode cX8_init 5 = .ok (.iconst 0, 1) := by decide +kernel
theorem dX8_init_6 : decode cX8_init 6 = .ok (.putfield 9, 3) := by decide +kernel
theorem dX8_init_9 : decode cX8_init 9 = .ok (.aload_n 0, 1) := by decide +kernel
theorem dX8_init_10 : decode cX8_init 10 = .ok (.iconst 0, 1) := by decide +kernel
theorem dX8_init_11 : decode cX8_init 11 = .ok (.putfield 15, 3) := by decide +kernel
theorem dX8_init_14 : decode cX8_init 14 = .ok (.aload_n 0, 1) := by decide +kernel
theorem dX8_init_15 : decode cX8_init 15 = .ok (.iconst 0, 1) := by decide +kernel
theorem dX8_init_16 : decode cX8_init 16 = .ok (.putfield 18, 3) := by decide +kernel
theorem dX8_init_19 : decode cX8_init 19 = .ok (.aload_n 0, 1) := by decide +kernel
theorem dX8_init_20 : decode cX8_init 20 = .ok (.aload_n 1, 1) := by decide +kernel
theorem dX8_init_21 : decode cX8_init 21 = .ok (.putfield 21, 3) := by decide +kernel
theorem dX8_init_24 : decode cX8_init 24 = .ok (.aload_n 0, 1) := by decide +kernel
theorem dX8_init_25 : decode cX8_init 25 = .ok (.aload_n 2, 1) := by decide +kernel
theorem dX8_init_26 : decode cX8_init 26 = .ok (.putfield 25, 3) := by decide +kernel
theorem dX8_init_29 : decode cX8_init 29 = .ok (.return_, 1) := by decide +kernel
theorem dX8_takeRows_0 : decode cX8_takeRows 0 = .ok (.iload_n 2, 1) := by decide +kernel
theorem dX8_takeRows_1 : decode cX8_takeRows 1 = .ok (.istore 4, 2) := by decide +kernel
theorem dX8_takeRows_3 : decode cX8_takeRows 3 = .ok (.iload_n 2, 1) := by decide +kernel
theorem dX8_takeRows_4 : decode cX8_takeRows 4 = .ok (.istore 5, 2) := by decide +kernel
theorem dX8_takeRows_6 : decode cX8_takeRows 6 = .ok (.iload 5, 2) := by decide +kernel
theorem dX8_takeRows_8 : decode cX8_takeRows 8 = .ok (.iload_n 3, 1) := by decide +kernel
theorem dX8_takeRows_9 : decode cX8_takeRows 9 = .ok (.if_icmp .ge 71, 3) := by decide +kernel
theorem dX8_takeRows_12 : decode cX8_takeRows 12 = .ok (.iload 4, 2) := by decide +kernel
theorem dX8_takeRows_14 : decode cX8_takeRows 14 = .ok (.iload_n 3, 1) := by decide +kernel
theorem dX8_takeRows_15 : decode cX8_takeRows 15 = .ok (.if_icmp .ge 65, 3) := by decide +kernel
theorem dX8_takeRows_18 : decode cX8_takeRows 18 = .ok (.aload_n 0, 1) := by decide +kernel
theorem dX8_takeRows_19 : decode cX8_takeRows 19 = .ok (.iload 4, 2) := by decide +kernel
theorem dX8_takeRows_21 : decode cX8_takeRows 21 = .ok (.iload_n 3, 1) := by decide +kernel
theorem dX8_takeRows_22 : decode cX8_takeRows 22 = .ok (.invokevirtual 29, 3) := by decide +kernel
theorem dX8_takeRows_25 : decode cX8_takeRows 25 = .ok (.ifCond .ne 17, 3) := by decide +kernel
theorem dX8_takeRows_28 : decode cX8_takeRows 28 = .ok (.aload_n 0, 1) := by decide +kernel
theorem dX8_takeRows_29 : decode cX8_takeRows 29 = .ok (.getfield 25, 3) := by decide +kernel
theorem dX8_takeRows_32 : decode cX8_takeRows 32 = .ok (.bipush 8, 2) := by decide +kernel
theorem dX8_takeRows_34 : decode cX8_takeRows 34 = .ok (.iload 4, 2) := by decide +kernel
theorem dX8_takeRows_36 : decode cX8_takeRows 36 = .ok (.invokevirtual 33, 3) := by decide +kernel
theorem dX8_takeRows_39 : decode cX8_takeRows 39 = .ok (.pop, 1) := by decide +kernel
theorem dX8_takeRows_40 : decode cX8_takeRows 40 = .ok (.iconst 0, 1) := by decide +kernel
theorem dX8_takeRows_41 : decode cX8_takeRows 41 = .ok (.ireturn, 1) := by decide +kernel
theorem dX8_takeRows_42 : decode cX8_takeRows 42 = .ok (.aload_n 0, 1) := by decide +kernel
theorem dX8_takeRows_43 : decode cX8_takeRows 43 = .ok (.aload_n 1, 1) := by decide +kernel
theorem dX8_takeRows_44 : decode cX8_takeRows 44 = .ok (.invokevirtual 39, 3) := by decide +kernel
theorem dX8_takeRows_47 : decode cX8_takeRows 47 = .ok (.ifCond .ne 19, 3) := by decide +kernel
theorem dX8_takeRows_50 : decode cX8_takeRows 50 = .ok (.aload_n 0, 1) := by decide +kernel
theorem dX8_takeRows_51 : decode cX8_takeRows 51 = .ok (.getfield 25, 3) := by decide +kernel
theorem dX8_takeRows_54 : decode cX8_takeRows 54 = .ok (.bipush 9, 2) := by decide +kernel
theorem dX8_takeRows_56 : decode cX8_takeRows 56 = .ok (.aload_n 0, 1) := by decide +kernel
theorem dX8_takeRows_57 : decode cX8_takeRows 57 = .ok (.getfield 15, 3) := by decide +kernel
theorem dX8_takeRows_60 : decode cX8_takeRows 60 = .ok (.invokevirtual 33, 3) := by decide +kernel
theorem dX8_takeRows_63 : decode cX8_takeRows 63 = .ok (.pop, 1) := by decide +kernel
theorem dX8_takeRows_64 : decode cX8_takeRows 64 = .ok (.iconst 0, 1) := by decide +kernel
theorem dX8_takeRows_65 : decode cX8_takeRows 65 = .ok (.ireturn, 1) := by decide +kernel
theorem dX8_takeRows_66 : decode cX8_takeRows 66 = .ok (.aload_n 0, 1) := by decide +kernel
theorem dX8_takeRows_67 : decode cX8_takeRows 67 = .ok (.getfield 18, 3) := by decide +kernel
theorem dX8_takeRows_70 : decode cX8_takeRows 70 = .ok (.iconst 1, 1) := by decide +kernel
theorem dX8_takeRows_71 : decode cX8_takeRows 71 = .ok (.iadd, 1) := by decide +kernel
theorem dX8_takeRows_72 : decode cX8_takeRows 72 = .ok (.istore 4, 2) := by decide +kernel
theorem dX8_takeRows_74 : decode cX8_takeRows 74 = .ok (.iinc 5 1, 3) := by decide +kernel
theorem dX8_takeRows_77 : decode cX8_takeRows 77 = .ok (.goto (-71), 3) := by decide +kernel
theorem dX8_takeRows_80 : decode cX8_takeRows 80 = .ok (.iconst 1, 1) := by decide +kernel
theorem dX8_takeRows_81 : decode cX8_takeRows 81 = .ok (.ireturn, 1) := by decide +kernel
theorem dX8_findParts_0 : decode cX8_findParts 0 = .ok (.iload_n 1, 1) := by decide +kernel
theorem dX8_findParts_1 : decode cX8_findParts 1 = .ok (.istore_n 3, 1) := by decide +kernel
theorem dX8_findParts_2 : decode cX8_findParts 2 = .ok (.iconst 0, 1) := by decide +kernel
theorem dX8_findParts_3 : decode cX8_findParts 3 = .ok (.istore 4, 2) := by decide +kernel
theorem dX8_findParts_5 : decode cX8_findParts 5 = .ok (.iload_n 3, 1) := by decide +kernel
theorem dX8_findParts_6 : decode cX8_findParts 6 = .ok (.iload_n 2, 1) := by decide +kernel
theorem dX8_findParts_7 : decode cX8_findParts 7 = .ok (.if_icmp .ge 61, 3) := by decide +kernel
theorem dX8_findParts_10 : decode cX8_findParts 10 = .ok (.iload_n 3, 1) := by decide +kernel
theorem dX8_findParts_11 : decode cX8_findParts 11 = .ok (.iload_n 1, 1) := by decide +kernel
theorem dX8_findParts_12 : decode cX8_findParts 12 = .ok (.isub, 1) := by decide +kernel
theorem dX8_findParts_13 : decode cX8_findParts 13 = .ok (.iconst 4, 1) := by decide +kernel
theorem dX8_findParts_14 : decode cX8_findParts 14 = .ok (.if_icmp .ge 54, 3) := by decide +kernel
theorem dX8_findParts_17 : decode cX8_findParts 17 = .ok (.aload_n 0, 1) := by decide +kernel
theorem dX8_findParts_18 : decode cX8_findParts 18 = .ok (.getfield 21, 3) := by decide +kernel
theorem dX8_findParts_21 : decode cX8_findParts 21 = .ok (.iload_n 3, 1) := by decide +kernel
theorem dX8_findParts_22 : decode cX8_findParts 22 = .ok (.invokevirtual 43, 3) := by decide +kernel
theorem dX8_findParts_25 : decode cX8_findParts 25 = .ok (.bipush 48, 2) := by decide +kernel
theorem dX8_findParts_27 : decode cX8_findParts 27 = .ok (.if_icmp .lt 41, 3) := by decide +kernel
theorem dX8_findParts_30 : decode cX8_findParts 30 = .ok (.aload_n 0, 1) := by decide +kernel
theorem dX8_findParts_31 : decode cX8_findParts 31 = .ok (.getfield 21, 3) := by decide +kernel
theorem dX8_findParts_34 : decode cX8_findParts 34 = .ok (.iload_n 3, 1) := by decide +kernel
theorem dX8_findParts_35 : decode cX8_findParts 35 = .ok (.invokevirtual 43, 3) := by decide +kernel
theorem dX8_findParts_38 : decode cX8_findParts 38 = .ok (.bipush 57, 2) := by decide +kernel
theorem dX8_findParts_40 : decode cX8_findParts 40 = .ok (.if_icmp .gt 28, 3) := by decide +kernel
theorem dX8_findParts_43 : decode cX8_findParts 43 = .ok (.iload 4, 2) := by decide +kernel
theorem dX8_findParts_45 : decode cX8_findParts 45 = .ok (.bipush 10, 2) := by decide +kernel
theorem dX8_findParts_47 : decode cX8_findParts 47 = .ok (.imul, 1) := by decide +kernel
theorem dX8_findParts_48 : decode cX8_findParts 48 = .ok (.aload_n 0, 1) := by decide +kernel
theorem dX8_findParts_49 : decode cX8_findParts 49 = .ok (.getfield 21, 3) := by decide +kernel
theorem dX8_findParts_52 : decode cX8_findParts 52 = .ok (.iload_n 3, 1) := by decide +kernel
theorem dX8_findParts_53 : decode cX8_findParts 53 = .ok (.invokevirtual 43, 3) := by decide +kernel
theorem dX8_findParts_56 : decode cX8_findParts 56 = .ok (.iadd, 1) := by decide +kernel
theorem dX8_findParts_57 : decode cX8_findParts 57 = .ok (.bipush 48, 2) := by decide +kernel
theorem dX8_findParts_59 : decode cX8_findParts 59 = .ok (.isub, 1) := by decide +kernel
theorem dX8_findParts_60 : decode cX8_findParts 60 = .ok (.istore 4, 2) := by decide +kernel
theorem dX8_findParts_62 : decode cX8_findParts 62 = .ok (.iinc 3 1, 3) := by decide +kernel
theorem dX8_findParts_65 : decode cX8_findParts 65 = .ok (.goto (-60), 3) := by decide +kernel
theorem dX8_findParts_68 : decode cX8_findParts 68 = .ok (.iload_n 3, 1) := by decide +kernel
theorem dX8_findParts_69 : decode cX8_findParts 69 = .ok (.iload_n 1, 1) := by decide +kernel
theorem dX8_findParts_70 : decode cX8_findParts 70 = .ok (.if_icmp .eq 21, 3) := by decide +kernel
theorem dX8_findParts_73 : decode cX8_findParts 73 = .ok (.iload_n 3, 1) := by decide +kernel
theorem dX8_findParts_74 : decode cX8_findParts 74 = .ok (.iload_n 2, 1) := by decide +kernel
theorem dX8_findParts_75 : decode cX8_findParts 75 = .ok (.if_icmp .ge 16, 3) := by decide +kernel
theorem dX8_findParts_78 : decode cX8_findParts 78 = .ok (.aload_n 0, 1) := by decide +kernel
theorem dX8_findParts_79 : decode cX8_findParts 79 = .ok (.getfield 21, 3) := by decide +kernel
theorem dX8_findParts_82 : decode cX8_findParts 82 = .ok (.iload_n 3, 1) := by decide +kernel
theorem dX8_findParts_83 : decode cX8_findParts 83 = .ok (.invokevirtual 43, 3) := by decide +kernel
theorem dX8_findParts_86 : decode cX8_findParts 86 = .ok (.bipush 32, 2) := by decide +kernel
theorem dX8_findParts_88 : decode cX8_findParts 88 = .ok (.if_icmp .eq 5, 3) := by decide +kernel
theorem dX8_findParts_91 : decode cX8_findParts 91 = .ok (.iconst 0, 1) := by decide +kernel
theorem dX8_findParts_92 : decode cX8_findParts 92 = .ok (.ireturn, 1) := by decide +kernel
theorem dX8_findParts_93 : decode cX8_findParts 93 = .ok (.aload_n 0, 1) := by decide +kernel
theorem dX8_findParts_94 : decode cX8_findParts 94 = .ok (.iload_n 3, 1) := by decide +kernel
theorem dX8_findParts_95 : decode cX8_findParts 95 = .ok (.iconst 1, 1) := by decide +kernel
theorem dX8_findParts_96 : decode cX8_findParts 96 = .ok (.iadd, 1) := by decide +kernel
theorem dX8_findParts_97 : decode cX8_findParts 97 = .ok (.putfield 9, 3) := by decide +kernel
theorem dX8_findParts_100 : decode cX8_findParts 100 = .ok (.aload_n 0, 1) := by decide +kernel
theorem dX8_findParts_101 : decode cX8_findParts 101 = .ok (.iload_n 1, 1) := by decide +kernel
theorem dX8_findParts_102 : decode cX8_findParts 102 = .ok (.iload 4, 2) := by decide +kernel
theorem dX8_findParts_104 : decode cX8_findParts 104 = .ok (.iadd, 1) := by decide +kernel
theorem dX8_findParts_105 : decode cX8_findParts 105 = .ok (.iconst 1, 1) := by decide +kernel
theorem dX8_findParts_106 : decode cX8_findParts 106 = .ok (.isub, 1) := by decide +kernel
theorem dX8_findParts_107 : decode cX8_findParts 107 = .ok (.putfield 18, 3) := by decide +kernel
theorem dX8_findParts_110 : decode cX8_findParts 110 = .ok (.aload_n 0, 1) := by decide +kernel
theorem dX8_findParts_111 : decode cX8_findParts 111 = .ok (.getfield 18, 3) := by decide +kernel
theorem dX8_findParts_114 : decode cX8_findParts 114 = .ok (.aload_n 0, 1) := by decide +kernel
theorem dX8_findParts_115 : decode cX8_findParts 115 = .ok (.getfield 9, 3) := by decide +kernel
theorem dX8_findParts_118 : decode cX8_findParts 118 = .ok (.if_icmp .lt 27, 3) := by decide +kernel
theorem dX8_findParts_121 : decode cX8_findParts 121 = .ok (.aload_n 0, 1) := by decide +kernel
theorem dX8_findParts_122 : decode cX8_findParts 122 = .ok (.getfield 18, 3) := by decide +kernel
theorem dX8_findParts_125 : decode cX8_findParts 125 = .ok (.iload_n 2, 1) := by decide +kernel
theorem dX8_findParts_126 : decode cX8_findParts 126 = .ok (.if_icmp .ge 19, 3) := by decide +kernel
theorem dX8_findParts_129 : decode cX8_findParts 129 = .ok (.aload_n 0, 1) := by decide +kernel
theorem dX8_findParts_130 : decode cX8_findParts 130 = .ok (.getfield 21, 3) := by decide +kernel
theorem dX8_findParts_133 : decode cX8_findParts 133 = .ok (.aload_n 0, 1) := by decide +kernel
theorem dX8_findParts_134 : decode cX8_findParts 134 = .ok (.getfield 18, 3) := by decide +kernel
theorem dX8_findParts_137 : decode cX8_findParts 137 = .ok (.invokevirtual 43, 3) := by decide +kernel
theorem dX8_findParts_140 : decode cX8_findParts 140 = .ok (.bipush 10, 2) := by decide +kernel
theorem dX8_findParts_142 : decode cX8_findParts 142 = .ok (.if_icmp .eq 5, 3) := by decide +kernel
theorem dX8_findParts_145 : decode cX8_findParts 145 = .ok (.iconst 0, 1) := by decide +kernel
theorem dX8_findParts_146 : decode cX8_findParts 146 = .ok (.ireturn, 1) := by decide +kernel
theorem dX8_findParts_147 : decode cX8_findParts 147 = .ok (.aload_n 0, 1) := by decide +kernel
theorem dX8_findParts_148 : decode cX8_findParts 148 = .ok (.aload_n 0, 1) := by decide +kernel
theorem dX8_findParts_149 : decode cX8_findParts 149 = .ok (.getfield 21, 3) := by decide +kernel
theorem dX8_findParts_152 : decode cX8_findParts 152 = .ok (.bipush 61, 2) := by decide +kernel
theorem dX8_findParts_154 : decode cX8_findParts 154 = .ok (.aload_n 0, 1) := by decide +kernel
theorem dX8_findParts_155 : decode cX8_findParts 155 = .ok (.getfield 9, 3) := by decide +kernel
theorem dX8_findParts_158 : decode cX8_findParts 158 = .ok (.aload_n 0, 1) := by decide +kernel
theorem dX8_findParts_159 : decode cX8_findParts 159 = .ok (.getfield 18, 3) := by decide +kernel
theorem dX8_findParts_162 : decode cX8_findParts 162 = .ok (.invokevirtual 49, 3) := by decide +kernel
theorem dX8_findParts_165 : decode cX8_findParts 165 = .ok (.iconst 1, 1) := by decide +kernel
theorem dX8_findParts_166 : decode cX8_findParts 166 = .ok (.iadd, 1) := by decide +kernel
theorem dX8_findParts_167 : decode cX8_findParts 167 = .ok (.putfield 15, 3) := by decide +kernel
theorem dX8_findParts_170 : decode cX8_findParts 170 = .ok (.aload_n 0, 1) := by decide +kernel
theorem dX8_findParts_171 : decode cX8_findParts 171 = .ok (.getfield 15, 3) := by decide +kernel
theorem dX8_findParts_174 : decode cX8_findParts 174 = .ok (.aload_n 0, 1) := by decide +kernel
theorem dX8_findParts_175 : decode cX8_findParts 175 = .ok (.getfield 18, 3) := by decide +kernel
theorem dX8_findParts_178 : decode cX8_findParts 178 = .ok (.if_icmp .gt 7, 3) := by decide +kernel
theorem dX8_findParts_181 : decode cX8_findParts 181 = .ok (.iconst 1, 1) := by decide +kernel
theorem dX8_findParts_182 : decode cX8_findParts 182 = .ok (.goto 4, 3) := by decide +kernel
theorem dX8_findParts_185 : decode cX8_findParts 185 = .ok (.iconst 0, 1) := by decide +kernel
theorem dX8_findParts_186 : decode cX8_findParts 186 = .ok (.ireturn, 1) := by decide +kernel
theorem dX8_takeValue_0 : decode cX8_takeValue 0 = .ok (.aload_n 0, 1) := by decide +kernel
theorem dX8_takeValue_1 : decode cX8_takeValue 1 = .ok (.ldc 53, 2) := by decide +kernel
theorem dX8_takeValue_3 : decode cX8_takeValue 3 = .ok (.invokevirtual 55, 3) := by decide +kernel
theorem dX8_takeValue_6 : decode cX8_takeValue 6 = .ok (.ifCond .eq 38, 3) := by decide +kernel
theorem dX8_takeValue_9 : decode cX8_takeValue 9 = .ok (.aload_n 0, 1) := by decide +kernel
theorem dX8_takeValue_10 : decode cX8_takeValue 10 = .ok (.invokevirtual 59, 3) := by decide +kernel
theorem dX8_takeValue_13 : decode cX8_takeValue 13 = .ok (.ifCond .eq 29, 3) := by decide +kernel
theorem dX8_takeValue_16 : decode cX8_takeValue 16 = .ok (.aload_n 1, 1) := by decide +kernel
theorem dX8_takeValue_17 : decode cX8_takeValue 17 = .ok (.getfield 63, 3) := by decide +kernel
theorem dX8_takeValue_20 : decode cX8_takeValue 20 = .ok (.aload_n 0, 1) := by decide +kernel
theorem dX8_takeValue_21 : decode cX8_takeValue 21 = .ok (.getfield 21, 3) := by decide +kernel
theorem dX8_takeValue_24 : decode cX8_takeValue 24 = .ok (.aload_n 0, 1) := by decide +kernel
theorem dX8_takeValue_25 : decode cX8_takeValue 25 = .ok (.getfield 15, 3) := by decide +kernel
theorem dX8_takeValue_28 : decode cX8_takeValue 28 = .ok (.aload_n 0, 1) := by decide +kernel
theorem dX8_takeValue_29 : decode cX8_takeValue 29 = .ok (.getfield 18, 3) := by decide +kernel
theorem dX8_takeValue_32 : decode cX8_takeValue 32 = .ok (.invokevirtual 68, 3) := by decide +kernel
theorem dX8_takeValue_35 : decode cX8_takeValue 35 = .ok (.ifCond .eq 7, 3) := by decide +kernel
theorem dX8_takeValue_38 : decode cX8_takeValue 38 = .ok (.iconst 1, 1) := by decide +kernel
theorem dX8_takeValue_39 : decode cX8_takeValue 39 = .ok (.goto 4, 3) := by decide +kernel
theorem dX8_takeValue_42 : decode cX8_takeValue 42 = .ok (.iconst 0, 1) := by decide +kernel
theorem dX8_takeValue_43 : decode cX8_takeValue 43 = .ok (.ireturn, 1) := by decide +kernel
theorem dX8_takeValue_44 : decode cX8_takeValue 44 = .ok (.aload_n 0, 1) := by decide +kernel
theorem dX8_takeValue_45 : decode cX8_takeValue 45 = .ok (.ldc 72, 2) := by decide +kernel
theorem dX8_takeValue_47 : decode cX8_takeValue 47 = .ok (.invokevirtual 55, 3) := by decide +kernel
theorem dX8_takeValue_50 : decode cX8_takeValue 50 = .ok (.ifCond .eq 38, 3) := by decide +kernel
theorem dX8_takeValue_53 : decode cX8_takeValue 53 = .ok (.aload_n 0, 1) := by decide +kernel
theorem dX8_takeValue_54 : decode cX8_takeValue 54 = .ok (.invokevirtual 59, 3) := by decide +kernel
theorem dX8_takeValue_57 : decode cX8_takeValue 57 = .ok (.ifCond .eq 29, 3) := by decide +kernel
theorem dX8_takeValue_60 : decode cX8_takeValue 60 = .ok (.aload_n 1, 1) := by decide +kernel
theorem dX8_takeValue_61 : decode cX8_takeValue 61 = .ok (.getfield 74, 3) := by decide +kernel
theorem dX8_takeValue_64 : decode cX8_takeValue 64 = .ok (.aload_n 0, 1) := by decide +kernel
theorem dX8_takeValue_65 : decode cX8_takeValue 65 = .ok (.getfield 21, 3) := by decide +kernel
theorem dX8_takeValue_68 : decode cX8_takeValue 68 = .ok (.aload_n 0, 1) := by decide +kernel
theorem dX8_takeValue_69 : decode cX8_takeValue 69 = .ok (.getfield 15, 3) := by decide +kernel
theorem dX8_takeValue_72 : decode cX8_takeValue 72 = .ok (.aload_n 0, 1) := by decide +kernel
theorem dX8_takeValue_73 : decode cX8_takeValue 73 = .ok (.getfield 18, 3) := by decide +kernel
theorem dX8_takeValue_76 : decode cX8_takeValue 76 = .ok (.invokevirtual 68, 3) := by decide +kernel
theorem dX8_takeValue_79 : decode cX8_takeValue 79 = .ok (.ifCond .eq 7, 3) := by decide +kernel
theorem dX8_takeValue_82 : decode cX8_takeValue 82 = .ok (.iconst 1, 1) := by decide +kernel
theorem dX8_takeValue_83 : decode cX8_takeValue 83 = .ok (.goto 4, 3) := by decide +kernel
theorem dX8_takeValue_86 : decode cX8_takeValue 86 = .ok (.iconst 0, 1) := by decide +kernel
theorem dX8_takeValue_87 : decode cX8_takeValue 87 = .ok (.ireturn, 1) := by decide +kernel
theorem dX8_takeValue_88 : decode cX8_takeValue 88 = .ok (.aload_n 0, 1) := by decide +kernel
theorem dX8_takeValue_89 : decode cX8_takeValue 89 = .ok (.ldc 77, 2) := by decide +kernel
theorem dX8_takeValue_91 : decode cX8_takeValue 91 = .ok (.invokevirtual 55, 3) := by decide +kernel
theorem dX8_takeValue_94 : decode cX8_takeValue 94 = .ok (.ifCond .eq 20, 3) := by decide +kernel
theorem dX8_takeValue_97 : decode cX8_takeValue 97 = .ok (.aload_n 1, 1) := by decide +kernel
theorem dX8_takeValue_98 : decode cX8_takeValue 98 = .ok (.aload_n 0, 1) := by decide +kernel
theorem dX8_takeValue_99 : decode cX8_takeValue 99 = .ok (.getfield 21, 3) := by decide +kernel
theorem dX8_takeValue_102 : decode cX8_takeValue 102 = .ok (.aload_n 0, 1) := by decide +kernel
theorem dX8_takeValue_103 : decode cX8_takeValue 103 = .ok (.getfield 15, 3) := by decide +kernel
theorem dX8_takeValue_106 : decode cX8_takeValue 106 = .ok (.aload_n 0, 1) := by decide +kernel
theorem dX8_takeValue_107 : decode cX8_takeValue 107 = .ok (.getfield 18, 3) := by decide +kernel
theorem dX8_takeValue_110 : decode cX8_takeValue 110 = .ok (.invokevirtual 79, 3) := by decide +kernel
theorem dX8_takeValue_113 : decode cX8_takeValue 113 = .ok (.ireturn, 1) := by decide +kernel
theorem dX8_takeValue_114 : decode cX8_takeValue 114 = .ok (.aload_n 0, 1) := by decide +kernel
theorem dX8_takeValue_115 : decode cX8_takeValue 115 = .ok (.ldc 82, 2) := by decide +kernel
theorem dX8_takeValue_117 : decode cX8_takeValue 117 = .ok (.invokevirtual 55, 3) := by decide +kernel
theorem dX8_takeValue_120 : decode cX8_takeValue 120 = .ok (.ifCond .eq 26, 3) := by decide +kernel
theorem dX8_takeValue_123 : decode cX8_takeValue 123 = .ok (.aload_n 1, 1) := by decide +kernel
theorem dX8_takeValue_124 : decode cX8_takeValue 124 = .ok (.aload_n 0, 1) := by decide +kernel
theorem dX8_takeValue_125 : decode cX8_takeValue 125 = .ok (.invokevirtual 84, 3) := by decide +kernel
theorem dX8_takeValue_128 : decode cX8_takeValue 128 = .ok (.putfield 88, 3) := by decide +kernel
theorem dX8_takeValue_131 : decode cX8_takeValue 131 = .ok (.aload_n 1, 1) := by decide +kernel
theorem dX8_takeValue_132 : decode cX8_takeValue 132 = .ok (.getfield 88, 3) := by decide +kernel
theorem dX8_takeValue_135 : decode cX8_takeValue 135 = .ok (.lconst 0, 1) := by decide +kernel
theorem dX8_takeValue_136 : decode cX8_takeValue 136 = .ok (.lcmp, 1) := by decide +kernel
theorem dX8_takeValue_137 : decode cX8_takeValue 137 = .ok (.ifCond .lt 7, 3) := by decide +kernel
theorem dX8_takeValue_140 : decode cX8_takeValue 140 = .ok (.iconst 1, 1) := by decide +kernel
theorem dX8_takeValue_141 : decode cX8_takeValue 141 = .ok (.goto 4, 3) := by decide +kernel
theorem dX8_takeValue_144 : decode cX8_takeValue 144 = .ok (.iconst 0, 1) := by decide +kernel
theorem dX8_takeValue_145 : decode cX8_takeValue 145 = .ok (.ireturn, 1) := by decide +kernel
theorem dX8_takeValue_146 : decode cX8_takeValue 146 = .ok (.aload_n 0, 1) := by decide +kernel
theorem dX8_takeValue_147 : decode cX8_takeValue 147 = .ok (.ldc 91, 2) := by decide +kernel
theorem dX8_takeValue_149 : decode cX8_takeValue 149 = .ok (.invokevirtual 55, 3) := by decide +kernel
theorem dX8_takeValue_152 : decode cX8_takeValue 152 = .ok (.ifCond .eq 26, 3) := by decide +kernel
theorem dX8_takeValue_155 : decode cX8_takeValue 155 = .ok (.aload_n 1, 1) := by decide +kernel
theorem dX8_takeValue_156 : decode cX8_takeValue 156 = .ok (.aload_n 0, 1) := by decide +kernel
theorem dX8_takeValue_157 : decode cX8_takeValue 157 = .ok (.invokevirtual 84, 3) := by decide +kernel
theorem dX8_takeValue_160 : decode cX8_takeValue 160 = .ok (.putfield 93, 3) := by decide +kernel
theorem dX8_takeValue_163 : decode cX8_takeValue 163 = .ok (.aload_n 1, 1) := by decide +kernel
theorem dX8_takeValue_164 : decode cX8_takeValue 164 = .ok (.getfield 93, 3) := by decide +kernel
theorem dX8_takeValue_167 : decode cX8_takeValue 167 = .ok (.lconst 0, 1) := by decide +kernel
theorem dX8_takeValue_168 : decode cX8_takeValue 168 = .ok (.lcmp, 1) := by decide +kernel
theorem dX8_takeValue_169 : decode cX8_takeValue 169 = .ok (.ifCond .lt 7, 3) := by decide +kernel
theorem dX8_takeValue_172 : decode cX8_takeValue 172 = .ok (.iconst 1, 1) := by decide +kernel
theorem dX8_takeValue_173 : decode cX8_takeValue 173 = .ok (.goto 4, 3) := by decide +kernel
theorem dX8_takeValue_176 : decode cX8_takeValue 176 = .ok (.iconst 0, 1) := by decide +kernel
theorem dX8_takeValue_177 : decode cX8_takeValue 177 = .ok (.ireturn, 1) := by decide +kernel
theorem dX8_takeValue_178 : decode cX8_takeValue 178 = .ok (.aload_n 0, 1) := by decide +kernel
theorem dX8_takeValue_179 : decode cX8_takeValue 179 = .ok (.ldc 95, 2) := by decide +kernel
theorem dX8_takeValue_181 : decode cX8_takeValue 181 = .ok (.invokevirtual 55, 3) := by decide +kernel
theorem dX8_takeValue_184 : decode cX8_takeValue 184 = .ok (.ifCond .eq 26, 3) := by decide +kernel
theorem dX8_takeValue_187 : decode cX8_takeValue 187 = .ok (.aload_n 1, 1) := by decide +kernel
theorem dX8_takeValue_188 : decode cX8_takeValue 188 = .ok (.aload_n 0, 1) := by decide +kernel
theorem dX8_takeValue_189 : decode cX8_takeValue 189 = .ok (.invokevirtual 84, 3) := by decide +kernel
theorem dX8_takeValue_192 : decode cX8_takeValue 192 = .ok (.putfield 97, 3) := by decide +kernel
theorem dX8_takeValue_195 : decode cX8_takeValue 195 = .ok (.aload_n 1, 1) := by decide +kernel
theorem dX8_takeValue_196 : decode cX8_takeValue 196 = .ok (.getfield 97, 3) := by decide +kernel
theorem dX8_takeValue_199 : decode cX8_takeValue 199 = .ok (.lconst 0, 1) := by decide +kernel
theorem dX8_takeValue_200 : decode cX8_takeValue 200 = .ok (.lcmp, 1) := by decide +kernel
theorem dX8_takeValue_201 : decode cX8_takeValue 201 = .ok (.ifCond .lt 7, 3) := by decide +kernel
theorem dX8_takeValue_204 : decode cX8_takeValue 204 = .ok (.iconst 1, 1) := by decide +kernel
theorem dX8_takeValue_205 : decode cX8_takeValue 205 = .ok (.goto 4, 3) := by decide +kernel
theorem dX8_takeValue_208 : decode cX8_takeValue 208 = .ok (.iconst 0, 1) := by decide +kernel
theorem dX8_takeValue_209 : decode cX8_takeValue 209 = .ok (.ireturn, 1) := by decide +kernel
theorem dX8_takeValue_210 : decode cX8_takeValue 210 = .ok (.iconst 1, 1) := by decide +kernel
theorem dX8_takeValue_211 : decode cX8_takeValue 211 = .ok (.ireturn, 1) := by decide +kernel
theorem dX8_isKey_0 : decode cX8_isKey 0 = .ok (.aload_n 0, 1) := by decide +kernel
theorem dX8_isKey_1 : decode cX8_isKey 1 = .ok (.getfield 21, 3) := by decide +kernel
theorem dX8_isKey_4 : decode cX8_isKey 4 = .ok (.aload_n 0, 1) := by decide +kernel
theorem dX8_isKey_5 : decode cX8_isKey 5 = .ok (.getfield 9, 3) := by decide +kernel
theorem dX8_isKey_8 : decode cX8_isKey 8 = .ok (.aload_n 0, 1) := by decide +kernel
theorem dX8_isKey_9 : decode cX8_isKey 9 = .ok (.getfield 15, 3) := by decide +kernel
theorem dX8_isKey_12 : decode cX8_isKey 12 = .ok (.iconst 1, 1) := by decide +kernel
