theorem dX11_sum_32 : decode cX11_sum 32 = .ok (.iconst 0, 1) := by decide +kernel
theorem dX11_sum_33 : decode cX11_sum 33 = .ok (.invokevirtual 131, 3) := by decide +kernel
theorem dX11_sum_36 : decode cX11_sum 36 = .ok (.istore_n 2, 1) := by decide +kernel
theorem dX11_sum_37 : decode cX11_sum 37 = .ok (.aload_n 0, 1) := by decide +kernel
theorem dX11_sum_38 : decode cX11_sum 38 = .ok (.getfield 43, 3) := by decide +kernel
theorem dX11_sum_41 : decode cX11_sum 41 = .ok (.iload_n 1, 1) := by decide +kernel
theorem dX11_sum_42 : decode cX11_sum 42 = .ok (.iload_n 2, 1) := by decide +kernel
theorem dX11_sum_43 : decode cX11_sum 43 = .ok (.invokestatic 135, 3) := by decide +kernel
theorem dX11_sum_46 : decode cX11_sum 46 = .ok (.iload_n 2, 1) := by decide +kernel
theorem dX11_sum_47 : decode cX11_sum 47 = .ok (.ireturn, 1) := by decide +kernel
theorem dX11_octet_0 : decode cX11_octet 0 = .ok (.iload_n 1, 1) := by decide +kernel
theorem dX11_octet_1 : decode cX11_octet 1 = .ok (.ifCond .lt 11, 3) := by decide +kernel
theorem dX11_octet_4 : decode cX11_octet 4 = .ok (.iload_n 1, 1) := by decide +kernel
theorem dX11_octet_5 : decode cX11_octet 5 = .ok (.aload_n 0, 1) := by decide +kernel
theorem dX11_octet_6 : decode cX11_octet 6 = .ok (.getfield 212, 3) := by decide +kernel
theorem dX11_octet_9 : decode cX11_octet 9 = .ok (.if_icmp .lt 7, 3) := by decide +kernel
theorem dX11_octet_12 : decode cX11_octet 12 = .ok (.iconst (-1), 1) := by decide +kernel
theorem dX11_octet_13 : decode cX11_octet 13 = .ok (.goto 9, 3) := by decide +kernel
theorem dX11_octet_16 : decode cX11_octet 16 = .ok (.aload_n 0, 1) := by decide +kernel
theorem dX11_octet_17 : decode cX11_octet 17 = .ok (.getfield 43, 3) := by decide +kernel
theorem dX11_octet_20 : decode cX11_octet 20 = .ok (.iload_n 1, 1) := by decide +kernel
theorem dX11_octet_21 : decode cX11_octet 21 = .ok (.iaload, 1) := by decide +kernel
theorem dX11_octet_22 : decode cX11_octet 22 = .ok (.ireturn, 1) := by decide +kernel
theorem dX11_failed_0 : decode cX11_failed 0 = .ok (.aload_n 0, 1) := by decide +kernel
theorem dX11_failed_1 : decode cX11_failed 1 = .ok (.iload_n 1, 1) := by decide +kernel
theorem dX11_failed_2 : decode cX11_failed 2 = .ok (.putfield 219, 3) := by decide +kernel
theorem dX11_failed_5 : decode cX11_failed 5 = .ok (.aload_n 0, 1) := by decide +kernel
theorem dX11_failed_6 : decode cX11_failed 6 = .ok (.iload_n 2, 1) := by decide +kernel
theorem dX11_failed_7 : decode cX11_failed 7 = .ok (.putfield 222, 3) := by decide +kernel
theorem dX11_failed_10 : decode cX11_failed 10 = .ok (.return_, 1) := by decide +kernel
theorem dX11_isZeros_0 : decode cX11_isZeros 0 = .ok (.iload_n 1, 1) := by decide +kernel
theorem dX11_isZeros_1 : decode cX11_isZeros 1 = .ok (.sipush 512, 3) := by decide +kernel
theorem dX11_isZeros_4 : decode cX11_isZeros 4 = .ok (.iadd, 1) := by decide +kernel
theorem dX11_isZeros_5 : decode cX11_isZeros 5 = .ok (.aload_n 0, 1) := by decide +kernel
theorem dX11_isZeros_6 : decode cX11_isZeros 6 = .ok (.getfield 212, 3) := by decide +kernel
theorem dX11_isZeros_9 : decode cX11_isZeros 9 = .ok (.if_icmp .gt 7, 3) := by decide +kernel
theorem dX11_isZeros_12 : decode cX11_isZeros 12 = .ok (.iconst 1, 1) := by decide +kernel
theorem dX11_isZeros_13 : decode cX11_isZeros 13 = .ok (.goto 4, 3) := by decide +kernel
theorem dX11_isZeros_16 : decode cX11_isZeros 16 = .ok (.iconst 0, 1) := by decide +kernel
theorem dX11_isZeros_17 : decode cX11_isZeros 17 = .ok (.istore_n 2, 1) := by decide +kernel
theorem dX11_isZeros_18 : decode cX11_isZeros 18 = .ok (.iconst 0, 1) := by decide +kernel
theorem dX11_isZeros_19 : decode cX11_isZeros 19 = .ok (.istore_n 3, 1) := by decide +kernel
theorem dX11_isZeros_20 : decode cX11_isZeros 20 = .ok (.iload_n 3, 1) := by decide +kernel
theorem dX11_isZeros_21 : decode cX11_isZeros 21 = .ok (.sipush 512, 3) := by decide +kernel
theorem dX11_isZeros_24 : decode cX11_isZeros 24 = .ok (.if_icmp .ge 30, 3) := by decide +kernel
theorem dX11_isZeros_27 : decode cX11_isZeros 27 = .ok (.iload_n 2, 1) := by decide +kernel
theorem dX11_isZeros_28 : decode cX11_isZeros 28 = .ok (.ifCond .eq 26, 3) := by decide +kernel
theorem dX11_isZeros_31 : decode cX11_isZeros 31 = .ok (.aload_n 0, 1) := by decide +kernel
theorem dX11_isZeros_32 : decode cX11_isZeros 32 = .ok (.getfield 43, 3) := by decide +kernel
theorem dX11_isZeros_35 : decode cX11_isZeros 35 = .ok (.iload_n 1, 1) := by decide +kernel
theorem dX11_isZeros_36 : decode cX11_isZeros 36 = .ok (.iload_n 3, 1) := by decide +kernel
theorem dX11_isZeros_37 : decode cX11_isZeros 37 = .ok (.iadd, 1) := by decide +kernel
theorem dX11_isZeros_38 : decode cX11_isZeros 38 = .ok (.iaload, 1) := by decide +kernel
theorem dX11_isZeros_39 : decode cX11_isZeros 39 = .ok (.ifCond .ne 7, 3) := by decide +kernel
theorem dX11_isZeros_42 : decode cX11_isZeros 42 = .ok (.iconst 1, 1) := by decide +kernel
theorem dX11_isZeros_43 : decode cX11_isZeros 43 = .ok (.goto 4, 3) := by decide +kernel
theorem dX11_isZeros_46 : decode cX11_isZeros 46 = .ok (.iconst 0, 1) := by decide +kernel
theorem dX11_isZeros_47 : decode cX11_isZeros 47 = .ok (.istore_n 2, 1) := by decide +kernel
theorem dX11_isZeros_48 : decode cX11_isZeros 48 = .ok (.iinc 3 1, 3) := by decide +kernel
theorem dX11_isZeros_51 : decode cX11_isZeros 51 = .ok (.goto (-31), 3) := by decide +kernel
theorem dX11_isZeros_54 : decode cX11_isZeros 54 = .ok (.iload_n 2, 1) := by decide +kernel
theorem dX11_isZeros_55 : decode cX11_isZeros 55 = .ok (.ireturn, 1) := by decide +kernel
theorem dX11_isNumber_0 : decode cX11_isNumber 0 = .ok (.aload_n 0, 1) := by decide +kernel
theorem dX11_isNumber_1 : decode cX11_isNumber 1 = .ok (.getfield 43, 3) := by decide +kernel
theorem dX11_isNumber_4 : decode cX11_isNumber 4 = .ok (.iload_n 1, 1) := by decide +kernel
theorem dX11_isNumber_5 : decode cX11_isNumber 5 = .ok (.iaload, 1) := by decide +kernel
theorem dX11_isNumber_6 : decode cX11_isNumber 6 = .ok (.istore 4, 2) := by decide +kernel
theorem dX11_isNumber_8 : decode cX11_isNumber 8 = .ok (.iload_n 3, 1) := by decide +kernel
theorem dX11_isNumber_9 : decode cX11_isNumber 9 = .ok (.ifCond .eq 26, 3) := by decide +kernel
theorem dX11_isNumber_12 : decode cX11_isNumber 12 = .ok (.iload 4, 2) := by decide +kernel
theorem dX11_isNumber_14 : decode cX11_isNumber 14 = .ok (.sipush 128, 3) := by decide +kernel
theorem dX11_isNumber_17 : decode cX11_isNumber 17 = .ok (.if_icmp .eq 11, 3) := by decide +kernel
theorem dX11_isNumber_20 : decode cX11_isNumber 20 = .ok (.iload 4, 2) := by decide +kernel
theorem dX11_isNumber_22 : decode cX11_isNumber 22 = .ok (.sipush 255, 3) := by decide +kernel
theorem dX11_isNumber_25 : decode cX11_isNumber 25 = .ok (.if_icmp .ne 10, 3) := by decide +kernel
theorem dX11_isNumber_28 : decode cX11_isNumber 28 = .ok (.aload_n 0, 1) := by decide +kernel
theorem dX11_isNumber_29 : decode cX11_isNumber 29 = .ok (.iload_n 1, 1) := by decide +kernel
theorem dX11_isNumber_30 : decode cX11_isNumber 30 = .ok (.iload_n 2, 1) := by decide +kernel
theorem dX11_isNumber_31 : decode cX11_isNumber 31 = .ok (.invokevirtual 225, 3) := by decide +kernel
theorem dX11_isNumber_34 : decode cX11_isNumber 34 = .ok (.ireturn, 1) := by decide +kernel
theorem dX11_isNumber_35 : decode cX11_isNumber 35 = .ok (.iconst 0, 1) := by decide +kernel
theorem dX11_isNumber_36 : decode cX11_isNumber 36 = .ok (.istore 5, 2) := by decide +kernel
theorem dX11_isNumber_38 : decode cX11_isNumber 38 = .ok (.iload 5, 2) := by decide +kernel
theorem dX11_isNumber_40 : decode cX11_isNumber 40 = .ok (.iload_n 2, 1) := by decide +kernel
theorem dX11_isNumber_41 : decode cX11_isNumber 41 = .ok (.if_icmp .ge 23, 3) := by decide +kernel
theorem dX11_isNumber_44 : decode cX11_isNumber 44 = .ok (.aload_n 0, 1) := by decide +kernel
theorem dX11_isNumber_45 : decode cX11_isNumber 45 = .ok (.getfield 43, 3) := by decide +kernel
theorem dX11_isNumber_48 : decode cX11_isNumber 48 = .ok (.iload_n 1, 1) := by decide +kernel
theorem dX11_isNumber_49 : decode cX11_isNumber 49 = .ok (.iload 5, 2) := by decide +kernel
theorem dX11_isNumber_51 : decode cX11_isNumber 51 = .ok (.iadd, 1) := by decide +kernel
theorem dX11_isNumber_52 : decode cX11_isNumber 52 = .ok (.iaload, 1) := by decide +kernel
theorem dX11_isNumber_53 : decode cX11_isNumber 53 = .ok (.bipush 32, 2) := by decide +kernel
theorem dX11_isNumber_55 : decode cX11_isNumber 55 = .ok (.if_icmp .ne 9, 3) := by decide +kernel
theorem dX11_isNumber_58 : decode cX11_isNumber 58 = .ok (.iinc 5 1, 3) := by decide +kernel
theorem dX11_isNumber_61 : decode cX11_isNumber 61 = .ok (.goto (-23), 3) := by decide +kernel
theorem dX11_isNumber_64 : decode cX11_isNumber 64 = .ok (.aload_n 0, 1) := by decide +kernel
theorem dX11_isNumber_65 : decode cX11_isNumber 65 = .ok (.lconst 0, 1) := by decide +kernel
theorem dX11_isNumber_66 : decode cX11_isNumber 66 = .ok (.putfield 228, 3) := by decide +kernel
theorem dX11_isNumber_69 : decode cX11_isNumber 69 = .ok (.iload 5, 2) := by decide +kernel
theorem dX11_isNumber_71 : decode cX11_isNumber 71 = .ok (.iload_n 2, 1) := by decide +kernel
theorem dX11_isNumber_72 : decode cX11_isNumber 72 = .ok (.if_icmp .ge 64, 3) := by decide +kernel
theorem dX11_isNumber_75 : decode cX11_isNumber 75 = .ok (.aload_n 0, 1) := by decide +kernel
theorem dX11_isNumber_76 : decode cX11_isNumber 76 = .ok (.getfield 43, 3) := by decide +kernel
theorem dX11_isNumber_79 : decode cX11_isNumber 79 = .ok (.iload_n 1, 1) := by decide +kernel
theorem dX11_isNumber_80 : decode cX11_isNumber 80 = .ok (.iload 5, 2) := by decide +kernel
theorem dX11_isNumber_82 : decode cX11_isNumber 82 = .ok (.iadd, 1) := by decide +kernel
theorem dX11_isNumber_83 : decode cX11_isNumber 83 = .ok (.iaload, 1) := by decide +kernel
theorem dX11_isNumber_84 : decode cX11_isNumber 84 = .ok (.bipush 48, 2) := by decide +kernel
theorem dX11_isNumber_86 : decode cX11_isNumber 86 = .ok (.if_icmp .lt 50, 3) := by decide +kernel
theorem dX11_isNumber_89 : decode cX11_isNumber 89 = .ok (.aload_n 0, 1) := by decide +kernel
theorem dX11_isNumber_90 : decode cX11_isNumber 90 = .ok (.getfield 43, 3) := by decide +kernel
theorem dX11_isNumber_93 : decode cX11_isNumber 93 = .ok (.iload_n 1, 1) := by decide +kernel
theorem dX11_isNumber_94 : decode cX11_isNumber 94 = .ok (.iload 5, 2) := by decide +kernel
theorem dX11_isNumber_96 : decode cX11_isNumber 96 = .ok (.iadd, 1) := by decide +kernel
theorem dX11_isNumber_97 : decode cX11_isNumber 97 = .ok (.iaload, 1) := by decide +kernel
theorem dX11_isNumber_98 : decode cX11_isNumber 98 = .ok (.bipush 55, 2) := by decide +kernel
theorem dX11_isNumber_100 : decode cX11_isNumber 100 = .ok (.if_icmp .gt 36, 3) := by decide +kernel
theorem dX11_isNumber_103 : decode cX11_isNumber 103 = .ok (.aload_n 0, 1) := by decide +kernel
theorem dX11_isNumber_104 : decode cX11_isNumber 104 = .ok (.ldc2_w 231, 3) := by decide +kernel
theorem dX11_isNumber_107 : decode cX11_isNumber 107 = .ok (.aload_n 0, 1) := by decide +kernel
theorem dX11_isNumber_108 : decode cX11_isNumber 108 = .ok (.getfield 228, 3) := by decide +kernel
theorem dX11_isNumber_111 : decode cX11_isNumber 111 = .ok (.lmul, 1) := by decide +kernel
theorem dX11_isNumber_112 : decode cX11_isNumber 112 = .ok (.aload_n 0, 1) := by decide +kernel
theorem dX11_isNumber_113 : decode cX11_isNumber 113 = .ok (.getfield 43, 3) := by decide +kernel
theorem dX11_isNumber_116 : decode cX11_isNumber 116 = .ok (.iload_n 1, 1) := by decide +kernel
theorem dX11_isNumber_117 : decode cX11_isNumber 117 = .ok (.iload 5, 2) := by decide +kernel
theorem dX11_isNumber_119 : decode cX11_isNumber 119 = .ok (.iadd, 1) := by decide +kernel
theorem dX11_isNumber_120 : decode cX11_isNumber 120 = .ok (.iaload, 1) := by decide +kernel
theorem dX11_isNumber_121 : decode cX11_isNumber 121 = .ok (.i2l, 1) := by decide +kernel
theorem dX11_isNumber_122 : decode cX11_isNumber 122 = .ok (.ladd, 1) := by decide +kernel
theorem dX11_isNumber_123 : decode cX11_isNumber 123 = .ok (.ldc2_w 233, 3) := by decide +kernel
theorem dX11_isNumber_126 : decode cX11_isNumber 126 = .ok (.lsub, 1) := by decide +kernel
theorem dX11_isNumber_127 : decode cX11_isNumber 127 = .ok (.putfield 228, 3) := by decide +kernel
theorem dX11_isNumber_130 : decode cX11_isNumber 130 = .ok (.iinc 5 1, 3) := by decide +kernel
theorem dX11_isNumber_133 : decode cX11_isNumber 133 = .ok (.goto (-64), 3) := by decide +kernel
theorem dX11_isNumber_136 : decode cX11_isNumber 136 = .ok (.iload 5, 2) := by decide +kernel
theorem dX11_isNumber_138 : decode cX11_isNumber 138 = .ok (.iload_n 2, 1) := by decide +kernel
theorem dX11_isNumber_139 : decode cX11_isNumber 139 = .ok (.if_icmp .ge 35, 3) := by decide +kernel
theorem dX11_isNumber_142 : decode cX11_isNumber 142 = .ok (.aload_n 0, 1) := by decide +kernel
theorem dX11_isNumber_143 : decode cX11_isNumber 143 = .ok (.getfield 43, 3) := by decide +kernel
theorem dX11_isNumber_146 : decode cX11_isNumber 146 = .ok (.iload_n 1, 1) := by decide +kernel
theorem dX11_isNumber_147 : decode cX11_isNumber 147 = .ok (.iload 5, 2) := by decide +kernel
theorem dX11_isNumber_149 : decode cX11_isNumber 149 = .ok (.iadd, 1) := by decide +kernel
theorem dX11_isNumber_150 : decode cX11_isNumber 150 = .ok (.iaload, 1) := by decide +kernel
theorem dX11_isNumber_151 : decode cX11_isNumber 151 = .ok (.ifCond .eq 17, 3) := by decide +kernel
theorem dX11_isNumber_154 : decode cX11_isNumber 154 = .ok (.aload_n 0, 1) := by decide +kernel
theorem dX11_isNumber_155 : decode cX11_isNumber 155 = .ok (.getfield 43, 3) := by decide +kernel
theorem dX11_isNumber_158 : decode cX11_isNumber 158 = .ok (.iload_n 1, 1) := by decide +kernel
theorem dX11_isNumber_159 : decode cX11_isNumber 159 = .ok (.iload 5, 2) := by decide +kernel
theorem dX11_isNumber_161 : decode cX11_isNumber 161 = .ok (.iadd, 1) := by decide +kernel
theorem dX11_isNumber_162 : decode cX11_isNumber 162 = .ok (.iaload, 1) := by decide +kernel
theorem dX11_isNumber_163 : decode cX11_isNumber 163 = .ok (.bipush 32, 2) := by decide +kernel
theorem dX11_isNumber_165 : decode cX11_isNumber 165 = .ok (.if_icmp .ne 9, 3) := by decide +kernel
theorem dX11_isNumber_168 : decode cX11_isNumber 168 = .ok (.iinc 5 1, 3) := by decide +kernel
theorem dX11_isNumber_171 : decode cX11_isNumber 171 = .ok (.goto (-35), 3) := by decide +kernel
theorem dX11_isNumber_174 : decode cX11_isNumber 174 = .ok (.iload 5, 2) := by decide +kernel
theorem dX11_isNumber_176 : decode cX11_isNumber 176 = .ok (.iload_n 2, 1) := by decide +kernel
theorem dX11_isNumber_177 : decode cX11_isNumber 177 = .ok (.if_icmp .ne 7, 3) := by decide +kernel
theorem dX11_isNumber_180 : decode cX11_isNumber 180 = .ok (.iconst 1, 1) := by decide +kernel
theorem dX11_isNumber_181 : decode cX11_isNumber 181 = .ok (.goto 4, 3) := by decide +kernel
theorem dX11_isNumber_184 : decode cX11_isNumber 184 = .ok (.iconst 0, 1) := by decide +kernel
theorem dX11_isNumber_185 : decode cX11_isNumber 185 = .ok (.ireturn, 1) := by decide +kernel
theorem dX11_isBy256_0 : decode cX11_isBy256 0 = .ok (.aload_n 0, 1) := by decide +kernel
theorem dX11_isBy256_1 : decode cX11_isBy256 1 = .ok (.getfield 43, 3) := by decide +kernel
theorem dX11_isBy256_4 : decode cX11_isBy256 4 = .ok (.iload_n 1, 1) := by decide +kernel
theorem dX11_isBy256_5 : decode cX11_isBy256 5 = .ok (.iaload, 1) := by decide +kernel
theorem dX11_isBy256_6 : decode cX11_isBy256 6 = .ok (.sipush 255, 3) := by decide +kernel
theorem dX11_isBy256_9 : decode cX11_isBy256 9 = .ok (.if_icmp .ne 7, 3) := by decide +kernel
theorem dX11_isBy256_12 : decode cX11_isBy256 12 = .ok (.iconst 1, 1) := by decide +kernel
theorem dX11_isBy256_13 : decode cX11_isBy256 13 = .ok (.goto 4, 3) := by decide +kernel
theorem dX11_isBy256_16 : decode cX11_isBy256 16 = .ok (.iconst 0, 1) := by decide +kernel
theorem dX11_isBy256_17 : decode cX11_isBy256 17 = .ok (.istore_n 3, 1) := by decide +kernel
theorem dX11_isBy256_18 : decode cX11_isBy256 18 = .ok (.iconst 1, 1) := by decide +kernel
theorem dX11_isBy256_19 : decode cX11_isBy256 19 = .ok (.istore 4, 2) := by decide +kernel
theorem dX11_isBy256_21 : decode cX11_isBy256 21 = .ok (.aload_n 0, 1) := by decide +kernel
theorem dX11_isBy256_22 : decode cX11_isBy256 22 = .ok (.iload_n 3, 1) := by decide +kernel
theorem dX11_isBy256_23 : decode cX11_isBy256 23 = .ok (.ifCond .eq 9, 3) := by decide +kernel
theorem dX11_isBy256_26 : decode cX11_isBy256 26 = .ok (.ldc2_w 235, 3) := by decide +kernel
theorem dX11_isBy256_29 : decode cX11_isBy256 29 = .ok (.goto 4, 3) := by decide +kernel
theorem dX11_isBy256_32 : decode cX11_isBy256 32 = .ok (.lconst 0, 1) := by decide +kernel
theorem dX11_isBy256_33 : decode cX11_isBy256 33 = .ok (.putfield 228, 3) := by decide +kernel
theorem dX11_isBy256_36 : decode cX11_isBy256 36 = .ok (.iconst 1, 1) := by decide +kernel
theorem dX11_isBy256_37 : decode cX11_isBy256 37 = .ok (.istore 5, 2) := by decide +kernel
theorem dX11_isBy256_39 : decode cX11_isBy256 39 = .ok (.iload 5, 2) := by decide +kernel
theorem dX11_isBy256_41 : decode cX11_isBy256 41 = .ok (.iload_n 2, 1) := by decide +kernel
theorem dX11_isBy256_42 : decode cX11_isBy256 42 = .ok (.if_icmp .ge 101, 3) := by decide +kernel
theorem dX11_isBy256_45 : decode cX11_isBy256 45 = .ok (.aload_n 0, 1) := by decide +kernel
theorem dX11_isBy256_46 : decode cX11_isBy256 46 = .ok (.getfield 43, 3) := by decide +kernel
theorem dX11_isBy256_49 : decode cX11_isBy256 49 = .ok (.iload_n 1, 1) := by decide +kernel
theorem dX11_isBy256_50 : decode cX11_isBy256 50 = .ok (.iload 5, 2) := by decide +kernel
theorem dX11_isBy256_52 : decode cX11_isBy256 52 = .ok (.iadd, 1) := by decide +kernel
theorem dX11_isBy256_53 : decode cX11_isBy256 53 = .ok (.iaload, 1) := by decide +kernel
theorem dX11_isBy256_54 : decode cX11_isBy256 54 = .ok (.istore 6, 2) := by decide +kernel
theorem dX11_isBy256_56 : decode cX11_isBy256 56 = .ok (.iload_n 2, 1) := by decide +kernel
theorem dX11_isBy256_57 : decode cX11_isBy256 57 = .ok (.iconst 1, 1) := by decide +kernel
theorem dX11_isBy256_58 : decode cX11_isBy256 58 = .ok (.isub, 1) := by decide +kernel
theorem dX11_isBy256_59 : decode cX11_isBy256 59 = .ok (.iload 5, 2) := by decide +kernel
theorem dX11_isBy256_61 : decode cX11_isBy256 61 = .ok (.isub, 1) := by decide +kernel
theorem dX11_isBy256_62 : decode cX11_isBy256 62 = .ok (.istore 7, 2) := by decide +kernel
theorem dX11_isBy256_64 : decode cX11_isBy256 64 = .ok (.iload 4, 2) := by decide +kernel
theorem dX11_isBy256_66 : decode cX11_isBy256 66 = .ok (.ifCond .eq 53, 3) := by decide +kernel
theorem dX11_isBy256_69 : decode cX11_isBy256 69 = .ok (.iload 7, 2) := by decide +kernel
theorem dX11_isBy256_71 : decode cX11_isBy256 71 = .ok (.bipush 8, 2) := by decide +kernel
theorem dX11_isBy256_73 : decode cX11_isBy256 73 = .ok (.if_icmp .lt 19, 3) := by decide +kernel
theorem dX11_isBy256_76 : decode cX11_isBy256 76 = .ok (.iload 6, 2) := by decide +kernel
theorem dX11_isBy256_78 : decode cX11_isBy256 78 = .ok (.iload_n 3, 1) := by decide +kernel
theorem dX11_isBy256_79 : decode cX11_isBy256 79 = .ok (.ifCond .eq 9, 3) := by decide +kernel
theorem dX11_isBy256_82 : decode cX11_isBy256 82 = .ok (.sipush 255, 3) := by decide +kernel
theorem dX11_isBy256_85 : decode cX11_isBy256 85 = .ok (.goto 4, 3) := by decide +kernel
theorem dX11_isBy256_88 : decode cX11_isBy256 88 = .ok (.iconst 0, 1) := by decide +kernel
theorem dX11_isBy256_89 : decode cX11_isBy256 89 = .ok (.if_icmp .ne 30, 3) := by decide +kernel
theorem dX11_isBy256_92 : decode cX11_isBy256 92 = .ok (.iload 7, 2) := by decide +kernel
theorem dX11_isBy256_94 : decode cX11_isBy256 94 = .ok (.bipush 7, 2) := by decide +kernel
theorem dX11_isBy256_96 : decode cX11_isBy256 96 = .ok (.if_icmp .ne 19, 3) := by decide +kernel
theorem dX11_isBy256_99 : decode cX11_isBy256 99 = .ok (.iload 6, 2) := by decide +kernel
theorem dX11_isBy256_101 : decode cX11_isBy256 101 = .ok (.bipush 127, 2) := by decide +kernel
theorem dX11_isBy256_103 : decode cX11_isBy256 103 = .ok (.if_icmp .le 7, 3) := by decide +kernel
theorem dX11_isBy256_106 : decode cX11_isBy256 106 = .ok (.iconst 1, 1) := by decide +kernel
theorem dX11_isBy256_107 : decode cX11_isBy256 107 = .ok (.goto 4, 3) := by decide +kernel
theorem dX11_isBy256_110 : decode cX11_isBy256 110 = .ok (.iconst 0, 1) := by decide +kernel
theorem dX11_isBy256_111 : decode cX11_isBy256 111 = .ok (.iload_n 3, 1) := by decide +kernel
theorem dX11_isBy256_112 : decode cX11_isBy256 112 = .ok (.if_icmp .ne 7, 3) := by decide +kernel
theorem dX11_isBy256_115 : decode cX11_isBy256 115 = .ok (.iconst 1, 1) := by decide +kernel
theorem dX11_isBy256_116 : decode cX11_isBy256 116 = .ok (.goto 4, 3) := by decide +kernel
theorem dX11_isBy256_119 : decode cX11_isBy256 119 = .ok (.iconst 0, 1) := by decide +kernel
theorem dX11_isBy256_120 : decode cX11_isBy256 120 = .ok (.istore 4, 2) := by decide +kernel
theorem dX11_isBy256_122 : decode cX11_isBy256 122 = .ok (.aload_n 0, 1) := by decide +kernel
theorem dX11_isBy256_123 : decode cX11_isBy256 123 = .ok (.aload_n 0, 1) := by decide +kernel
theorem dX11_isBy256_124 : decode cX11_isBy256 124 = .ok (.getfield 228, 3) := by decide +kernel
theorem dX11_isBy256_127 : decode cX11_isBy256 127 = .ok (.bipush 8, 2) := by decide +kernel
theorem dX11_isBy256_129 : decode cX11_isBy256 129 = .ok (.lshl, 1) := by decide +kernel
theorem dX11_isBy256_130 : decode cX11_isBy256 130 = .ok (.iload 6, 2) := by decide +kernel
theorem dX11_isBy256_132 : decode cX11_isBy256 132 = .ok (.i2l, 1) := by decide +kernel
theorem dX11_isBy256_133 : decode cX11_isBy256 133 = .ok (.lor, 1) := by decide +kernel
theorem dX11_isBy256_134 : decode cX11_isBy256 134 = .ok (.putfield 228, 3) := by decide +kernel
theorem dX11_isBy256_137 : decode cX11_isBy256 137 = .ok (.iinc 5 1, 3) := by decide +kernel
theorem dX11_isBy256_140 : decode cX11_isBy256 140 = .ok (.goto (-101), 3) := by decide +kernel
theorem dX11_isBy256_143 : decode cX11_isBy256 143 = .ok (.iload 4, 2) := by decide +kernel
theorem dX11_isBy256_145 : decode cX11_isBy256 145 = .ok (.ireturn, 1) := by decide +kernel
theorem dX11_forget_0 : decode cX11_forget 0 = .ok (.aload_n 0, 1) := by decide +kernel
theorem dX11_forget_1 : decode cX11_forget 1 = .ok (.getfield 65, 3) := by decide +kernel
theorem dX11_forget_4 : decode cX11_forget 4 = .ok (.iload_n 1, 1) := by decide +kernel
theorem dX11_forget_5 : decode cX11_forget 5 = .ok (.iconst 0, 1) := by decide +kernel
theorem dX11_forget_6 : decode cX11_forget 6 = .ok (.iastore, 1) := by decide +kernel
theorem dX11_forget_7 : decode cX11_forget 7 = .ok (.aload_n 0, 1) := by decide +kernel
theorem dX11_forget_8 : decode cX11_forget 8 = .ok (.getfield 71, 3) := by decide +kernel
theorem dX11_forget_11 : decode cX11_forget 11 = .ok (.iload_n 1, 1) := by decide +kernel
theorem dX11_forget_12 : decode cX11_forget 12 = .ok (.iconst 0, 1) := by decide +kernel
theorem dX11_forget_13 : decode cX11_forget 13 = .ok (.iastore, 1) := by decide +kernel
theorem dX11_forget_14 : decode cX11_forget 14 = .ok (.iconst 0, 1) := by decide +kernel
theorem dX11_forget_15 : decode cX11_forget 15 = .ok (.istore_n 2, 1) := by decide +kernel
theorem dX11_forget_16 : decode cX11_forget 16 = .ok (.iload_n 2, 1) := by decide +kernel
theorem dX11_forget_17 : decode cX11_forget 17 = .ok (.iconst 4, 1) := by decide +kernel
theorem dX11_forget_18 : decode cX11_forget 18 = .ok (.if_icmp .ge 20, 3) := by decide +kernel
theorem dX11_forget_21 : decode cX11_forget 21 = .ok (.aload_n 0, 1) := by decide +kernel
theorem dX11_forget_22 : decode cX11_forget 22 = .ok (.getfield 74, 3) := by decide +kernel
theorem dX11_forget_25 : decode cX11_forget 25 = .ok (.iconst 4, 1) := by decide +kernel
theorem dX11_forget_26 : decode cX11_forget 26 = .ok (.iload_n 1, 1) := by decide +kernel
theorem dX11_forget_27 : decode cX11_forget 27 = .ok (.imul, 1) := by decide +kernel
theorem dX11_forget_28 : decode cX11_forget 28 = .ok (.iload_n 2, 1) := by decide +kernel
theorem dX11_forget_29 : decode cX11_forget 29 = .ok (.iadd, 1) := by decide +kernel
theorem dX11_forget_30 : decode cX11_forget 30 = .ok (.iconst 0, 1) := by decide +kernel
theorem dX11_forget_31 : decode cX11_forget 31 = .ok (.bastore, 1) := by decide +kernel
theorem dX11_forget_32 : decode cX11_forget 32 = .ok (.iinc 2 1, 3) := by decide +kernel
theorem dX11_forget_35 : decode cX11_forget 35 = .ok (.goto (-19), 3) := by decide +kernel
theorem dX11_forget_38 : decode cX11_forget 38 = .ok (.return_, 1) := by decide +kernel
theorem dX11_read_0 : decode cX11_read 0 = .ok (.aload_n 0, 1) := by decide +kernel
theorem dX11_read_1 : decode cX11_read 1 = .ok (.iconst 0, 1) := by decide +kernel
theorem dX11_read_2 : decode cX11_read 2 = .ok (.putfield 219, 3) := by decide +kernel
theorem dX11_read_5 : decode cX11_read 5 = .ok (.aload_n 0, 1) := by decide +kernel
theorem dX11_read_6 : decode cX11_read 6 = .ok (.iconst 0, 1) := by decide +kernel
theorem dX11_read_7 : decode cX11_read 7 = .ok (.putfield 222, 3) := by decide +kernel
theorem dX11_read_10 : decode cX11_read 10 = .ok (.aload_n 0, 1) := by decide +kernel
theorem dX11_read_11 : decode cX11_read 11 = .ok (.iconst 0, 1) := by decide +kernel
theorem dX11_read_12 : decode cX11_read 12 = .ok (.putfield 237, 3) := by decide +kernel
theorem dX11_read_15 : decode cX11_read 15 = .ok (.aload_n 0, 1) := by decide +kernel
theorem dX11_read_16 : decode cX11_read 16 = .ok (.iconst 0, 1) := by decide +kernel
theorem dX11_read_17 : decode cX11_read 17 = .ok (.putfield 240, 3) := by decide +kernel
theorem dX11_read_20 : decode cX11_read 20 = .ok (.aload_n 0, 1) := by decide +kernel
theorem dX11_read_21 : decode cX11_read 21 = .ok (.iconst 0, 1) := by decide +kernel
theorem dX11_read_22 : decode cX11_read 22 = .ok (.invokevirtual 243, 3) := by decide +kernel
theorem dX11_read_25 : decode cX11_read 25 = .ok (.aload_n 0, 1) := by decide +kernel
theorem dX11_read_26 : decode cX11_read 26 = .ok (.iconst 1, 1) := by decide +kernel
theorem dX11_read_27 : decode cX11_read 27 = .ok (.invokevirtual 243, 3) := by decide +kernel
theorem dX11_read_30 : decode cX11_read 30 = .ok (.aload_n 0, 1) := by decide +kernel
theorem dX11_read_31 : decode cX11_read 31 = .ok (.iconst 0, 1) := by decide +kernel
theorem dX11_read_32 : decode cX11_read 32 = .ok (.putfield 246, 3) := by decide +kernel
theorem dX11_read_35 : decode cX11_read 35 = .ok (.iconst 0, 1) := by decide +kernel
theorem dX11_read_36 : decode cX11_read 36 = .ok (.istore_n 2, 1) := by decide +kernel
theorem dX11_read_37 : decode cX11_read 37 = .ok (.iload_n 2, 1) := by decide +kernel
theorem dX11_read_38 : decode cX11_read 38 = .ok (.ifCond .lt 13, 3) := by decide +kernel
theorem dX11_read_41 : decode cX11_read 41 = .ok (.aload_n 0, 1) := by decide +kernel
theorem dX11_read_42 : decode cX11_read 42 = .ok (.iload_n 2, 1) := by decide +kernel
theorem dX11_read_43 : decode cX11_read 43 = .ok (.iload_n 1, 1) := by decide +kernel
theorem dX11_read_44 : decode cX11_read 44 = .ok (.invokevirtual 250, 3) := by decide +kernel
theorem dX11_read_47 : decode cX11_read 47 = .ok (.istore_n 2, 1) := by decide +kernel
theorem dX11_read_48 : decode cX11_read 48 = .ok (.goto (-11), 3) := by decide +kernel
theorem dX11_read_51 : decode cX11_read 51 = .ok (.aload_n 0, 1) := by decide +kernel
theorem dX11_read_52 : decode cX11_read 52 = .ok (.getfield 237, 3) := by decide +kernel
theorem dX11_read_55 : decode cX11_read 55 = .ok (.ireturn, 1) := by decide +kernel
theorem dX11_one_0 : decode cX11_one 0 = .ok (.iload_n 1, 1) := by decide +kernel
theorem dX11_one_1 : decode cX11_one 1 = .ok (.aload_n 0, 1) := by decide +kernel
theorem dX11_one_2 : decode cX11_one 2 = .ok (.getfield 212, 3) := by decide +kernel
theorem dX11_one_5 : decode cX11_one 5 = .ok (.if_icmp .lt 23, 3) := by decide +kernel
theorem dX11_one_8 : decode cX11_one 8 = .ok (.aload_n 0, 1) := by decide +kernel
theorem dX11_one_9 : decode cX11_one 9 = .ok (.aload_n 0, 1) := by decide +kernel
theorem dX11_one_10 : decode cX11_one 10 = .ok (.getfield 246, 3) := by decide +kernel
theorem dX11_one_13 : decode cX11_one 13 = .ok (.ifCond .eq 8, 3) := by decide +kernel
theorem dX11_one_16 : decode cX11_one 16 = .ok (.bipush 12, 2) := by decide +kernel
theorem dX11_one_18 : decode cX11_one 18 = .ok (.goto 4, 3) := by decide +kernel
theorem dX11_one_21 : decode cX11_one 21 = .ok (.iconst 1, 1) := by decide +kernel
theorem dX11_one_22 : decode cX11_one 22 = .ok (.iload_n 1, 1) := by decide +kernel
theorem dX11_one_23 : decode cX11_one 23 = .ok (.invokevirtual 254, 3) := by decide +kernel
theorem dX11_one_26 : decode cX11_one 26 = .ok (.iconst (-1), 1) := by decide +kernel
theorem dX11_one_27 : decode cX11_one 27 = .ok (.ireturn, 1) := by decide +kernel
theorem dX11_one_28 : decode cX11_one 28 = .ok (.iload_n 1, 1) := by decide +kernel
theorem dX11_one_29 : decode cX11_one 29 = .ok (.sipush 512, 3) := by decide +kernel
theorem dX11_one_32 : decode cX11_one 32 = .ok (.iadd, 1) := by decide +kernel
theorem dX11_one_33 : decode cX11_one 33 = .ok (.aload_n 0, 1) := by decide +kernel
theorem dX11_one_34 : decode cX11_one 34 = .ok (.getfield 212, 3) := by decide +kernel
theorem dX11_one_37 : decode cX11_one 37 = .ok (.if_icmp .le 11, 3) := by decide +kernel
theorem dX11_one_40 : decode cX11_one 40 = .ok (.aload_n 0, 1) := by decide +kernel
theorem dX11_one_41 : decode cX11_one 41 = .ok (.iconst 2, 1) := by decide +kernel
theorem dX11_one_42 : decode cX11_one 42 = .ok (.iload_n 1, 1) := by decide +kernel
theorem dX11_one_43 : decode cX11_one 43 = .ok (.invokevirtual 254, 3) := by decide +kernel
theorem dX11_one_46 : decode cX11_one 46 = .ok (.iconst (-1), 1) := by decide +kernel
theorem dX11_one_47 : decode cX11_one 47 = .ok (.ireturn, 1) := by decide +kernel
theorem dX11_one_48 : decode cX11_one 48 = .ok (.aload_n 0, 1) := by decide +kernel
theorem dX11_one_49 : decode cX11_one 49 = .ok (.iload_n 1, 1) := by decide +kernel
theorem dX11_one_50 : decode cX11_one 50 = .ok (.invokevirtual 257, 3) := by decide +kernel
theorem dX11_one_53 : decode cX11_one 53 = .ok (.ifCond .eq 10, 3) := by decide +kernel
theorem dX11_one_56 : decode cX11_one 56 = .ok (.aload_n 0, 1) := by decide +kernel
theorem dX11_one_57 : decode cX11_one 57 = .ok (.iload_n 1, 1) := by decide +kernel
theorem dX11_one_58 : decode cX11_one 58 = .ok (.iload_n 2, 1) := by decide +kernel
theorem dX11_one_59 : decode cX11_one 59 = .ok (.invokevirtual 261, 3) := by decide +kernel
theorem dX11_one_62 : decode cX11_one 62 = .ok (.ireturn, 1) := by decide +kernel
theorem dX11_one_63 : decode cX11_one 63 = .ok (.aload_n 0, 1) := by decide +kernel
theorem dX11_one_64 : decode cX11_one 64 = .ok (.iload_n 1, 1) := by decide +kernel
theorem dX11_one_65 : decode cX11_one 65 = .ok (.sipush 148, 3) := by decide +kernel
theorem dX11_one_68 : decode cX11_one 68 = .ok (.iadd, 1) := by decide +kernel
theorem dX11_one_69 : decode cX11_one 69 = .ok (.bipush 8, 2) := by decide +kernel
theorem dX11_one_71 : decode cX11_one 71 = .ok (.iconst 0, 1) := by decide +kernel
theorem dX11_one_72 : decode cX11_one 72 = .ok (.invokevirtual 264, 3) := by decide +kernel
theorem dX11_one_75 : decode cX11_one 75 = .ok (.ifCond .eq 41, 3) := by decide +kernel
theorem dX11_one_78 : decode cX11_one 78 = .ok (.aload_n 0, 1) := by decide +kernel
theorem dX11_one_79 : decode cX11_one 79 = .ok (.getfield 228, 3) := by decide +kernel
theorem dX11_one_82 : decode cX11_one 82 = .ok (.aload_n 0, 1) := by decide +kernel
theorem dX11_one_83 : decode cX11_one 83 = .ok (.aload_n 0, 1) := by decide +kernel
theorem dX11_one_84 : decode cX11_one 84 = .ok (.getfield 43, 3) := by decide +kernel
theorem dX11_one_87 : decode cX11_one 87 = .ok (.iload_n 1, 1) := by decide +kernel
theorem dX11_one_88 : decode cX11_one 88 = .ok (.iconst 0, 1) := by decide +kernel
theorem dX11_one_89 : decode cX11_one 89 = .ok (.invokevirtual 131, 3) := by decide +kernel
theorem dX11_one_92 : decode cX11_one 92 = .ok (.i2l, 1) := by decide +kernel
theorem dX11_one_93 : decode cX11_one 93 = .ok (.lcmp, 1) := by decide +kernel
theorem dX11_one_94 : decode cX11_one 94 = .ok (.ifCond .eq 34, 3) := by decide +kernel
theorem dX11_one_97 : decode cX11_one 97 = .ok (.aload_n 0, 1) := by decide +kernel
theorem dX11_one_98 : decode cX11_one 98 = .ok (.getfield 228, 3) := by decide +kernel
theorem dX11_one_101 : decode cX11_one 101 = .ok (.aload_n 0, 1) := by decide +kernel
theorem dX11_one_102 : decode cX11_one 102 = .ok (.aload_n 0, 1) := by decide +kernel
theorem dX11_one_103 : decode cX11_one 103 = .ok (.getfield 43, 3) := by decide +kernel
theorem dX11_one_106 : decode cX11_one 106 = .ok (.iload_n 1, 1) := by decide +kernel
theorem dX11_one_107 : decode cX11_one 107 = .ok (.iconst 1, 1) := by decide +kernel
theorem dX11_one_108 : decode cX11_one 108 = .ok (.invokevirtual 131, 3) := by decide +kernel
theorem dX11_one_111 : decode cX11_one 111 = .ok (.i2l, 1) := by decide +kernel
theorem dX11_one_112 : decode cX11_one 112 = .ok (.lcmp, 1) := by decide +kernel
theorem dX11_one_113 : decode cX11_one 113 = .ok (.ifCond .eq 15, 3) := by decide +kernel
theorem dX11_one_116 : decode cX11_one 116 = .ok (.aload_n 0, 1) := by decide +kernel
theorem dX11_one_117 : decode cX11_one 117 = .ok (.iconst 4, 1) := by decide +kernel
theorem dX11_one_118 : decode cX11_one 118 = .ok (.iload_n 1, 1) := by decide +kernel
theorem dX11_one_119 : decode cX11_one 119 = .ok (.sipush 148, 3) := by decide +kernel
theorem dX11_one_122 : decode cX11_one 122 = .ok (.iadd, 1) := by decide +kernel
theorem dX11_one_123 : decode cX11_one 123 = .ok (.invokevirtual 254, 3) := by decide +kernel
theorem dX11_one_126 : decode cX11_one 126 = .ok (.iconst (-1), 1) := by decide +kernel
theorem dX11_one_127 : decode cX11_one 127 = .ok (.ireturn, 1) := by decide +kernel
theorem dX11_one_128 : decode cX11_one 128 = .ok (.iconst 0, 1) := by decide +kernel
theorem dX11_one_129 : decode cX11_one 129 = .ok (.istore_n 3, 1) := by decide +kernel
theorem dX11_one_130 : decode cX11_one 130 = .ok (.iload_n 3, 1) := by decide +kernel
theorem dX11_one_131 : decode cX11_one 131 = .ok (.iconst 5, 1) := by decide +kernel
theorem dX11_one_132 : decode cX11_one 132 = .ok (.if_icmp .ge 112, 3) := by decide +kernel
theorem dX11_one_135 : decode cX11_one 135 = .ok (.iload_n 3, 1) := by decide +kernel
theorem dX11_one_136 : decode cX11_one 136 = .ok (.ifCond .ne 8, 3) := by decide +kernel
theorem dX11_one_139 : decode cX11_one 139 = .ok (.bipush 100, 2) := by decide +kernel
theorem dX11_one_141 : decode cX11_one 141 = .ok (.goto 36, 3) := by decide +kernel
theorem dX11_one_144 : decode cX11_one 144 = .ok (.iload_n 3, 1) := by decide +kernel
theorem dX11_one_145 : decode cX11_one 145 = .ok (.iconst 1, 1) := by decide +kernel
theorem dX11_one_146 : decode cX11_one 146 = .ok (.if_icmp .ne 8, 3) := by decide +kernel
theorem dX11_one_149 : decode cX11_one 149 = .ok (.bipush 108, 2) := by decide +kernel
theorem dX11_one_151 : decode cX11_one 151 = .ok (.goto 26, 3) := by decide +kernel
theorem dX11_one_154 : decode cX11_one 154 = .ok (.iload_n 3, 1) := by decide +kernel
theorem dX11_one_155 : decode cX11_one 155 = .ok (.iconst 2, 1) := by decide +kernel
theorem dX11_one_156 : decode cX11_one 156 = .ok (.if_icmp .ne 8, 3) := by decide +kernel
theorem dX11_one_159 : decode cX11_one 159 = .ok (.bipush 116, 2) := by decide +kernel
theorem dX11_one_161 : decode cX11_one 161 = .ok (.goto 16, 3) := by decide +kernel
theorem dX11_one_164 : decode cX11_one 164 = .ok (.iload_n 3, 1) := by decide +kernel
theorem dX11_one_165 : decode cX11_one 165 = .ok (.iconst 3, 1) := by decide +kernel
theorem dX11_one_166 : decode cX11_one 166 = .ok (.if_icmp .ne 8, 3) := by decide +kernel
theorem dX11_one_169 : decode cX11_one 169 = .ok (.bipush 124, 2) := by decide +kernel
theorem dX11_one_171 : decode cX11_one 171 = .ok (.goto 6, 3) := by decide +kernel
theorem dX11_one_174 : decode cX11_one 174 = .ok (.sipush 136, 3) := by decide +kernel
theorem dX11_one_177 : decode cX11_one 177 = .ok (.istore 4, 2) := by decide +kernel
theorem dX11_one_179 : decode cX11_one 179 = .ok (.aload_n 0, 1) := by decide +kernel
theorem dX11_one_180 : decode cX11_one 180 = .ok (.iload_n 1, 1) := by decide +kernel
theorem dX11_one_181 : decode cX11_one 181 = .ok (.iload 4, 2) := by decide +kernel
theorem dX11_one_183 : decode cX11_one 183 = .ok (.iadd, 1) := by decide +kernel
theorem dX11_one_184 : decode cX11_one 184 = .ok (.iload_n 3, 1) := by decide +kernel
theorem dX11_one_185 : decode cX11_one 185 = .ok (.iconst 3, 1) := by decide +kernel
theorem dX11_one_186 : decode cX11_one 186 = .ok (.if_icmp .ge 8, 3) := by decide +kernel
theorem dX11_one_189 : decode cX11_one 189 = .ok (.bipush 8, 2) := by decide +kernel
theorem dX11_one_191 : decode cX11_one 191 = .ok (.goto 5, 3) := by decide +kernel
theorem dX11_one_194 : decode cX11_one 194 = .ok (.bipush 12, 2) := by decide +kernel
theorem dX11_one_196 : decode cX11_one 196 = .ok (.iconst 1, 1) := by decide +kernel
theorem dX11_one_197 : decode cX11_one 197 = .ok (.invokevirtual 264, 3) := by decide +kernel
theorem dX11_one_200 : decode cX11_one 200 = .ok (.ifCond .eq 17, 3) := by decide +kernel
theorem dX11_one_203 : decode cX11_one 203 = .ok (.iload_n 3, 1) := by decide +kernel
theorem dX11_one_204 : decode cX11_one 204 = .ok (.iconst 3, 1) := by decide +kernel
theorem dX11_one_205 : decode cX11_one 205 = .ok (.if_icmp .ne 23, 3) := by decide +kernel
theorem dX11_one_208 : decode cX11_one 208 = .ok (.aload_n 0, 1) := by decide +kernel
theorem dX11_one_209 : decode cX11_one 209 = .ok (.getfield 228, 3) := by decide +kernel
theorem dX11_one_212 : decode cX11_one 212 = .ok (.lconst 0, 1) := by decide +kernel
theorem dX11_one_213 : decode cX11_one 213 = .ok (.lcmp, 1) := by decide +kernel
theorem dX11_one_214 : decode cX11_one 214 = .ok (.ifCond .ge 14, 3) := by decide +kernel
theorem dX11_one_217 : decode cX11_one 217 = .ok (.aload_n 0, 1) := by decide +kernel
theorem dX11_one_218 : decode cX11_one 218 = .ok (.iconst 5, 1) := by decide +kernel
theorem dX11_one_219 : decode cX11_one 219 = .ok (.iload_n 1, 1) := by decide +kernel
theorem dX11_one_220 : decode cX11_one 220 = .ok (.iload 4, 2) := by decide +kernel
theorem dX11_one_222 : decode cX11_one 222 = .ok (.iadd, 1) := by decide +kernel
theorem dX11_one_223 : decode cX11_one 223 = .ok (.invokevirtual 254, 3) := by decide +kernel
theorem dX11_one_226 : decode cX11_one 226 = .ok (.iconst (-1), 1) := by decide +kernel
theorem dX11_one_227 : decode cX11_one 227 = .ok (.ireturn, 1) := by decide +kernel
theorem dX11_one_228 : decode cX11_one 228 = .ok (.aload_n 0, 1) := by decide +kernel
theorem dX11_one_229 : decode cX11_one 229 = .ok (.getfield 81, 3) := by decide +kernel
theorem dX11_one_232 : decode cX11_one 232 = .ok (.iload_n 3, 1) := by decide +kernel
theorem dX11_one_233 : decode cX11_one 233 = .ok (.aload_n 0, 1) := by decide +kernel
theorem dX11_one_234 : decode cX11_one 234 = .ok (.getfield 228, 3) := by decide +kernel
theorem dX11_one_237 : decode cX11_one 237 = .ok (.lastore, 1) := by decide +kernel
theorem dX11_one_238 : decode cX11_one 238 = .ok (.iinc 3 1, 3) := by decide +kernel
theorem dX11_one_241 : decode cX11_one 241 = .ok (.goto (-111), 3) := by decide +kernel
theorem dX11_one_244 : decode cX11_one 244 = .ok (.aload_n 0, 1) := by decide +kernel
theorem dX11_one_245 : decode cX11_one 245 = .ok (.getfield 43, 3) := by decide +kernel
theorem dX11_one_248 : decode cX11_one 248 = .ok (.iload_n 1, 1) := by decide +kernel
theorem dX11_one_249 : decode cX11_one 249 = .ok (.sipush 156, 3) := by decide +kernel
theorem dX11_one_252 : decode cX11_one 252 = .ok (.iadd, 1) := by decide +kernel
theorem dX11_one_253 : decode cX11_one 253 = .ok (.iaload, 1) := by decide +kernel
theorem dX11_one_254 : decode cX11_one 254 = .ok (.istore_n 3, 1) := by decide +kernel
theorem dX11_one_255 : decode cX11_one 255 = .ok (.iload_n 3, 1) := by decide +kernel
theorem dX11_one_256 : decode cX11_one 256 = .ok (.ifCond .ne 8, 3) := by decide +kernel
theorem dX11_one_259 : decode cX11_one 259 = .ok (.bipush 48, 2) := by decide +kernel
theorem dX11_one_261 : decode cX11_one 261 = .ok (.goto 4, 3) := by decide +kernel
theorem dX11_one_264 : decode cX11_one 264 = .ok (.iload_n 3, 1) := by decide +kernel
theorem dX11_one_265 : decode cX11_one 265 = .ok (.istore_n 3, 1) := by decide +kernel
theorem dX11_one_266 : decode cX11_one 266 = .ok (.iload_n 3, 1) := by decide +kernel
theorem dX11_one_267 : decode cX11_one 267 = .ok (.bipush 48, 2) := by decide +kernel
theorem dX11_one_269 : decode cX11_one 269 = .ok (.if_icmp .eq 21, 3) := by decide +kernel
theorem dX11_one_272 : decode cX11_one 272 = .ok (.iload_n 3, 1) := by decide +kernel
theorem dX11_one_273 : decode cX11_one 273 = .ok (.bipush 49, 2) := by decide +kernel
theorem dX11_one_275 : decode cX11_one 275 = .ok (.if_icmp .eq 15, 3) := by decide +kernel
theorem dX11_one_278 : decode cX11_one 278 = .ok (.iload_n 3, 1) := by decide +kernel
theorem dX11_one_279 : decode cX11_one 279 = .ok (.bipush 50, 2) := by decide +kernel
theorem dX11_one_281 : decode cX11_one 281 = .ok (.if_icmp .eq 9, 3) := by decide +kernel
theorem dX11_one_284 : decode cX11_one 284 = .ok (.iload_n 3, 1) := by decide +kernel
theorem dX11_one_285 : decode cX11_one 285 = .ok (.bipush 53, 2) := by decide +kernel
theorem dX11_one_287 : decode cX11_one 287 = .ok (.if_icmp .ne 7, 3) := by decide +kernel
theorem dX11_one_290 : decode cX11_one 290 = .ok (.iconst 1, 1) := by decide +kernel
theorem dX11_one_291 : decode cX11_one 291 = .ok (.goto 4, 3) := by decide +kernel
theorem dX11_one_294 : decode cX11_one 294 = .ok (.iconst 0, 1) := by decide +kernel
theorem dX11_one_295 : decode cX11_one 295 = .ok (.istore 4, 2) := by decide +kernel
theorem dX11_one_297 : decode cX11_one 297 = .ok (.iload 4, 2) := by decide +kernel
theorem dX11_one_299 : decode cX11_one 299 = .ok (.ifCond .ne 40, 3) := by decide +kernel
theorem dX11_one_302 : decode cX11_one 302 = .ok (.iload_n 3, 1) := by decide +kernel
theorem dX11_one_303 : decode cX11_one 303 = .ok (.bipush 120, 2) := by decide +kernel
theorem dX11_one_305 : decode cX11_one 305 = .ok (.if_icmp .eq 34, 3) := by decide +kernel
theorem dX11_one_308 : decode cX11_one 308 = .ok (.iload_n 3, 1) := by decide +kernel
theorem dX11_one_309 : decode cX11_one 309 = .ok (.bipush 103, 2) := by decide +kernel
theorem dX11_one_311 : decode cX11_one 311 = .ok (.if_icmp .eq 28, 3) := by decide +kernel
theorem dX11_one_314 : decode cX11_one 314 = .ok (.iload_n 3, 1) := by decide +kernel
theorem dX11_one_315 : decode cX11_one 315 = .ok (.bipush 75, 2) := by decide +kernel
theorem dX11_one_317 : decode cX11_one 317 = .ok (.if_icmp .eq 22, 3) := by decide +kernel
theorem dX11_one_320 : decode cX11_one 320 = .ok (.iload_n 3, 1) := by decide +kernel
theorem dX11_one_321 : decode cX11_one 321 = .ok (.bipush 76, 2) := by decide +kernel
theorem dX11_one_323 : decode cX11_one 323 = .ok (.if_icmp .eq 16, 3) := by decide +kernel
theorem dX11_one_326 : decode cX11_one 326 = .ok (.aload_n 0, 1) := by decide +kernel
theorem dX11_one_327 : decode cX11_one 327 = .ok (.bipush 6, 2) := by decide +kernel
theorem dX11_one_329 : decode cX11_one 329 = .ok (.iload_n 1, 1) := by decide +kernel
theorem dX11_one_330 : decode cX11_one 330 = .ok (.sipush 156, 3) := by decide +kernel
theorem dX11_one_333 : decode cX11_one 333 = .ok (.iadd, 1) := by decide +kernel
theorem dX11_one_334 : decode cX11_one 334 = .ok (.invokevirtual 254, 3) := by decide +kernel
theorem dX11_one_337 : decode cX11_one 337 = .ok (.iconst (-1), 1) := by decide +kernel
theorem dX11_one_338 : decode cX11_one 338 = .ok (.ireturn, 1) := by decide +kernel
theorem dX11_one_339 : decode cX11_one 339 = .ok (.iload 4, 2) := by decide +kernel
theorem dX11_one_341 : decode cX11_one 341 = .ok (.ifCond .ne 12, 3) := by decide +kernel
theorem dX11_one_344 : decode cX11_one 344 = .ok (.aload_n 0, 1) := by decide +kernel
theorem dX11_one_345 : decode cX11_one 345 = .ok (.getfield 81, 3) := by decide +kernel
theorem dX11_one_348 : decode cX11_one 348 = .ok (.iconst 3, 1) := by decide +kernel
theorem dX11_one_349 : decode cX11_one 349 = .ok (.laload, 1) := by decide +kernel
theorem dX11_one_350 : decode cX11_one 350 = .ok (.goto 47, 3) := by decide +kernel
theorem dX11_one_353 : decode cX11_one 353 = .ok (.aload_n 0, 1) := by decide +kernel
theorem dX11_one_354 : decode cX11_one 354 = .ok (.getfield 74, 3) := by decide +kernel
theorem dX11_one_357 : decode cX11_one 357 = .ok (.iconst 2, 1) := by decide +kernel
theorem dX11_one_358 : decode cX11_one 358 = .ok (.baload, 1) := by decide +kernel
theorem dX11_one_359 : decode cX11_one 359 = .ok (.ifCond .eq 12, 3) := by decide +kernel
theorem dX11_one_362 : decode cX11_one 362 = .ok (.aload_n 0, 1) := by decide +kernel
theorem dX11_one_363 : decode cX11_one 363 = .ok (.getfield 78, 3) := by decide +kernel
theorem dX11_one_366 : decode cX11_one 366 = .ok (.iconst 2, 1) := by decide +kernel
theorem dX11_one_367 : decode cX11_one 367 = .ok (.laload, 1) := by decide +kernel
theorem dX11_one_368 : decode cX11_one 368 = .ok (.goto 29, 3) := by decide +kernel
theorem dX11_one_371 : decode cX11_one 371 = .ok (.aload_n 0, 1) := by decide +kernel
theorem dX11_one_372 : decode cX11_one 372 = .ok (.getfield 74, 3) := by decide +kernel
theorem dX11_one_375 : decode cX11_one 375 = .ok (.bipush 6, 2) := by decide +kernel
theorem dX11_one_377 : decode cX11_one 377 = .ok (.baload, 1) := by decide +kernel
theorem dX11_one_378 : decode cX11_one 378 = .ok (.ifCond .eq 13, 3) := by decide +kernel
theorem dX11_one_381 : decode cX11_one 381 = .ok (.aload_n 0, 1) := by decide +kernel
theorem dX11_one_382 : decode cX11_one 382 = .ok (.getfield 78, 3) := by decide +kernel
theorem dX11_one_385 : decode cX11_one 385 = .ok (.bipush 7, 2) := by decide +kernel
theorem dX11_one_387 : decode cX11_one 387 = .ok (.laload, 1) := by decide +kernel
theorem dX11_one_388 : decode cX11_one 388 = .ok (.goto 9, 3) := by decide +kernel
theorem dX11_one_391 : decode cX11_one 391 = .ok (.aload_n 0, 1) := by decide +kernel
theorem dX11_one_392 : decode cX11_one 392 = .ok (.getfield 81, 3) := by decide +kernel
theorem dX11_one_395 : decode cX11_one 395 = .ok (.iconst 3, 1) := by decide +kernel
theorem dX11_one_396 : decode cX11_one 396 = .ok (.laload, 1) := by decide +kernel
theorem dX11_one_397 : decode cX11_one 397 = .ok (.lstore 5, 2) := by decide +kernel
theorem dX11_one_399 : decode cX11_one 399 = .ok (.lload 5, 2) := by decide +kernel
theorem dX11_one_401 : decode cX11_one 401 = .ok (.aload_n 0, 1) := by decide +kernel
theorem dX11_one_402 : decode cX11_one 402 = .ok (.getfield 212, 3) := by decide +kernel
theorem dX11_one_405 : decode cX11_one 405 = .ok (.i2l, 1) := by decide +kernel
theorem dX11_one_406 : decode cX11_one 406 = .ok (.lcmp, 1) := by decide +kernel
theorem dX11_one_407 : decode cX11_one 407 = .ok (.ifCond .gt 33, 3) := by decide +kernel
theorem dX11_one_410 : decode cX11_one 410 = .ok (.iload_n 1, 1) := by decide +kernel
theorem dX11_one_411 : decode cX11_one 411 = .ok (.sipush 512, 3) := by decide +kernel
theorem dX11_one_414 : decode cX11_one 414 = .ok (.iadd, 1) := by decide +kernel
theorem dX11_one_415 : decode cX11_one 415 = .ok (.i2l, 1) := by decide +kernel
theorem dX11_one_416 : decode cX11_one 416 = .ok (.lload 5, 2) := by decide +kernel
theorem dX11_one_418 : decode cX11_one 418 = .ok (.ldc2_w 268, 3) := by decide +kernel
theorem dX11_one_421 : decode cX11_one 421 = .ok (.ladd, 1) := by decide +kernel
theorem dX11_one_422 : decode cX11_one 422 = .ok (.ldc2_w 270, 3) := by decide +kernel
theorem dX11_one_425 : decode cX11_one 425 = .ok (.ldiv, 1) := by decide +kernel
theorem dX11_one_426 : decode cX11_one 426 = .ok (.ldc2_w 270, 3) := by decide +kernel
theorem dX11_one_429 : decode cX11_one 429 = .ok (.lmul, 1) := by decide +kernel
theorem dX11_one_430 : decode cX11_one 430 = .ok (.ladd, 1) := by decide +kernel
theorem dX11_one_431 : decode cX11_one 431 = .ok (.aload_n 0, 1) := by decide +kernel
theorem dX11_one_432 : decode cX11_one 432 = .ok (.getfield 212, 3) := by decide +kernel
theorem dX11_one_435 : decode cX11_one 435 = .ok (.i2l, 1) := by decide +kernel
theorem dX11_one_436 : decode cX11_one 436 = .ok (.lcmp, 1) := by decide +kernel
theorem dX11_one_437 : decode cX11_one 437 = .ok (.ifCond .le 12, 3) := by decide +kernel
theorem dX11_one_440 : decode cX11_one 440 = .ok (.aload_n 0, 1) := by decide +kernel
theorem dX11_one_441 : decode cX11_one 441 = .ok (.bipush 7, 2) := by decide +kernel
theorem dX11_one_443 : decode cX11_one 443 = .ok (.iload_n 1, 1) := by decide +kernel
theorem dX11_one_444 : decode cX11_one 444 = .ok (.invokevirtual 254, 3) := by decide +kernel
theorem dX11_one_447 : decode cX11_one 447 = .ok (.iconst (-1), 1) := by decide +kernel
theorem dX11_one_448 : decode cX11_one 448 = .ok (.ireturn, 1) := by decide +kernel
theorem dX11_one_449 : decode cX11_one 449 = .ok (.iload_n 1, 1) := by decide +kernel
theorem dX11_one_450 : decode cX11_one 450 = .ok (.sipush 512, 3) := by decide +kernel
theorem dX11_one_453 : decode cX11_one 453 = .ok (.iadd, 1) := by decide +kernel
theorem dX11_one_454 : decode cX11_one 454 = .ok (.lload 5, 2) := by decide +kernel
theorem dX11_one_456 : decode cX11_one 456 = .ok (.ldc2_w 268, 3) := by decide +kernel
theorem dX11_one_459 : decode cX11_one 459 = .ok (.ladd, 1) := by decide +kernel
theorem dX11_one_460 : decode cX11_one 460 = .ok (.ldc2_w 270, 3) := by decide +kernel
theorem dX11_one_463 : decode cX11_one 463 = .ok (.ldiv, 1) := by decide +kernel
theorem dX11_one_464 : decode cX11_one 464 = .ok (.ldc2_w 270, 3) := by decide +kernel
theorem dX11_one_467 : decode cX11_one 467 = .ok (.lmul, 1) := by decide +kernel
theorem dX11_one_468 : decode cX11_one 468 = .ok (.l2i, 1) := by decide +kernel
theorem dX11_one_469 : decode cX11_one 469 = .ok (.iadd, 1) := by decide +kernel
theorem dX11_one_470 : decode cX11_one 470 = .ok (.istore 7, 2) := by decide +kernel
theorem dX11_one_472 : decode cX11_one 472 = .ok (.iload 4, 2) := by decide +kernel
theorem dX11_one_474 : decode cX11_one 474 = .ok (.ifCond .eq 14, 3) := by decide +kernel
theorem dX11_one_477 : decode cX11_one 477 = .ok (.aload_n 0, 1) := by decide +kernel
theorem dX11_one_478 : decode cX11_one 478 = .ok (.iload_n 1, 1) := by decide +kernel
theorem dX11_one_479 : decode cX11_one 479 = .ok (.iload_n 3, 1) := by decide +kernel
theorem dX11_one_480 : decode cX11_one 480 = .ok (.lload 5, 2) := by decide +kernel
theorem dX11_one_482 : decode cX11_one 482 = .ok (.invokevirtual 272, 3) := by decide +kernel
theorem dX11_one_485 : decode cX11_one 485 = .ok (.goto 58, 3) := by decide +kernel
theorem dX11_one_488 : decode cX11_one 488 = .ok (.iload_n 3, 1) := by decide +kernel
theorem dX11_one_489 : decode cX11_one 489 = .ok (.bipush 100, 2) := by decide +kernel
theorem dX11_one_491 : decode cX11_one 491 = .ok (.if_icmp .le 29, 3) := by decide +kernel
theorem dX11_one_494 : decode cX11_one 494 = .ok (.aload_n 0, 1) := by decide +kernel
theorem dX11_one_495 : decode cX11_one 495 = .ok (.iload_n 1, 1) := by decide +kernel
theorem dX11_one_496 : decode cX11_one 496 = .ok (.sipush 512, 3) := by decide +kernel
theorem dX11_one_499 : decode cX11_one 499 = .ok (.iadd, 1) := by decide +kernel
theorem dX11_one_500 : decode cX11_one 500 = .ok (.lload 5, 2) := by decide +kernel
theorem dX11_one_502 : decode cX11_one 502 = .ok (.l2i, 1) := by decide +kernel
theorem dX11_one_503 : decode cX11_one 503 = .ok (.iload_n 3, 1) := by decide +kernel
theorem dX11_one_504 : decode cX11_one 504 = .ok (.bipush 120, 2) := by decide +kernel
theorem dX11_one_506 : decode cX11_one 506 = .ok (.if_icmp .ne 7, 3) := by decide +kernel
theorem dX11_one_509 : decode cX11_one 509 = .ok (.iconst 0, 1) := by decide +kernel
theorem dX11_one_510 : decode cX11_one 510 = .ok (.goto 4, 3) := by decide +kernel
theorem dX11_one_513 : decode cX11_one 513 = .ok (.iconst 1, 1) := by decide +kernel
theorem dX11_one_514 : decode cX11_one 514 = .ok (.invokevirtual 276, 3) := by decide +kernel
theorem dX11_one_517 : decode cX11_one 517 = .ok (.goto 26, 3) := by decide +kernel
theorem dX11_one_520 : decode cX11_one 520 = .ok (.aload_n 0, 1) := by decide +kernel
theorem dX11_one_521 : decode cX11_one 521 = .ok (.iload_n 1, 1) := by decide +kernel
theorem dX11_one_522 : decode cX11_one 522 = .ok (.sipush 512, 3) := by decide +kernel
theorem dX11_one_525 : decode cX11_one 525 = .ok (.iadd, 1) := by decide +kernel
theorem dX11_one_526 : decode cX11_one 526 = .ok (.lload 5, 2) := by decide +kernel
theorem dX11_one_528 : decode cX11_one 528 = .ok (.l2i, 1) := by decide +kernel
theorem dX11_one_529 : decode cX11_one 529 = .ok (.iload_n 3, 1) := by decide +kernel
theorem dX11_one_530 : decode cX11_one 530 = .ok (.bipush 75, 2) := by decide +kernel
theorem dX11_one_532 : decode cX11_one 532 = .ok (.if_icmp .ne 7, 3) := by decide +kernel
theorem dX11_one_535 : decode cX11_one 535 = .ok (.iconst 1, 1) := by decide +kernel
theorem dX11_one_536 : decode cX11_one 536 = .ok (.goto 4, 3) := by decide +kernel
theorem dX11_one_539 : decode cX11_one 539 = .ok (.iconst 0, 1) := by decide +kernel
theorem dX11_one_540 : decode cX11_one 540 = .ok (.invokevirtual 280, 3) := by decide +kernel
theorem dX11_one_543 : decode cX11_one 543 = .ok (.istore 8, 2) := by decide +kernel
theorem dX11_one_545 : decode cX11_one 545 = .ok (.iload 8, 2) := by decide +kernel
theorem dX11_one_547 : decode cX11_one 547 = .ok (.ifCond .eq 8, 3) := by decide +kernel
theorem dX11_one_550 : decode cX11_one 550 = .ok (.iload 7, 2) := by decide +kernel
theorem dX11_one_552 : decode cX11_one 552 = .ok (.goto 4, 3) := by decide +kernel
theorem dX11_one_555 : decode cX11_one 555 = .ok (.iconst (-1), 1) := by decide +kernel
theorem dX11_one_556 : decode cX11_one 556 = .ok (.ireturn, 1) := by decide +kernel
theorem dX11_end_0 : decode cX11_end 0 = .ok (.aload_n 0, 1) := by decide +kernel
theorem dX11_end_1 : decode cX11_end 1 = .ok (.iload_n 1, 1) := by decide +kernel
theorem dX11_end_2 : decode cX11_end 2 = .ok (.sipush 512, 3) := by decide +kernel
theorem dX11_end_5 : decode cX11_end 5 = .ok (.iadd, 1) := by decide +kernel
theorem dX11_end_6 : decode cX11_end 6 = .ok (.invokevirtual 257, 3) := by decide +kernel
theorem dX11_end_9 : decode cX11_end 9 = .ok (.ifCond .ne 11, 3) := by decide +kernel
theorem dX11_end_12 : decode cX11_end 12 = .ok (.aload_n 0, 1) := by decide +kernel
theorem dX11_end_13 : decode cX11_end 13 = .ok (.iconst 3, 1) := by decide +kernel
theorem dX11_end_14 : decode cX11_end 14 = .ok (.iload_n 1, 1) := by decide +kernel
theorem dX11_end_15 : decode cX11_end 15 = .ok (.invokevirtual 254, 3) := by decide +kernel
theorem dX11_end_18 : decode cX11_end 18 = .ok (.iconst (-1), 1) := by decide +kernel
theorem dX11_end_19 : decode cX11_end 19 = .ok (.ireturn, 1) := by decide +kernel
theorem dX11_end_20 : decode cX11_end 20 = .ok (.aload_n 0, 1) := by decide +kernel
theorem dX11_end_21 : decode cX11_end 21 = .ok (.getfield 246, 3) := by decide +kernel
theorem dX11_end_24 : decode cX11_end 24 = .ok (.ifCond .eq 12, 3) := by decide +kernel
theorem dX11_end_27 : decode cX11_end 27 = .ok (.aload_n 0, 1) := by decide +kernel
theorem dX11_end_28 : decode cX11_end 28 = .ok (.bipush 12, 2) := by decide +kernel
theorem dX11_end_30 : decode cX11_end 30 = .ok (.iload_n 1, 1) := by decide +kernel
theorem dX11_end_31 : decode cX11_end 31 = .ok (.invokevirtual 254, 3) := by decide +kernel
theorem dX11_end_34 : decode cX11_end 34 = .ok (.iconst (-1), 1) := by decide +kernel
theorem dX11_end_35 : decode cX11_end 35 = .ok (.ireturn, 1) := by decide +kernel
theorem dX11_end_36 : decode cX11_end 36 = .ok (.aload_n 0, 1) := by decide +kernel
theorem dX11_end_37 : decode cX11_end 37 = .ok (.dup, 1) := by decide +kernel
theorem dX11_end_38 : decode cX11_end 38 = .ok (.getfield 240, 3) := by decide +kernel
theorem dX11_end_41 : decode cX11_end 41 = .ok (.iconst 1, 1) := by decide +kernel
theorem dX11_end_42 : decode cX11_end 42 = .ok (.iadd, 1) := by decide +kernel
theorem dX11_end_43 : decode cX11_end 43 = .ok (.putfield 240, 3) := by decide +kernel
theorem dX11_end_46 : decode cX11_end 46 = .ok (.iload_n 1, 1) := by decide +kernel
theorem dX11_end_47 : decode cX11_end 47 = .ok (.sipush 1024, 3) := by decide +kernel
theorem dX11_end_50 : decode cX11_end 50 = .ok (.iadd, 1) := by decide +kernel
theorem dX11_end_51 : decode cX11_end 51 = .ok (.istore_n 3, 1) := by decide +kernel
theorem dX11_end_52 : decode cX11_end 52 = .ok (.iload_n 2, 1) := by decide +kernel
theorem dX11_end_53 : decode cX11_end 53 = .ok (.ifCond .eq 20, 3) := by decide +kernel
theorem dX11_end_56 : decode cX11_end 56 = .ok (.aload_n 0, 1) := by decide +kernel
theorem dX11_end_57 : decode cX11_end 57 = .ok (.iload_n 3, 1) := by decide +kernel
theorem dX11_end_58 : decode cX11_end 58 = .ok (.invokevirtual 257, 3) := by decide +kernel
theorem dX11_end_61 : decode cX11_end 61 = .ok (.ifCond .eq 12, 3) := by decide +kernel
theorem dX11_end_64 : decode cX11_end 64 = .ok (.iinc 3 512, 6) := by decide +kernel
theorem dX11_end_70 : decode cX11_end 70 = .ok (.goto (-18), 3) := by decide +kernel
theorem dX11_end_73 : decode cX11_end 73 = .ok (.iload_n 2, 1) := by decide +kernel
theorem dX11_end_74 : decode cX11_end 74 = .ok (.ifCond .eq 19, 3) := by decide +kernel
theorem dX11_end_77 : decode cX11_end 77 = .ok (.iload_n 3, 1) := by decide +kernel
theorem dX11_end_78 : decode cX11_end 78 = .ok (.sipush 512, 3) := by decide +kernel
theorem dX11_end_81 : decode cX11_end 81 = .ok (.iadd, 1) := by decide +kernel
theorem dX11_end_82 : decode cX11_end 82 = .ok (.aload_n 0, 1) := by decide +kernel
theorem dX11_end_83 : decode cX11_end 83 = .ok (.getfield 212, 3) := by decide +kernel
theorem dX11_end_86 : decode cX11_end 86 = .ok (.if_icmp .gt 7, 3) := by decide +kernel
theorem dX11_end_89 : decode cX11_end 89 = .ok (.iload_n 3, 1) := by decide +kernel
theorem dX11_end_90 : decode cX11_end 90 = .ok (.goto 4, 3) := by decide +kernel
theorem dX11_end_93 : decode cX11_end 93 = .ok (.iconst (-1), 1) := by decide +kernel
theorem dX11_end_94 : decode cX11_end 94 = .ok (.ireturn, 1) := by decide +kernel
theorem dX11_rows_0 : decode cX11_rows 0 = .ok (.iload_n 1, 1) := by decide +kernel
theorem dX11_rows_1 : decode cX11_rows 1 = .ok (.istore 4, 2) := by decide +kernel
theorem dX11_rows_3 : decode cX11_rows 3 = .ok (.iload 4, 2) := by decide +kernel
theorem dX11_rows_5 : decode cX11_rows 5 = .ok (.iload_n 1, 1) := by decide +kernel
theorem dX11_rows_6 : decode cX11_rows 6 = .ok (.iload_n 2, 1) := by decide +kernel
theorem dX11_rows_7 : decode cX11_rows 7 = .ok (.iadd, 1) := by decide +kernel
theorem dX11_rows_8 : decode cX11_rows 8 = .ok (.if_icmp .ge 32, 3) := by decide +kernel
theorem dX11_rows_11 : decode cX11_rows 11 = .ok (.aload_n 0, 1) := by decide +kernel
theorem dX11_rows_12 : decode cX11_rows 12 = .ok (.iload 4, 2) := by decide +kernel
theorem dX11_rows_14 : decode cX11_rows 14 = .ok (.iload_n 1, 1) := by decide +kernel
theorem dX11_rows_15 : decode cX11_rows 15 = .ok (.iload_n 2, 1) := by decide +kernel
theorem dX11_rows_16 : decode cX11_rows 16 = .ok (.iadd, 1) := by decide +kernel
theorem dX11_rows_17 : decode cX11_rows 17 = .ok (.iload_n 3, 1) := by decide +kernel
theorem dX11_rows_18 : decode cX11_rows 18 = .ok (.invokevirtual 283, 3) := by decide +kernel
theorem dX11_rows_21 : decode cX11_rows 21 = .ok (.istore 5, 2) := by decide +kernel
theorem dX11_rows_23 : decode cX11_rows 23 = .ok (.iload 5, 2) := by decide +kernel
theorem dX11_rows_25 : decode cX11_rows 25 = .ok (.ifCond .ge 5, 3) := by decide +kernel
theorem dX11_rows_28 : decode cX11_rows 28 = .ok (.iconst 0, 1) := by decide +kernel
theorem dX11_rows_29 : decode cX11_rows 29 = .ok (.ireturn, 1) := by decide +kernel
theorem dX11_rows_30 : decode cX11_rows 30 = .ok (.iload 4, 2) := by decide +kernel
theorem dX11_rows_32 : decode cX11_rows 32 = .ok (.iload 5, 2) := by decide +kernel
theorem dX11_rows_34 : decode cX11_rows 34 = .ok (.iadd, 1) := by decide +kernel
theorem dX11_rows_35 : decode cX11_rows 35 = .ok (.istore 4, 2) := by decide +kernel
theorem dX11_rows_37 : decode cX11_rows 37 = .ok (.goto (-34), 3) := by decide +kernel
theorem dX11_rows_40 : decode cX11_rows 40 = .ok (.iconst 1, 1) := by decide +kernel
theorem dX11_rows_41 : decode cX11_rows 41 = .ok (.ireturn, 1) := by decide +kernel
theorem dX11_rowAt_0 : decode cX11_rowAt 0 = .ok (.iload_n 1, 1) := by decide +kernel
theorem dX11_rowAt_1 : decode cX11_rowAt 1 = .ok (.istore 4, 2) := by decide +kernel
theorem dX11_rowAt_3 : decode cX11_rowAt 3 = .ok (.iconst 0, 1) := by decide +kernel
theorem dX11_rowAt_4 : decode cX11_rowAt 4 = .ok (.istore 5, 2) := by decide +kernel
theorem dX11_rowAt_6 : decode cX11_rowAt 6 = .ok (.iload 4, 2) := by decide +kernel
theorem dX11_rowAt_8 : decode cX11_rowAt 8 = .ok (.iload_n 2, 1) := by decide +kernel
theorem dX11_rowAt_9 : decode cX11_rowAt 9 = .ok (.if_icmp .ge 48, 3) := by decide +kernel
theorem dX11_rowAt_12 : decode cX11_rowAt 12 = .ok (.iload 4, 2) := by decide +kernel
theorem dX11_rowAt_14 : decode cX11_rowAt 14 = .ok (.iload_n 1, 1) := by decide +kernel
theorem dX11_rowAt_15 : decode cX11_rowAt 15 = .ok (.iconst 4, 1) := by decide +kernel
theorem dX11_rowAt_16 : decode cX11_rowAt 16 = .ok (.iadd, 1) := by decide +kernel
theorem dX11_rowAt_17 : decode cX11_rowAt 17 = .ok (.if_icmp .ge 40, 3) := by decide +kernel
theorem dX11_rowAt_20 : decode cX11_rowAt 20 = .ok (.aload_n 0, 1) := by decide +kernel
theorem dX11_rowAt_21 : decode cX11_rowAt 21 = .ok (.getfield 43, 3) := by decide +kernel
theorem dX11_rowAt_24 : decode cX11_rowAt 24 = .ok (.iload 4, 2) := by decide +kernel
theorem dX11_rowAt_26 : decode cX11_rowAt 26 = .ok (.iaload, 1) := by decide +kernel
theorem dX11_rowAt_27 : decode cX11_rowAt 27 = .ok (.invokestatic 287, 3) := by decide +kernel
theorem dX11_rowAt_30 : decode cX11_rowAt 30 = .ok (.ifCond .eq 27, 3) := by decide +kernel
theorem dX11_rowAt_33 : decode cX11_rowAt 33 = .ok (.bipush 10, 2) := by decide +kernel
theorem dX11_rowAt_35 : decode cX11_rowAt 35 = .ok (.iload 5, 2) := by decide +kernel
theorem dX11_rowAt_37 : decode cX11_rowAt 37 = .ok (.imul, 1) := by decide +kernel
theorem dX11_rowAt_38 : decode cX11_rowAt 38 = .ok (.aload_n 0, 1) := by decide +kernel
theorem dX11_rowAt_39 : decode cX11_rowAt 39 = .ok (.getfield 43, 3) := by decide +kernel
theorem dX11_rowAt_42 : decode cX11_rowAt 42 = .ok (.iload 4, 2) := by decide +kernel
theorem dX11_rowAt_44 : decode cX11_rowAt 44 = .ok (.iaload, 1) := by decide +kernel
theorem dX11_rowAt_45 : decode cX11_rowAt 45 = .ok (.iadd, 1) := by decide +kernel
theorem dX11_rowAt_46 : decode cX11_rowAt 46 = .ok (.bipush 48, 2) := by decide +kernel
theorem dX11_rowAt_48 : decode cX11_rowAt 48 = .ok (.isub, 1) := by decide +kernel
theorem dX11_rowAt_49 : decode cX11_rowAt 49 = .ok (.istore 5, 2) := by decide +kernel
theorem dX11_rowAt_51 : decode cX11_rowAt 51 = .ok (.iinc 4 1, 3) := by decide +kernel
theorem dX11_rowAt_54 : decode cX11_rowAt 54 = .ok (.goto (-48), 3) := by decide +kernel
theorem dX11_rowAt_57 : decode cX11_rowAt 57 = .ok (.iload 4, 2) := by decide +kernel
theorem dX11_rowAt_59 : decode cX11_rowAt 59 = .ok (.iload_n 1, 1) := by decide +kernel
theorem dX11_rowAt_60 : decode cX11_rowAt 60 = .ok (.if_icmp .le 54, 3) := by decide +kernel
theorem dX11_rowAt_63 : decode cX11_rowAt 63 = .ok (.iload 4, 2) := by decide +kernel
theorem dX11_rowAt_65 : decode cX11_rowAt 65 = .ok (.iload_n 2, 1) := by decide +kernel
theorem dX11_rowAt_66 : decode cX11_rowAt 66 = .ok (.if_icmp .ge 48, 3) := by decide +kernel
theorem dX11_rowAt_69 : decode cX11_rowAt 69 = .ok (.aload_n 0, 1) := by decide +kernel
theorem dX11_rowAt_70 : decode cX11_rowAt 70 = .ok (.getfield 43, 3) := by decide +kernel
theorem dX11_rowAt_73 : decode cX11_rowAt 73 = .ok (.iload 4, 2) := by decide +kernel
theorem dX11_rowAt_75 : decode cX11_rowAt 75 = .ok (.iaload, 1) := by decide +kernel
theorem dX11_rowAt_76 : decode cX11_rowAt 76 = .ok (.bipush 32, 2) := by decide +kernel
theorem dX11_rowAt_78 : decode cX11_rowAt 78 = .ok (.if_icmp .ne 36, 3) := by decide +kernel
theorem dX11_rowAt_81 : decode cX11_rowAt 81 = .ok (.iload 5, 2) := by decide +kernel
theorem dX11_rowAt_83 : decode cX11_rowAt 83 = .ok (.ifCond .le 31, 3) := by decide +kernel
theorem dX11_rowAt_86 : decode cX11_rowAt 86 = .ok (.iload_n 1, 1) := by decide +kernel
theorem dX11_rowAt_87 : decode cX11_rowAt 87 = .ok (.iload 5, 2) := by decide +kernel
theorem dX11_rowAt_89 : decode cX11_rowAt 89 = .ok (.iadd, 1) := by decide +kernel
theorem dX11_rowAt_90 : decode cX11_rowAt 90 = .ok (.iload_n 2, 1) := by decide +kernel
theorem dX11_rowAt_91 : decode cX11_rowAt 91 = .ok (.if_icmp .gt 23, 3) := by decide +kernel
theorem dX11_rowAt_94 : decode cX11_rowAt 94 = .ok (.aload_n 0, 1) := by decide +kernel
theorem dX11_rowAt_95 : decode cX11_rowAt 95 = .ok (.getfield 43, 3) := by decide +kernel
theorem dX11_rowAt_98 : decode cX11_rowAt 98 = .ok (.iload_n 1, 1) := by decide +kernel
theorem dX11_rowAt_99 : decode cX11_rowAt 99 = .ok (.iload 5, 2) := by decide +kernel
theorem dX11_rowAt_101 : decode cX11_rowAt 101 = .ok (.iadd, 1) := by decide +kernel
theorem dX11_rowAt_102 : decode cX11_rowAt 102 = .ok (.iconst 1, 1) := by decide +kernel
theorem dX11_rowAt_103 : decode cX11_rowAt 103 = .ok (.isub, 1) := by decide +kernel
theorem dX11_rowAt_104 : decode cX11_rowAt 104 = .ok (.iaload, 1) := by decide +kernel
theorem dX11_rowAt_105 : decode cX11_rowAt 105 = .ok (.bipush 10, 2) := by decide +kernel
theorem dX11_rowAt_107 : decode cX11_rowAt 107 = .ok (.if_icmp .ne 7, 3) := by decide +kernel
theorem dX11_rowAt_110 : decode cX11_rowAt 110 = .ok (.iconst 1, 1) := by decide +kernel
theorem dX11_rowAt_111 : decode cX11_rowAt 111 = .ok (.goto 4, 3) := by decide +kernel
theorem dX11_rowAt_114 : decode cX11_rowAt 114 = .ok (.iconst 0, 1) := by decide +kernel
theorem dX11_rowAt_115 : decode cX11_rowAt 115 = .ok (.istore 6, 2) := by decide +kernel
theorem dX11_rowAt_117 : decode cX11_rowAt 117 = .ok (.iload 4, 2) := by decide +kernel
theorem dX11_rowAt_119 : decode cX11_rowAt 119 = .ok (.iconst 1, 1) := by decide +kernel
theorem dX11_rowAt_120 : decode cX11_rowAt 120 = .ok (.iadd, 1) := by decide +kernel
theorem dX11_rowAt_121 : decode cX11_rowAt 121 = .ok (.istore 7, 2) := by decide +kernel
theorem dX11_rowAt_123 : decode cX11_rowAt 123 = .ok (.iload 6, 2) := by decide +kernel
theorem dX11_rowAt_125 : decode cX11_rowAt 125 = .ok (.ifCond .eq 32, 3) := by decide +kernel
theorem dX11_rowAt_128 : decode cX11_rowAt 128 = .ok (.iload 7, 2) := by decide +kernel
theorem dX11_rowAt_130 : decode cX11_rowAt 130 = .ok (.iload_n 1, 1) := by decide +kernel
theorem dX11_rowAt_131 : decode cX11_rowAt 131 = .ok (.iload 5, 2) := by decide +kernel
theorem dX11_rowAt_133 : decode cX11_rowAt 133 = .ok (.iadd, 1) := by decide +kernel
theorem dX11_rowAt_134 : decode cX11_rowAt 134 = .ok (.iconst 1, 1) := by decide +kernel
theorem dX11_rowAt_135 : decode cX11_rowAt 135 = .ok (.isub, 1) := by decide +kernel
theorem dX11_rowAt_136 : decode cX11_rowAt 136 = .ok (.if_icmp .ge 21, 3) := by decide +kernel
theorem dX11_rowAt_139 : decode cX11_rowAt 139 = .ok (.aload_n 0, 1) := by decide +kernel
theorem dX11_rowAt_140 : decode cX11_rowAt 140 = .ok (.getfield 43, 3) := by decide +kernel
theorem dX11_rowAt_143 : decode cX11_rowAt 143 = .ok (.iload 7, 2) := by decide +kernel
theorem dX11_rowAt_145 : decode cX11_rowAt 145 = .ok (.iaload, 1) := by decide +kernel
theorem dX11_rowAt_146 : decode cX11_rowAt 146 = .ok (.bipush 61, 2) := by decide +kernel
theorem dX11_rowAt_148 : decode cX11_rowAt 148 = .ok (.if_icmp .eq 9, 3) := by decide +kernel
theorem dX11_rowAt_151 : decode cX11_rowAt 151 = .ok (.iinc 7 1, 3) := by decide +kernel
theorem dX11_rowAt_154 : decode cX11_rowAt 154 = .ok (.goto (-31), 3) := by decide +kernel
theorem dX11_rowAt_157 : decode cX11_rowAt 157 = .ok (.iload 6, 2) := by decide +kernel
theorem dX11_rowAt_159 : decode cX11_rowAt 159 = .ok (.ifCond .eq 14, 3) := by decide +kernel
theorem dX11_rowAt_162 : decode cX11_rowAt 162 = .ok (.iload 7, 2) := by decide +kernel
theorem dX11_rowAt_164 : decode cX11_rowAt 164 = .ok (.iload_n 1, 1) := by decide +kernel
theorem dX11_rowAt_165 : decode cX11_rowAt 165 = .ok (.iload 5, 2) := by decide +kernel
theorem dX11_rowAt_167 : decode cX11_rowAt 167 = .ok (.iadd, 1) := by decide +kernel
theorem dX11_rowAt_168 : decode cX11_rowAt 168 = .ok (.iconst 1, 1) := by decide +kernel
theorem dX11_rowAt_169 : decode cX11_rowAt 169 = .ok (.isub, 1) := by decide +kernel
theorem dX11_rowAt_170 : decode cX11_rowAt 170 = .ok (.if_icmp .lt 12, 3) := by decide +kernel
theorem dX11_rowAt_173 : decode cX11_rowAt 173 = .ok (.aload_n 0, 1) := by decide +kernel
theorem dX11_rowAt_174 : decode cX11_rowAt 174 = .ok (.bipush 8, 2) := by decide +kernel
theorem dX11_rowAt_176 : decode cX11_rowAt 176 = .ok (.iload_n 1, 1) := by decide +kernel
theorem dX11_rowAt_177 : decode cX11_rowAt 177 = .ok (.invokevirtual 254, 3) := by decide +kernel
theorem dX11_rowAt_180 : decode cX11_rowAt 180 = .ok (.iconst (-1), 1) := by decide +kernel
theorem dX11_rowAt_181 : decode cX11_rowAt 181 = .ok (.ireturn, 1) := by decide +kernel
theorem dX11_rowAt_182 : decode cX11_rowAt 182 = .ok (.aload_n 0, 1) := by decide +kernel
theorem dX11_rowAt_183 : decode cX11_rowAt 183 = .ok (.iload 4, 2) := by decide +kernel
theorem dX11_rowAt_185 : decode cX11_rowAt 185 = .ok (.iconst 1, 1) := by decide +kernel
theorem dX11_rowAt_186 : decode cX11_rowAt 186 = .ok (.iadd, 1) := by decide +kernel
theorem dX11_rowAt_187 : decode cX11_rowAt 187 = .ok (.iload 7, 2) := by decide +kernel
theorem dX11_rowAt_189 : decode cX11_rowAt 189 = .ok (.iload 7, 2) := by decide +kernel
theorem dX11_rowAt_191 : decode cX11_rowAt 191 = .ok (.iconst 1, 1) := by decide +kernel
theorem dX11_rowAt_192 : decode cX11_rowAt 192 = .ok (.iadd, 1) := by decide +kernel
theorem dX11_rowAt_193 : decode cX11_rowAt 193 = .ok (.iload_n 1, 1) := by decide +kernel
theorem dX11_rowAt_194 : decode cX11_rowAt 194 = .ok (.iload 5, 2) := by decide +kernel
theorem dX11_rowAt_196 : decode cX11_rowAt 196 = .ok (.iadd, 1) := by decide +kernel
theorem dX11_rowAt_197 : decode cX11_rowAt 197 = .ok (.iconst 1, 1) := by decide +kernel
theorem dX11_rowAt_198 : decode cX11_rowAt 198 = .ok (.isub, 1) := by decide +kernel
theorem dX11_rowAt_199 : decode cX11_rowAt 199 = .ok (.iload_n 3, 1) := by decide +kernel
theorem dX11_rowAt_200 : decode cX11_rowAt 200 = .ok (.invokevirtual 290, 3) := by decide +kernel
theorem dX11_rowAt_203 : decode cX11_rowAt 203 = .ok (.ifCond .ne 15, 3) := by decide +kernel
theorem dX11_rowAt_206 : decode cX11_rowAt 206 = .ok (.aload_n 0, 1) := by decide +kernel
theorem dX11_rowAt_207 : decode cX11_rowAt 207 = .ok (.bipush 9, 2) := by decide +kernel
theorem dX11_rowAt_209 : decode cX11_rowAt 209 = .ok (.iload 7, 2) := by decide +kernel
theorem dX11_rowAt_211 : decode cX11_rowAt 211 = .ok (.iconst 1, 1) := by decide +kernel
theorem dX11_rowAt_212 : decode cX11_rowAt 212 = .ok (.iadd, 1) := by decide +kernel
theorem dX11_rowAt_213 : decode cX11_rowAt 213 = .ok (.invokevirtual 254, 3) := by decide +kernel
theorem dX11_rowAt_216 : decode cX11_rowAt 216 = .ok (.iconst (-1), 1) := by decide +kernel
theorem dX11_rowAt_217 : decode cX11_rowAt 217 = .ok (.ireturn, 1) := by decide +kernel
theorem dX11_rowAt_218 : decode cX11_rowAt 218 = .ok (.iload 5, 2) := by decide +kernel
theorem dX11_rowAt_220 : decode cX11_rowAt 220 = .ok (.ireturn, 1) := by decide +kernel
theorem dX11_isDigit_0 : decode cX11_isDigit 0 = .ok (.iload_n 0, 1) := by decide +kernel
theorem dX11_isDigit_1 : decode cX11_isDigit 1 = .ok (.bipush 48, 2) := by decide +kernel
theorem dX11_isDigit_3 : decode cX11_isDigit 3 = .ok (.if_icmp .lt 13, 3) := by decide +kernel
theorem dX11_isDigit_6 : decode cX11_isDigit 6 = .ok (.iload_n 0, 1) := by decide +kernel
theorem dX11_isDigit_7 : decode cX11_isDigit 7 = .ok (.bipush 57, 2) := by decide +kernel
theorem dX11_isDigit_9 : decode cX11_isDigit 9 = .ok (.if_icmp .gt 7, 3) := by decide +kernel
theorem dX11_isDigit_12 : decode cX11_isDigit 12 = .ok (.iconst 1, 1) := by decide +kernel
theorem dX11_isDigit_13 : decode cX11_isDigit 13 = .ok (.goto 4, 3) := by decide +kernel
theorem dX11_isDigit_16 : decode cX11_isDigit 16 = .ok (.iconst 0, 1) := by decide +kernel
theorem dX11_isDigit_17 : decode cX11_isDigit 17 = .ok (.ireturn, 1) := by decide +kernel
theorem dX11_isKey_0 : decode cX11_isKey 0 = .ok (.iload_n 2, 1) := by decide +kernel
theorem dX11_isKey_1 : decode cX11_isKey 1 = .ok (.iload_n 1, 1) := by decide +kernel
theorem dX11_isKey_2 : decode cX11_isKey 2 = .ok (.isub, 1) := by decide +kernel
theorem dX11_isKey_3 : decode cX11_isKey 3 = .ok (.iload 5, 2) := by decide +kernel
theorem dX11_isKey_5 : decode cX11_isKey 5 = .ok (.if_icmp .ne 7, 3) := by decide +kernel
theorem dX11_isKey_8 : decode cX11_isKey 8 = .ok (.iconst 1, 1) := by decide +kernel
theorem dX11_isKey_9 : decode cX11_isKey 9 = .ok (.goto 4, 3) := by decide +kernel
theorem dX11_isKey_12 : decode cX11_isKey 12 = .ok (.iconst 0, 1) := by decide +kernel
theorem dX11_isKey_13 : decode cX11_isKey 13 = .ok (.istore 6, 2) := by decide +kernel
theorem dX11_isKey_15 : decode cX11_isKey 15 = .ok (.iconst 0, 1) := by decide +kernel
theorem dX11_isKey_16 : decode cX11_isKey 16 = .ok (.istore 7, 2) := by decide +kernel
theorem dX11_isKey_18 : decode cX11_isKey 18 = .ok (.iload 7, 2) := by decide +kernel
theorem dX11_isKey_20 : decode cX11_isKey 20 = .ok (.iload 5, 2) := by decide +kernel
theorem dX11_isKey_22 : decode cX11_isKey 22 = .ok (.if_icmp .ge 51, 3) := by decide +kernel
theorem dX11_isKey_25 : decode cX11_isKey 25 = .ok (.iload 6, 2) := by decide +kernel
theorem dX11_isKey_27 : decode cX11_isKey 27 = .ok (.ifCond .eq 46, 3) := by decide +kernel
theorem dX11_isKey_30 : decode cX11_isKey 30 = .ok (.aload_n 0, 1) := by decide +kernel
theorem dX11_isKey_31 : decode cX11_isKey 31 = .ok (.getfield 43, 3) := by decide +kernel
theorem dX11_isKey_34 : decode cX11_isKey 34 = .ok (.iload_n 1, 1) := by decide +kernel
theorem dX11_isKey_35 : decode cX11_isKey 35 = .ok (.iload 7, 2) := by decide +kernel
theorem dX11_isKey_37 : decode cX11_isKey 37 = .ok (.iadd, 1) := by decide +kernel
theorem dX11_isKey_38 : decode cX11_isKey 38 = .ok (.iaload, 1) := by decide +kernel
theorem dX11_isKey_39 : decode cX11_isKey 39 = .ok (.i2l, 1) := by decide +kernel
theorem dX11_isKey_40 : decode cX11_isKey 40 = .ok (.lload_n 3, 1) := by decide +kernel
theorem dX11_isKey_41 : decode cX11_isKey 41 = .ok (.bipush 8, 2) := by decide +kernel
theorem dX11_isKey_43 : decode cX11_isKey 43 = .ok (.iload 5, 2) := by decide +kernel
theorem dX11_isKey_45 : decode cX11_isKey 45 = .ok (.iconst 1, 1) := by decide +kernel
theorem dX11_isKey_46 : decode cX11_isKey 46 = .ok (.isub, 1) := by decide +kernel
theorem dX11_isKey_47 : decode cX11_isKey 47 = .ok (.iload 7, 2) := by decide +kernel
theorem dX11_isKey_49 : decode cX11_isKey 49 = .ok (.isub, 1) := by decide +kernel
theorem dX11_isKey_50 : decode cX11_isKey 50 = .ok (.imul, 1) := by decide +kernel
theorem dX11_isKey_51 : decode cX11_isKey 51 = .ok (.lushr, 1) := by decide +kernel
theorem dX11_isKey_52 : decode cX11_isKey 52 = .ok (.ldc2_w 119, 3) := by decide +kernel
theorem dX11_isKey_55 : decode cX11_isKey 55 = .ok (.land, 1) := by decide +kernel
theorem dX11_isKey_56 : decode cX11_isKey 56 = .ok (.lcmp, 1) := by decide +kernel
theorem dX11_isKey_57 : decode cX11_isKey 57 = .ok (.ifCond .ne 7, 3) := by decide +kernel
theorem dX11_isKey_60 : decode cX11_isKey 60 = .ok (.iconst 1, 1) := by decide +kernel
theorem dX11_isKey_61 : decode cX11_isKey 61 = .ok (.goto 4, 3) := by decide +kernel
theorem dX11_isKey_64 : decode cX11_isKey 64 = .ok (.iconst 0, 1) := by decide +kernel
theorem dX11_isKey_65 : decode cX11_isKey 65 = .ok (.istore 6, 2) := by decide +kernel
theorem dX11_isKey_67 : decode cX11_isKey 67 = .ok (.iinc 7 1, 3) := by decide +kernel
theorem dX11_isKey_70 : decode cX11_isKey 70 = .ok (.goto (-52), 3) := by decide +kernel
theorem dX11_isKey_73 : decode cX11_isKey 73 = .ok (.iload 6, 2) := by decide +kernel
theorem dX11_isKey_75 : decode cX11_isKey 75 = .ok (.ireturn, 1) := by decide +kernel
theorem dX11_valued_0 : decode cX11_valued 0 = .ok (.aload_n 0, 1) := by decide +kernel
theorem dX11_valued_1 : decode cX11_valued 1 = .ok (.iload_n 1, 1) := by decide +kernel
theorem dX11_valued_2 : decode cX11_valued 2 = .ok (.iload_n 2, 1) := by decide +kernel
theorem dX11_valued_3 : decode cX11_valued 3 = .ok (.ldc2_w 173, 3) := by decide +kernel
theorem dX11_valued_6 : decode cX11_valued 6 = .ok (.iconst 4, 1) := by decide +kernel
theorem dX11_valued_7 : decode cX11_valued 7 = .ok (.invokevirtual 294, 3) := by decide +kernel
theorem dX11_valued_10 : decode cX11_valued 10 = .ok (.istore 6, 2) := by decide +kernel
theorem dX11_valued_12 : decode cX11_valued 12 = .ok (.iload 6, 2) := by decide +kernel
theorem dX11_valued_14 : decode cX11_valued 14 = .ok (.ifCond .ne 17, 3) := by decide +kernel
theorem dX11_valued_17 : decode cX11_valued 17 = .ok (.aload_n 0, 1) := by decide +kernel
theorem dX11_valued_18 : decode cX11_valued 18 = .ok (.iload_n 1, 1) := by decide +kernel
theorem dX11_valued_19 : decode cX11_valued 19 = .ok (.iload_n 2, 1) := by decide +kernel
theorem dX11_valued_20 : decode cX11_valued 20 = .ok (.ldc2_w 178, 3) := by decide +kernel
theorem dX11_valued_23 : decode cX11_valued 23 = .ok (.bipush 8, 2) := by decide +kernel
theorem dX11_valued_25 : decode cX11_valued 25 = .ok (.invokevirtual 294, 3) := by decide +kernel
theorem dX11_valued_28 : decode cX11_valued 28 = .ok (.ifCond .eq 23, 3) := by decide +kernel
theorem dX11_valued_31 : decode cX11_valued 31 = .ok (.aload_n 0, 1) := by decide +kernel
theorem dX11_valued_32 : decode cX11_valued 32 = .ok (.iload_n 3, 1) := by decide +kernel
theorem dX11_valued_33 : decode cX11_valued 33 = .ok (.iload 4, 2) := by decide +kernel
theorem dX11_valued_35 : decode cX11_valued 35 = .ok (.iload 5, 2) := by decide +kernel
theorem dX11_valued_37 : decode cX11_valued 37 = .ok (.iload 6, 2) := by decide +kernel
theorem dX11_valued_39 : decode cX11_valued 39 = .ok (.ifCond .ne 7, 3) := by decide +kernel
theorem dX11_valued_42 : decode cX11_valued 42 = .ok (.iconst 1, 1) := by decide +kernel
theorem dX11_valued_43 : decode cX11_valued 43 = .ok (.goto 4, 3) := by decide +kernel
theorem dX11_valued_46 : decode cX11_valued 46 = .ok (.iconst 0, 1) := by decide +kernel
theorem dX11_valued_47 : decode cX11_valued 47 = .ok (.invokevirtual 298, 3) := by decide +kernel
theorem dX11_valued_50 : decode cX11_valued 50 = .ok (.ireturn, 1) := by decide +kernel
theorem dX11_valued_51 : decode cX11_valued 51 = .ok (.aload_n 0, 1) := by decide +kernel
theorem dX11_valued_52 : decode cX11_valued 52 = .ok (.iload_n 1, 1) := by decide +kernel
theorem dX11_valued_53 : decode cX11_valued 53 = .ok (.iload_n 2, 1) := by decide +kernel
theorem dX11_valued_54 : decode cX11_valued 54 = .ok (.ldc2_w 180, 3) := by decide +kernel
theorem dX11_valued_57 : decode cX11_valued 57 = .ok (.iconst 3, 1) := by decide +kernel
theorem dX11_valued_58 : decode cX11_valued 58 = .ok (.invokevirtual 294, 3) := by decide +kernel
theorem dX11_valued_61 : decode cX11_valued 61 = .ok (.ifCond .eq 7, 3) := by decide +kernel
theorem dX11_valued_64 : decode cX11_valued 64 = .ok (.iconst 0, 1) := by decide +kernel
theorem dX11_valued_65 : decode cX11_valued 65 = .ok (.goto 55, 3) := by decide +kernel
theorem dX11_valued_68 : decode cX11_valued 68 = .ok (.aload_n 0, 1) := by decide +kernel
theorem dX11_valued_69 : decode cX11_valued 69 = .ok (.iload_n 1, 1) := by decide +kernel
theorem dX11_valued_70 : decode cX11_valued 70 = .ok (.iload_n 2, 1) := by decide +kernel
theorem dX11_valued_71 : decode cX11_valued 71 = .ok (.ldc2_w 182, 3) := by decide +kernel
theorem dX11_valued_74 : decode cX11_valued 74 = .ok (.iconst 3, 1) := by decide +kernel
theorem dX11_valued_75 : decode cX11_valued 75 = .ok (.invokevirtual 294, 3) := by decide +kernel
theorem dX11_valued_78 : decode cX11_valued 78 = .ok (.ifCond .eq 7, 3) := by decide +kernel
theorem dX11_valued_81 : decode cX11_valued 81 = .ok (.iconst 1, 1) := by decide +kernel
theorem dX11_valued_82 : decode cX11_valued 82 = .ok (.goto 38, 3) := by decide +kernel
theorem dX11_valued_85 : decode cX11_valued 85 = .ok (.aload_n 0, 1) := by decide +kernel
theorem dX11_valued_86 : decode cX11_valued 86 = .ok (.iload_n 1, 1) := by decide +kernel
theorem dX11_valued_87 : decode cX11_valued 87 = .ok (.iload_n 2, 1) := by decide +kernel
theorem dX11_valued_88 : decode cX11_valued 88 = .ok (.ldc2_w 302, 3) := by decide +kernel
theorem dX11_valued_91 : decode cX11_valued 91 = .ok (.iconst 4, 1) := by decide +kernel
theorem dX11_valued_92 : decode cX11_valued 92 = .ok (.invokevirtual 294, 3) := by decide +kernel
theorem dX11_valued_95 : decode cX11_valued 95 = .ok (.ifCond .eq 7, 3) := by decide +kernel
theorem dX11_valued_98 : decode cX11_valued 98 = .ok (.iconst 2, 1) := by decide +kernel
theorem dX11_valued_99 : decode cX11_valued 99 = .ok (.goto 21, 3) := by decide +kernel
theorem dX11_valued_102 : decode cX11_valued 102 = .ok (.aload_n 0, 1) := by decide +kernel
theorem dX11_valued_103 : decode cX11_valued 103 = .ok (.iload_n 1, 1) := by decide +kernel
theorem dX11_valued_104 : decode cX11_valued 104 = .ok (.iload_n 2, 1) := by decide +kernel
theorem dX11_valued_105 : decode cX11_valued 105 = .ok (.ldc2_w 188, 3) := by decide +kernel
theorem dX11_valued_108 : decode cX11_valued 108 = .ok (.iconst 5, 1) := by decide +kernel
theorem dX11_valued_109 : decode cX11_valued 109 = .ok (.invokevirtual 294, 3) := by decide +kernel
theorem dX11_valued_112 : decode cX11_valued 112 = .ok (.ifCond .eq 7, 3) := by decide +kernel
theorem dX11_valued_115 : decode cX11_valued 115 = .ok (.iconst 3, 1) := by decide +kernel
theorem dX11_valued_116 : decode cX11_valued 116 = .ok (.goto 4, 3) := by decide +kernel
theorem dX11_valued_119 : decode cX11_valued 119 = .ok (.iconst (-1), 1) := by decide +kernel
theorem dX11_valued_120 : decode cX11_valued 120 = .ok (.istore 7, 2) := by decide +kernel
theorem dX11_valued_122 : decode cX11_valued 122 = .ok (.iload 7, 2) := by decide +kernel
theorem dX11_valued_124 : decode cX11_valued 124 = .ok (.ifCond .ge 5, 3) := by decide +kernel
theorem dX11_valued_127 : decode cX11_valued 127 = .ok (.iconst 1, 1) := by decide +kernel
theorem dX11_valued_128 : decode cX11_valued 128 = .ok (.ireturn, 1) := by decide +kernel
theorem dX11_valued_129 : decode cX11_valued 129 = .ok (.iload 7, 2) := by decide +kernel
theorem dX11_valued_131 : decode cX11_valued 131 = .ok (.iconst 3, 1) := by decide +kernel
theorem dX11_valued_132 : decode cX11_valued 132 = .ok (.if_icmp .ne 13, 3) := by decide +kernel
theorem dX11_valued_135 : decode cX11_valued 135 = .ok (.aload_n 0, 1) := by decide +kernel
theorem dX11_valued_136 : decode cX11_valued 136 = .ok (.iload_n 3, 1) := by decide +kernel
theorem dX11_valued_137 : decode cX11_valued 137 = .ok (.iload 4, 2) := by decide +kernel
theorem dX11_valued_139 : decode cX11_valued 139 = .ok (.iload 5, 2) := by decide +kernel
theorem dX11_valued_141 : decode cX11_valued 141 = .ok (.invokevirtual 304, 3) := by decide +kernel
theorem dX11_valued_144 : decode cX11_valued 144 = .ok (.ireturn, 1) := by decide +kernel
theorem dX11_valued_145 : decode cX11_valued 145 = .ok (.iload 4, 2) := by decide +kernel
theorem dX11_valued_147 : decode cX11_valued 147 = .ok (.iload_n 3, 1) := by decide +kernel
theorem dX11_valued_148 : decode cX11_valued 148 = .ok (.isub, 1) := by decide +kernel
theorem dX11_valued_149 : decode cX11_valued 149 = .ok (.iconst 1, 1) := by decide +kernel
theorem dX11_valued_150 : decode cX11_valued 150 = .ok (.if_icmp .lt 24, 3) := by decide +kernel
theorem dX11_valued_153 : decode cX11_valued 153 = .ok (.iload 4, 2) := by decide +kernel
theorem dX11_valued_155 : decode cX11_valued 155 = .ok (.iload_n 3, 1) := by decide +kernel
theorem dX11_valued_156 : decode cX11_valued 156 = .ok (.isub, 1) := by decide +kernel
theorem dX11_valued_157 : decode cX11_valued 157 = .ok (.bipush 18, 2) := by decide +kernel
theorem dX11_valued_159 : decode cX11_valued 159 = .ok (.if_icmp .gt 15, 3) := by decide +kernel
theorem dX11_valued_162 : decode cX11_valued 162 = .ok (.aload_n 0, 1) := by decide +kernel
theorem dX11_valued_163 : decode cX11_valued 163 = .ok (.iload_n 3, 1) := by decide +kernel
theorem dX11_valued_164 : decode cX11_valued 164 = .ok (.iload 4, 2) := by decide +kernel
theorem dX11_valued_166 : decode cX11_valued 166 = .ok (.invokevirtual 307, 3) := by decide +kernel
theorem dX11_valued_169 : decode cX11_valued 169 = .ok (.iload 4, 2) := by decide +kernel
theorem dX11_valued_171 : decode cX11_valued 171 = .ok (.if_icmp .eq 5, 3) := by decide +kernel
theorem dX11_valued_174 : decode cX11_valued 174 = .ok (.iconst 0, 1) := by decide +kernel
theorem dX11_valued_175 : decode cX11_valued 175 = .ok (.ireturn, 1) := by decide +kernel
theorem dX11_valued_176 : decode cX11_valued 176 = .ok (.aload_n 0, 1) := by decide +kernel
theorem dX11_valued_177 : decode cX11_valued 177 = .ok (.getfield 74, 3) := by decide +kernel
theorem dX11_valued_180 : decode cX11_valued 180 = .ok (.iconst 4, 1) := by decide +kernel
theorem dX11_valued_181 : decode cX11_valued 181 = .ok (.iload 5, 2) := by decide +kernel
theorem dX11_valued_183 : decode cX11_valued 183 = .ok (.imul, 1) := by decide +kernel
theorem dX11_valued_184 : decode cX11_valued 184 = .ok (.iload 7, 2) := by decide +kernel
theorem dX11_valued_186 : decode cX11_valued 186 = .ok (.iadd, 1) := by decide +kernel
theorem dX11_valued_187 : decode cX11_valued 187 = .ok (.iconst 1, 1) := by decide +kernel
theorem dX11_valued_188 : decode cX11_valued 188 = .ok (.bastore, 1) := by decide +kernel
theorem dX11_valued_189 : decode cX11_valued 189 = .ok (.aload_n 0, 1) := by decide +kernel
theorem dX11_valued_190 : decode cX11_valued 190 = .ok (.getfield 78, 3) := by decide +kernel
theorem dX11_valued_193 : decode cX11_valued 193 = .ok (.iconst 5, 1) := by decide +kernel
theorem dX11_valued_194 : decode cX11_valued 194 = .ok (.iload 5, 2) := by decide +kernel
theorem dX11_valued_196 : decode cX11_valued 196 = .ok (.imul, 1) := by decide +kernel
theorem dX11_valued_197 : decode cX11_valued 197 = .ok (.iload 7, 2) := by decide +kernel
theorem dX11_valued_199 : decode cX11_valued 199 = .ok (.iadd, 1) := by decide +kernel
theorem dX11_valued_200 : decode cX11_valued 200 = .ok (.aload_n 0, 1) := by decide +kernel
theorem dX11_valued_201 : decode cX11_valued 201 = .ok (.iload_n 3, 1) := by decide +kernel
theorem dX11_valued_202 : decode cX11_valued 202 = .ok (.iload 4, 2) := by decide +kernel
theorem dX11_valued_204 : decode cX11_valued 204 = .ok (.invokevirtual 311, 3) := by decide +kernel
theorem dX11_valued_207 : decode cX11_valued 207 = .ok (.lastore, 1) := by decide +kernel
theorem dX11_valued_208 : decode cX11_valued 208 = .ok (.aload_n 0, 1) := by decide +kernel
theorem dX11_valued_209 : decode cX11_valued 209 = .ok (.dup, 1) := by decide +kernel
theorem dX11_valued_210 : decode cX11_valued 210 = .ok (.getfield 246, 3) := by decide +kernel
theorem dX11_valued_213 : decode cX11_valued 213 = .ok (.iload 5, 2) := by decide +kernel
theorem dX11_valued_215 : decode cX11_valued 215 = .ok (.ifCond .ne 7, 3) := by decide +kernel
theorem dX11_valued_218 : decode cX11_valued 218 = .ok (.iconst 1, 1) := by decide +kernel
theorem dX11_valued_219 : decode cX11_valued 219 = .ok (.goto 4, 3) := by decide +kernel
theorem dX11_valued_222 : decode cX11_valued 222 = .ok (.iconst 0, 1) := by decide +kernel
theorem dX11_valued_223 : decode cX11_valued 223 = .ok (.ior, 1) := by decide +kernel
theorem dX11_valued_224 : decode cX11_valued 224 = .ok (.putfield 246, 3) := by decide +kernel
theorem dX11_valued_227 : decode cX11_valued 227 = .ok (.iconst 1, 1) := by decide +kernel
theorem dX11_valued_228 : decode cX11_valued 228 = .ok (.ireturn, 1) := by decide +kernel
theorem dX11_digitsFrom_0 : decode cX11_digitsFrom 0 = .ok (.iload_n 1, 1) := by decide +kernel
theorem dX11_digitsFrom_1 : decode cX11_digitsFrom 1 = .ok (.istore_n 3, 1) := by decide +kernel
theorem dX11_digitsFrom_2 : decode cX11_digitsFrom 2 = .ok (.iload_n 3, 1) := by decide +kernel
theorem dX11_digitsFrom_3 : decode cX11_digitsFrom 3 = .ok (.iload_n 2, 1) := by decide +kernel
theorem dX11_digitsFrom_4 : decode cX11_digitsFrom 4 = .ok (.if_icmp .ge 21, 3) := by decide +kernel
theorem dX11_digitsFrom_7 : decode cX11_digitsFrom 7 = .ok (.aload_n 0, 1) := by decide +kernel
theorem dX11_digitsFrom_8 : decode cX11_digitsFrom 8 = .ok (.getfield 43, 3) := by decide +kernel
theorem dX11_digitsFrom_11 : decode cX11_digitsFrom 11 = .ok (.iload_n 3, 1) := by decide +kernel
theorem dX11_digitsFrom_12 : decode cX11_digitsFrom 12 = .ok (.iaload, 1) := by decide +kernel
theorem dX11_digitsFrom_13 : decode cX11_digitsFrom 13 = .ok (.invokestatic 287, 3) := by decide +kernel
theorem dX11_digitsFrom_16 : decode cX11_digitsFrom 16 = .ok (.ifCond .eq 9, 3) := by decide +kernel
theorem dX11_digitsFrom_19 : decode cX11_digitsFrom 19 = .ok (.iinc 3 1, 3) := by decide +kernel
theorem dX11_digitsFrom_22 : decode cX11_digitsFrom 22 = .ok (.goto (-20), 3) := by decide +kernel
theorem dX11_digitsFrom_25 : decode cX11_digitsFrom 25 = .ok (.iload_n 3, 1) := by decide +kernel
theorem dX11_digitsFrom_26 : decode cX11_digitsFrom 26 = .ok (.ireturn, 1) := by decide +kernel
theorem dX11_valueOf_0 : decode cX11_valueOf 0 = .ok (.lconst 0, 1) := by decide +kernel
theorem dX11_valueOf_1 : decode cX11_valueOf 1 = .ok (.lstore_n 3, 1) := by decide +kernel
theorem dX11_valueOf_2 : decode cX11_valueOf 2 = .ok (.iload_n 1, 1) := by decide +kernel
theorem dX11_valueOf_3 : decode cX11_valueOf 3 = .ok (.istore 5, 2) := by decide +kernel
theorem dX11_valueOf_5 : decode cX11_valueOf 5 = .ok (.iload 5, 2) := by decide +kernel
theorem dX11_valueOf_7 : decode cX11_valueOf 7 = .ok (.iload_n 2, 1) := by decide +kernel
theorem dX11_valueOf_8 : decode cX11_valueOf 8 = .ok (.if_icmp .ge 28, 3) := by decide +kernel
theorem dX11_valueOf_11 : decode cX11_valueOf 11 = .ok (.ldc2_w 144, 3) := by decide +kernel
theorem dX11_valueOf_14 : decode cX11_valueOf 14 = .ok (.lload_n 3, 1) := by decide +kernel
theorem dX11_valueOf_15 : decode cX11_valueOf 15 = .ok (.lmul, 1) := by decide +kernel
theorem dX11_valueOf_16 : decode cX11_valueOf 16 = .ok (.aload_n 0, 1) := by decide +kernel
theorem dX11_valueOf_17 : decode cX11_valueOf 17 = .ok (.getfield 43, 3) := by decide +kernel
theorem dX11_valueOf_20 : decode cX11_valueOf 20 = .ok (.iload 5, 2) := by decide +kernel
theorem dX11_valueOf_22 : decode cX11_valueOf 22 = .ok (.iaload, 1) := by decide +kernel
theorem dX11_valueOf_23 : decode cX11_valueOf 23 = .ok (.i2l, 1) := by decide +kernel
theorem dX11_valueOf_24 : decode cX11_valueOf 24 = .ok (.ladd, 1) := by decide +kernel
theorem dX11_valueOf_25 : decode cX11_valueOf 25 = .ok (.ldc2_w 233, 3) := by decide +kernel
theorem dX11_valueOf_28 : decode cX11_valueOf 28 = .ok (.lsub, 1) := by decide +kernel
theorem dX11_valueOf_29 : decode cX11_valueOf 29 = .ok (.lstore_n 3, 1) := by decide +kernel
theorem dX11_valueOf_30 : decode cX11_valueOf 30 = .ok (.iinc 5 1, 3) := by decide +kernel
theorem dX11_valueOf_33 : decode cX11_valueOf 33 = .ok (.goto (-28), 3) := by decide +kernel
theorem dX11_valueOf_36 : decode cX11_valueOf 36 = .ok (.lload_n 3, 1) := by decide +kernel
theorem dX11_valueOf_37 : decode cX11_valueOf 37 = .ok (.lreturn, 1) := by decide +kernel
theorem dX11_named_0 : decode cX11_named 0 = .ok (.iload_n 2, 1) := by decide +kernel
theorem dX11_named_1 : decode cX11_named 1 = .ok (.iload_n 1, 1) := by decide +kernel
theorem dX11_named_2 : decode cX11_named 2 = .ok (.if_icmp .le 16, 3) := by decide +kernel
theorem dX11_named_5 : decode cX11_named 5 = .ok (.iload_n 2, 1) := by decide +kernel
theorem dX11_named_6 : decode cX11_named 6 = .ok (.iload_n 1, 1) := by decide +kernel
theorem dX11_named_7 : decode cX11_named 7 = .ok (.isub, 1) := by decide +kernel
theorem dX11_named_8 : decode cX11_named 8 = .ok (.sipush 400, 3) := by decide +kernel
theorem dX11_named_11 : decode cX11_named 11 = .ok (.if_icmp .gt 7, 3) := by decide +kernel
theorem dX11_named_14 : decode cX11_named 14 = .ok (.iconst 1, 1) := by decide +kernel
theorem dX11_named_15 : decode cX11_named 15 = .ok (.goto 4, 3) := by decide +kernel
theorem dX11_named_18 : decode cX11_named 18 = .ok (.iconst 0, 1) := by decide +kernel
theorem dX11_named_19 : decode cX11_named 19 = .ok (.istore 5, 2) := by decide +kernel
theorem dX11_named_21 : decode cX11_named 21 = .ok (.iload_n 1, 1) := by decide +kernel
theorem dX11_named_22 : decode cX11_named 22 = .ok (.istore 6, 2) := by decide +kernel
theorem dX11_named_24 : decode cX11_named 24 = .ok (.iload 6, 2) := by decide +kernel
theorem dX11_named_26 : decode cX11_named 26 = .ok (.iload_n 2, 1) := by decide +kernel
theorem dX11_named_27 : decode cX11_named 27 = .ok (.if_icmp .ge 31, 3) := by decide +kernel
theorem dX11_named_30 : decode cX11_named 30 = .ok (.iload 5, 2) := by decide +kernel
theorem dX11_named_32 : decode cX11_named 32 = .ok (.ifCond .eq 17, 3) := by decide +kernel
theorem dX11_named_35 : decode cX11_named 35 = .ok (.aload_n 0, 1) := by decide +kernel
theorem dX11_named_36 : decode cX11_named 36 = .ok (.getfield 43, 3) := by decide +kernel
theorem dX11_named_39 : decode cX11_named 39 = .ok (.iload 6, 2) := by decide +kernel
theorem dX11_named_41 : decode cX11_named 41 = .ok (.iaload, 1) := by decide +kernel
theorem dX11_named_42 : decode cX11_named 42 = .ok (.ifCond .eq 7, 3) := by decide +kernel
theorem dX11_named_45 : decode cX11_named 45 = .ok (.iconst 1, 1) := by decide +kernel
theorem dX11_named_46 : decode cX11_named 46 = .ok (.goto 4, 3) := by decide +kernel
theorem dX11_named_49 : decode cX11_named 49 = .ok (.iconst 0, 1) := by decide +kernel
theorem dX11_named_50 : decode cX11_named 50 = .ok (.istore 5, 2) := by decide +kernel
theorem dX11_named_52 : decode cX11_named 52 = .ok (.iinc 6 1, 3) := by decide +kernel
theorem dX11_named_55 : decode cX11_named 55 = .ok (.goto (-31), 3) := by decide +kernel
theorem dX11_named_58 : decode cX11_named 58 = .ok (.iload 5, 2) := by decide +kernel
theorem dX11_named_60 : decode cX11_named 60 = .ok (.ifCond .ne 5, 3) := by decide +kernel
theorem dX11_named_63 : decode cX11_named 63 = .ok (.iconst 0, 1) := by decide +kernel
theorem dX11_named_64 : decode cX11_named 64 = .ok (.ireturn, 1) := by decide +kernel
theorem dX11_named_65 : decode cX11_named 65 = .ok (.iload_n 1, 1) := by decide +kernel
theorem dX11_named_66 : decode cX11_named 66 = .ok (.istore 6, 2) := by decide +kernel
theorem dX11_named_68 : decode cX11_named 68 = .ok (.iload 6, 2) := by decide +kernel
theorem dX11_named_70 : decode cX11_named 70 = .ok (.iload_n 2, 1) := by decide +kernel
theorem dX11_named_71 : decode cX11_named 71 = .ok (.if_icmp .ge 61, 3) := by decide +kernel
theorem dX11_named_74 : decode cX11_named 74 = .ok (.iload 4, 2) := by decide +kernel
theorem dX11_named_76 : decode cX11_named 76 = .ok (.ifCond .eq 28, 3) := by decide +kernel
theorem dX11_named_79 : decode cX11_named 79 = .ok (.aload_n 0, 1) := by decide +kernel
theorem dX11_named_80 : decode cX11_named 80 = .ok (.getfield 68, 3) := by decide +kernel
theorem dX11_named_83 : decode cX11_named 83 = .ok (.sipush 400, 3) := by decide +kernel
theorem dX11_named_86 : decode cX11_named 86 = .ok (.iload_n 3, 1) := by decide +kernel
theorem dX11_named_87 : decode cX11_named 87 = .ok (.imul, 1) := by decide +kernel
theorem dX11_named_88 : decode cX11_named 88 = .ok (.iload 6, 2) := by decide +kernel
theorem dX11_named_90 : decode cX11_named 90 = .ok (.iadd, 1) := by decide +kernel
theorem dX11_named_91 : decode cX11_named 91 = .ok (.iload_n 1, 1) := by decide +kernel
theorem dX11_named_92 : decode cX11_named 92 = .ok (.isub, 1) := by decide +kernel
theorem dX11_named_93 : decode cX11_named 93 = .ok (.aload_n 0, 1) := by decide +kernel
theorem dX11_named_94 : decode cX11_named 94 = .ok (.getfield 43, 3) := by decide +kernel
theorem dX11_named_97 : decode cX11_named 97 = .ok (.iload 6, 2) := by decide +kernel
theorem dX11_named_99 : decode cX11_named 99 = .ok (.iaload, 1) := by decide +kernel
theorem dX11_named_100 : decode cX11_named 100 = .ok (.iastore, 1) := by decide +kernel
theorem dX11_named_101 : decode cX11_named 101 = .ok (.goto 25, 3) := by decide +kernel
theorem dX11_named_104 : decode cX11_named 104 = .ok (.aload_n 0, 1) := by decide +kernel
theorem dX11_named_105 : decode cX11_named 105 = .ok (.getfield 62, 3) := by decide +kernel
theorem dX11_named_108 : decode cX11_named 108 = .ok (.sipush 400, 3) := by decide +kernel
theorem dX11_named_111 : decode cX11_named 111 = .ok (.iload_n 3, 1) := by decide +kernel
theorem dX11_named_112 : decode cX11_named 112 = .ok (.imul, 1) := by decide +kernel
theorem dX11_named_113 : decode cX11_named 113 = .ok (.iload 6, 2) := by decide +kernel
theorem dX11_named_115 : decode cX11_named 115 = .ok (.iadd, 1) := by decide +kernel
theorem dX11_named_116 : decode cX11_named 116 = .ok (.iload_n 1, 1) := by decide +kernel
theorem dX11_named_117 : decode cX11_named 117 = .ok (.isub, 1) := by decide +kernel
theorem dX11_named_118 : decode cX11_named 118 = .ok (.aload_n 0, 1) := by decide +kernel
theorem dX11_named_119 : decode cX11_named 119 = .ok (.getfield 43, 3) := by decide +kernel
theorem dX11_named_122 : decode cX11_named 122 = .ok (.iload 6, 2) := by decide +kernel
theorem dX11_named_124 : decode cX11_named 124 = .ok (.iaload, 1) := by decide +kernel
theorem dX11_named_125 : decode cX11_named 125 = .ok (.iastore, 1) := by decide +kernel
theorem dX11_named_126 : decode cX11_named 126 = .ok (.iinc 6 1, 3) := by decide +kernel
theorem dX11_named_129 : decode cX11_named 129 = .ok (.goto (-61), 3) := by decide +kernel
theorem dX11_named_132 : decode cX11_named 132 = .ok (.iload 4, 2) := by decide +kernel
theorem dX11_named_134 : decode cX11_named 134 = .ok (.ifCond .eq 15, 3) := by decide +kernel
theorem dX11_named_137 : decode cX11_named 137 = .ok (.aload_n 0, 1) := by decide +kernel
theorem dX11_named_138 : decode cX11_named 138 = .ok (.getfield 71, 3) := by decide +kernel
theorem dX11_named_141 : decode cX11_named 141 = .ok (.iload_n 3, 1) := by decide +kernel
theorem dX11_named_142 : decode cX11_named 142 = .ok (.iload_n 2, 1) := by decide +kernel
theorem dX11_named_143 : decode cX11_named 143 = .ok (.iload_n 1, 1) := by decide +kernel
theorem dX11_named_144 : decode cX11_named 144 = .ok (.isub, 1) := by decide +kernel
theorem dX11_named_145 : decode cX11_named 145 = .ok (.iastore, 1) := by decide +kernel
theorem dX11_named_146 : decode cX11_named 146 = .ok (.goto 12, 3) := by decide +kernel
theorem dX11_named_149 : decode cX11_named 149 = .ok (.aload_n 0, 1) := by decide +kernel
theorem dX11_named_150 : decode cX11_named 150 = .ok (.getfield 65, 3) := by decide +kernel
theorem dX11_named_153 : decode cX11_named 153 = .ok (.iload_n 3, 1) := by decide +kernel
theorem dX11_named_154 : decode cX11_named 154 = .ok (.iload_n 2, 1) := by decide +kernel
theorem dX11_named_155 : decode cX11_named 155 = .ok (.iload_n 1, 1) := by decide +kernel
theorem dX11_named_156 : decode cX11_named 156 = .ok (.isub, 1) := by decide +kernel
theorem dX11_named_157 : decode cX11_named 157 = .ok (.iastore, 1) := by decide +kernel
theorem dX11_named_158 : decode cX11_named 158 = .ok (.aload_n 0, 1) := by decide +kernel
theorem dX11_named_159 : decode cX11_named 159 = .ok (.dup, 1) := by decide +kernel
theorem dX11_named_160 : decode cX11_named 160 = .ok (.getfield 246, 3) := by decide +kernel
theorem dX11_named_163 : decode cX11_named 163 = .ok (.iload_n 3, 1) := by decide +kernel
theorem dX11_named_164 : decode cX11_named 164 = .ok (.ifCond .ne 7, 3) := by decide +kernel
theorem dX11_named_167 : decode cX11_named 167 = .ok (.iconst 1, 1) := by decide +kernel
theorem dX11_named_168 : decode cX11_named 168 = .ok (.goto 4, 3) := by decide +kernel
theorem dX11_named_171 : decode cX11_named 171 = .ok (.iconst 0, 1) := by decide +kernel
theorem dX11_named_172 : decode cX11_named 172 = .ok (.ior, 1) := by decide +kernel
theorem dX11_named_173 : decode cX11_named 173 = .ok (.putfield 246, 3) := by decide +kernel
theorem dX11_named_176 : decode cX11_named 176 = .ok (.iconst 1, 1) := by decide +kernel
theorem dX11_named_177 : decode cX11_named 177 = .ok (.ireturn, 1) := by decide +kernel
theorem dX11_timed_0 : decode cX11_timed 0 = .ok (.iload_n 1, 1) := by decide +kernel
theorem dX11_timed_1 : decode cX11_timed 1 = .ok (.iload_n 2, 1) := by decide +kernel
theorem dX11_timed_2 : decode cX11_timed 2 = .ok (.if_icmp .ge 18, 3) := by decide +kernel
theorem dX11_timed_5 : decode cX11_timed 5 = .ok (.aload_n 0, 1) := by decide +kernel
theorem dX11_timed_6 : decode cX11_timed 6 = .ok (.getfield 43, 3) := by decide +kernel
theorem dX11_timed_9 : decode cX11_timed 9 = .ok (.iload_n 1, 1) := by decide +kernel
theorem dX11_timed_10 : decode cX11_timed 10 = .ok (.iaload, 1) := by decide +kernel
theorem dX11_timed_11 : decode cX11_timed 11 = .ok (.bipush 45, 2) := by decide +kernel
theorem dX11_timed_13 : decode cX11_timed 13 = .ok (.if_icmp .ne 7, 3) := by decide +kernel
theorem dX11_timed_16 : decode cX11_timed 16 = .ok (.iconst 1, 1) := by decide +kernel
theorem dX11_timed_17 : decode cX11_timed 17 = .ok (.goto 4, 3) := by decide +kernel
theorem dX11_timed_20 : decode cX11_timed 20 = .ok (.iconst 0, 1) := by decide +kernel
theorem dX11_timed_21 : decode cX11_timed 21 = .ok (.istore 4, 2) := by decide +kernel
theorem dX11_timed_23 : decode cX11_timed 23 = .ok (.iload 4, 2) := by decide +kernel
theorem dX11_timed_25 : decode cX11_timed 25 = .ok (.ifCond .eq 9, 3) := by decide +kernel
theorem dX11_timed_28 : decode cX11_timed 28 = .ok (.iload_n 1, 1) := by decide +kernel
theorem dX11_timed_29 : decode cX11_timed 29 = .ok (.iconst 1, 1) := by decide +kernel
theorem dX11_timed_30 : decode cX11_timed 30 = .ok (.iadd, 1) := by decide +kernel
theorem dX11_timed_31 : decode cX11_timed 31 = .ok (.goto 4, 3) := by decide +kernel
theorem dX11_timed_34 : decode cX11_timed 34 = .ok (.iload_n 1, 1) := by decide +kernel
theorem dX11_timed_35 : decode cX11_timed 35 = .ok (.istore 5, 2) := by decide +kernel
theorem dX11_timed_37 : decode cX11_timed 37 = .ok (.aload_n 0, 1) := by decide +kernel
theorem dX11_timed_38 : decode cX11_timed 38 = .ok (.iload 5, 2) := by decide +kernel
theorem dX11_timed_40 : decode cX11_timed 40 = .ok (.iload_n 2, 1) := by decide +kernel
theorem dX11_timed_41 : decode cX11_timed 41 = .ok (.invokevirtual 307, 3) := by decide +kernel
theorem dX11_timed_44 : decode cX11_timed 44 = .ok (.istore 6, 2) := by decide +kernel
theorem dX11_timed_46 : decode cX11_timed 46 = .ok (.iload 6, 2) := by decide +kernel
theorem dX11_timed_48 : decode cX11_timed 48 = .ok (.iload 5, 2) := by decide +kernel
theorem dX11_timed_50 : decode cX11_timed 50 = .ok (.if_icmp .eq 13, 3) := by decide +kernel
theorem dX11_timed_53 : decode cX11_timed 53 = .ok (.iload 6, 2) := by decide +kernel
theorem dX11_timed_55 : decode cX11_timed 55 = .ok (.iload 5, 2) := by decide +kernel
theorem dX11_timed_57 : decode cX11_timed 57 = .ok (.isub, 1) := by decide +kernel
theorem dX11_timed_58 : decode cX11_timed 58 = .ok (.bipush 16, 2) := by decide +kernel
theorem dX11_timed_60 : decode cX11_timed 60 = .ok (.if_icmp .le 5, 3) := by decide +kernel
theorem dX11_timed_63 : decode cX11_timed 63 = .ok (.iconst 0, 1) := by decide +kernel
theorem dX11_timed_64 : decode cX11_timed 64 = .ok (.ireturn, 1) := by decide +kernel
theorem dX11_timed_65 : decode cX11_timed 65 = .ok (.aload_n 0, 1) := by decide +kernel
theorem dX11_timed_66 : decode cX11_timed 66 = .ok (.iload 5, 2) := by decide +kernel
theorem dX11_timed_68 : decode cX11_timed 68 = .ok (.iload 6, 2) := by decide +kernel
theorem dX11_timed_70 : decode cX11_timed 70 = .ok (.invokevirtual 311, 3) := by decide +kernel
theorem dX11_timed_73 : decode cX11_timed 73 = .ok (.lstore 7, 2) := by decide +kernel
theorem dX11_timed_75 : decode cX11_timed 75 = .ok (.lconst 0, 1) := by decide +kernel
theorem dX11_timed_76 : decode cX11_timed 76 = .ok (.lstore 9, 2) := by decide +kernel
theorem dX11_timed_78 : decode cX11_timed 78 = .ok (.iload 6, 2) := by decide +kernel
theorem dX11_timed_80 : decode cX11_timed 80 = .ok (.iload_n 2, 1) := by decide +kernel
theorem dX11_timed_81 : decode cX11_timed 81 = .ok (.if_icmp .ge 87, 3) := by decide +kernel
theorem dX11_timed_84 : decode cX11_timed 84 = .ok (.iload_n 2, 1) := by decide +kernel
theorem dX11_timed_85 : decode cX11_timed 85 = .ok (.iload 6, 2) := by decide +kernel
theorem dX11_timed_87 : decode cX11_timed 87 = .ok (.isub, 1) := by decide +kernel
theorem dX11_timed_88 : decode cX11_timed 88 = .ok (.iconst 1, 1) := by decide +kernel
theorem dX11_timed_89 : decode cX11_timed 89 = .ok (.isub, 1) := by decide +kernel
theorem dX11_timed_90 : decode cX11_timed 90 = .ok (.istore 11, 2) := by decide +kernel
theorem dX11_timed_92 : decode cX11_timed 92 = .ok (.aload_n 0, 1) := by decide +kernel
theorem dX11_timed_93 : decode cX11_timed 93 = .ok (.getfield 43, 3) := by decide +kernel
theorem dX11_timed_96 : decode cX11_timed 96 = .ok (.iload 6, 2) := by decide +kernel
theorem dX11_timed_98 : decode cX11_timed 98 = .ok (.iaload, 1) := by decide +kernel
theorem dX11_timed_99 : decode cX11_timed 99 = .ok (.bipush 46, 2) := by decide +kernel
theorem dX11_timed_101 : decode cX11_timed 101 = .ok (.if_icmp .ne 29, 3) := by decide +kernel
theorem dX11_timed_104 : decode cX11_timed 104 = .ok (.iload 11, 2) := by decide +kernel
theorem dX11_timed_106 : decode cX11_timed 106 = .ok (.iconst 1, 1) := by decide +kernel
theorem dX11_timed_107 : decode cX11_timed 107 = .ok (.if_icmp .lt 23, 3) := by decide +kernel
theorem dX11_timed_110 : decode cX11_timed 110 = .ok (.iload 11, 2) := by decide +kernel
theorem dX11_timed_112 : decode cX11_timed 112 = .ok (.bipush 9, 2) := by decide +kernel
theorem dX11_timed_114 : decode cX11_timed 114 = .ok (.if_icmp .gt 16, 3) := by decide +kernel
theorem dX11_timed_117 : decode cX11_timed 117 = .ok (.aload_n 0, 1) := by decide +kernel
theorem dX11_timed_118 : decode cX11_timed 118 = .ok (.iload 6, 2) := by decide +kernel
theorem dX11_timed_120 : decode cX11_timed 120 = .ok (.iconst 1, 1) := by decide +kernel
theorem dX11_timed_121 : decode cX11_timed 121 = .ok (.iadd, 1) := by decide +kernel
theorem dX11_timed_122 : decode cX11_timed 122 = .ok (.iload_n 2, 1) := by decide +kernel
theorem dX11_timed_123 : decode cX11_timed 123 = .ok (.invokevirtual 307, 3) := by decide +kernel
theorem dX11_timed_126 : decode cX11_timed 126 = .ok (.iload_n 2, 1) := by decide +kernel
theorem dX11_timed_127 : decode cX11_timed 127 = .ok (.if_icmp .eq 5, 3) := by decide +kernel
theorem dX11_timed_130 : decode cX11_timed 130 = .ok (.iconst 0, 1) := by decide +kernel
theorem dX11_timed_131 : decode cX11_timed 131 = .ok (.ireturn, 1) := by decide +kernel
theorem dX11_timed_132 : decode cX11_timed 132 = .ok (.aload_n 0, 1) := by decide +kernel
theorem dX11_timed_133 : decode cX11_timed 133 = .ok (.iload 6, 2) := by decide +kernel
theorem dX11_timed_135 : decode cX11_timed 135 = .ok (.iconst 1, 1) := by decide +kernel
theorem dX11_timed_136 : decode cX11_timed 136 = .ok (.iadd, 1) := by decide +kernel
theorem dX11_timed_137 : decode cX11_timed 137 = .ok (.iload_n 2, 1) := by decide +kernel
theorem dX11_timed_138 : decode cX11_timed 138 = .ok (.invokevirtual 311, 3) := by decide +kernel
theorem dX11_timed_141 : decode cX11_timed 141 = .ok (.lstore 9, 2) := by decide +kernel
theorem dX11_timed_143 : decode cX11_timed 143 = .ok (.iload 11, 2) := by decide +kernel
theorem dX11_timed_145 : decode cX11_timed 145 = .ok (.istore 12, 2) := by decide +kernel
theorem dX11_timed_147 : decode cX11_timed 147 = .ok (.iload 12, 2) := by decide +kernel
theorem dX11_timed_149 : decode cX11_timed 149 = .ok (.bipush 9, 2) := by decide +kernel
theorem dX11_timed_151 : decode cX11_timed 151 = .ok (.if_icmp .ge 17, 3) := by decide +kernel
theorem dX11_timed_154 : decode cX11_timed 154 = .ok (.lload 9, 2) := by decide +kernel
theorem dX11_timed_156 : decode cX11_timed 156 = .ok (.ldc2_w 144, 3) := by decide +kernel
theorem dX11_timed_159 : decode cX11_timed 159 = .ok (.lmul, 1) := by decide +kernel
theorem dX11_timed_160 : decode cX11_timed 160 = .ok (.lstore 9, 2) := by decide +kernel
theorem dX11_timed_162 : decode cX11_timed 162 = .ok (.iinc 12 1, 3) := by decide +kernel
theorem dX11_timed_165 : decode cX11_timed 165 = .ok (.goto (-18), 3) := by decide +kernel
theorem dX11_timed_168 : decode cX11_timed 168 = .ok (.aload_n 0, 1) := by decide +kernel
theorem dX11_timed_169 : decode cX11_timed 169 = .ok (.getfield 74, 3) := by decide +kernel
theorem dX11_timed_172 : decode cX11_timed 172 = .ok (.iconst 4, 1) := by decide +kernel
theorem dX11_timed_173 : decode cX11_timed 173 = .ok (.iload_n 3, 1) := by decide +kernel
theorem dX11_timed_174 : decode cX11_timed 174 = .ok (.imul, 1) := by decide +kernel
theorem dX11_timed_175 : decode cX11_timed 175 = .ok (.iconst 3, 1) := by decide +kernel
theorem dX11_timed_176 : decode cX11_timed 176 = .ok (.iadd, 1) := by decide +kernel
theorem dX11_timed_177 : decode cX11_timed 177 = .ok (.iconst 1, 1) := by decide +kernel
theorem dX11_timed_178 : decode cX11_timed 178 = .ok (.bastore, 1) := by decide +kernel
theorem dX11_timed_179 : decode cX11_timed 179 = .ok (.aload_n 0, 1) := by decide +kernel
theorem dX11_timed_180 : decode cX11_timed 180 = .ok (.getfield 78, 3) := by decide +kernel
theorem dX11_timed_183 : decode cX11_timed 183 = .ok (.iconst 5, 1) := by decide +kernel
theorem dX11_timed_184 : decode cX11_timed 184 = .ok (.iload_n 3, 1) := by decide +kernel
theorem dX11_timed_185 : decode cX11_timed 185 = .ok (.imul, 1) := by decide +kernel
theorem dX11_timed_186 : decode cX11_timed 186 = .ok (.iconst 3, 1) := by decide +kernel
theorem dX11_timed_187 : decode cX11_timed 187 = .ok (.iadd, 1) := by decide +kernel
theorem dX11_timed_188 : decode cX11_timed 188 = .ok (.iload 4, 2) := by decide +kernel
theorem dX11_timed_190 : decode cX11_timed 190 = .ok (.ifCond .ne 8, 3) := by decide +kernel
theorem dX11_timed_193 : decode cX11_timed 193 = .ok (.lload 7, 2) := by decide +kernel
theorem dX11_timed_195 : decode cX11_timed 195 = .ok (.goto 21, 3) := by decide +kernel
theorem dX11_timed_198 : decode cX11_timed 198 = .ok (.lload 9, 2) := by decide +kernel
theorem dX11_timed_200 : decode cX11_timed 200 = .ok (.lconst 0, 1) := by decide +kernel
theorem dX11_timed_201 : decode cX11_timed 201 = .ok (.lcmp, 1) := by decide +kernel
theorem dX11_timed_202 : decode cX11_timed 202 = .ok (.ifCond .le 11, 3) := by decide +kernel
theorem dX11_timed_205 : decode cX11_timed 205 = .ok (.lload 7, 2) := by decide +kernel
theorem dX11_timed_207 : decode cX11_timed 207 = .ok (.lneg, 1) := by decide +kernel
theorem dX11_timed_208 : decode cX11_timed 208 = .ok (.lconst 1, 1) := by decide +kernel
theorem dX11_timed_209 : decode cX11_timed 209 = .ok (.lsub, 1) := by decide +kernel
theorem dX11_timed_210 : decode cX11_timed 210 = .ok (.goto 6, 3) := by decide +kernel
theorem dX11_timed_213 : decode cX11_timed 213 = .ok (.lload 7, 2) := by decide +kernel
theorem dX11_timed_215 : decode cX11_timed 215 = .ok (.lneg, 1) := by decide +kernel
theorem dX11_timed_216 : decode cX11_timed 216 = .ok (.lastore, 1) := by decide +kernel
theorem dX11_timed_217 : decode cX11_timed 217 = .ok (.aload_n 0, 1) := by decide +kernel
theorem dX11_timed_218 : decode cX11_timed 218 = .ok (.getfield 78, 3) := by decide +kernel
theorem dX11_timed_221 : decode cX11_timed 221 = .ok (.iconst 5, 1) := by decide +kernel
theorem dX11_timed_222 : decode cX11_timed 222 = .ok (.iload_n 3, 1) := by decide +kernel
theorem dX11_timed_223 : decode cX11_timed 223 = .ok (.imul, 1) := by decide +kernel
theorem dX11_timed_224 : decode cX11_timed 224 = .ok (.iconst 4, 1) := by decide +kernel
theorem dX11_timed_225 : decode cX11_timed 225 = .ok (.iadd, 1) := by decide +kernel
theorem dX11_timed_226 : decode cX11_timed 226 = .ok (.iload 4, 2) := by decide +kernel
theorem dX11_timed_228 : decode cX11_timed 228 = .ok (.ifCond .eq 19, 3) := by decide +kernel
theorem dX11_timed_231 : decode cX11_timed 231 = .ok (.lload 9, 2) := by decide +kernel
theorem dX11_timed_233 : decode cX11_timed 233 = .ok (.lconst 0, 1) := by decide +kernel
theorem dX11_timed_234 : decode cX11_timed 234 = .ok (.lcmp, 1) := by decide +kernel
theorem dX11_timed_235 : decode cX11_timed 235 = .ok (.ifCond .le 12, 3) := by decide +kernel
theorem dX11_timed_238 : decode cX11_timed 238 = .ok (.ldc2_w 150, 3) := by decide +kernel
theorem dX11_timed_241 : decode cX11_timed 241 = .ok (.lload 9, 2) := by decide +kernel
theorem dX11_timed_243 : decode cX11_timed 243 = .ok (.lsub, 1) := by decide +kernel
theorem dX11_timed_244 : decode cX11_timed 244 = .ok (.goto 5, 3) := by decide +kernel
theorem dX11_timed_247 : decode cX11_timed 247 = .ok (.lload 9, 2) := by decide +kernel
theorem dX11_timed_249 : decode cX11_timed 249 = .ok (.lastore, 1) := by decide +kernel
theorem dX11_timed_250 : decode cX11_timed 250 = .ok (.aload_n 0, 1) := by decide +kernel
theorem dX11_timed_251 : decode cX11_timed 251 = .ok (.dup, 1) := by decide +kernel
theorem dX11_timed_252 : decode cX11_timed 252 = .ok (.getfield 246, 3) := by decide +kernel
theorem dX11_timed_255 : decode cX11_timed 255 = .ok (.iload_n 3, 1) := by decide +kernel
theorem dX11_timed_256 : decode cX11_timed 256 = .ok (.ifCond .ne 7, 3) := by decide +kernel
theorem dX11_timed_259 : decode cX11_timed 259 = .ok (.iconst 1, 1) := by decide +kernel
theorem dX11_timed_260 : decode cX11_timed 260 = .ok (.goto 4, 3) := by decide +kernel
theorem dX11_timed_263 : decode cX11_timed 263 = .ok (.iconst 0, 1) := by decide +kernel
theorem dX11_timed_264 : decode cX11_timed 264 = .ok (.ior, 1) := by decide +kernel
theorem dX11_timed_265 : decode cX11_timed 265 = .ok (.putfield 246, 3) := by decide +kernel
theorem dX11_timed_268 : decode cX11_timed 268 = .ok (.iconst 1, 1) := by decide +kernel
theorem dX11_timed_269 : decode cX11_timed 269 = .ok (.ireturn, 1) := by decide +kernel
theorem dX11_longName_0 : decode cX11_longName 0 = .ok (.iload_n 1, 1) := by decide +kernel
theorem dX11_longName_1 : decode cX11_longName 1 = .ok (.istore 4, 2) := by decide +kernel
theorem dX11_longName_3 : decode cX11_longName 3 = .ok (.iload 4, 2) := by decide +kernel
theorem dX11_longName_5 : decode cX11_longName 5 = .ok (.iload_n 1, 1) := by decide +kernel
theorem dX11_longName_6 : decode cX11_longName 6 = .ok (.iload_n 2, 1) := by decide +kernel
theorem dX11_longName_7 : decode cX11_longName 7 = .ok (.iadd, 1) := by decide +kernel
theorem dX11_longName_8 : decode cX11_longName 8 = .ok (.if_icmp .ge 19, 3) := by decide +kernel
theorem dX11_longName_11 : decode cX11_longName 11 = .ok (.aload_n 0, 1) := by decide +kernel
theorem dX11_longName_12 : decode cX11_longName 12 = .ok (.getfield 43, 3) := by decide +kernel
theorem dX11_longName_15 : decode cX11_longName 15 = .ok (.iload 4, 2) := by decide +kernel
theorem dX11_longName_17 : decode cX11_longName 17 = .ok (.iaload, 1) := by decide +kernel
theorem dX11_longName_18 : decode cX11_longName 18 = .ok (.ifCond .eq 9, 3) := by decide +kernel
theorem dX11_longName_21 : decode cX11_longName 21 = .ok (.iinc 4 1, 3) := by decide +kernel
theorem dX11_longName_24 : decode cX11_longName 24 = .ok (.goto (-21), 3) := by decide +kernel
theorem dX11_longName_27 : decode cX11_longName 27 = .ok (.aload_n 0, 1) := by decide +kernel
theorem dX11_longName_28 : decode cX11_longName 28 = .ok (.iload_n 1, 1) := by decide +kernel
theorem dX11_longName_29 : decode cX11_longName 29 = .ok (.iload 4, 2) := by decide +kernel
theorem dX11_longName_31 : decode cX11_longName 31 = .ok (.iconst 0, 1) := by decide +kernel
theorem dX11_longName_32 : decode cX11_longName 32 = .ok (.iload_n 3, 1) := by decide +kernel
theorem dX11_longName_33 : decode cX11_longName 33 = .ok (.invokevirtual 298, 3) := by decide +kernel
theorem dX11_longName_36 : decode cX11_longName 36 = .ok (.ifCond .ne 12, 3) := by decide +kernel
theorem dX11_longName_39 : decode cX11_longName 39 = .ok (.aload_n 0, 1) := by decide +kernel
theorem dX11_longName_40 : decode cX11_longName 40 = .ok (.bipush 9, 2) := by decide +kernel
theorem dX11_longName_42 : decode cX11_longName 42 = .ok (.iload_n 1, 1) := by decide +kernel
theorem dX11_longName_43 : decode cX11_longName 43 = .ok (.invokevirtual 254, 3) := by decide +kernel
theorem dX11_longName_46 : decode cX11_longName 46 = .ok (.iconst 0, 1) := by decide +kernel
theorem dX11_longName_47 : decode cX11_longName 47 = .ok (.ireturn, 1) := by decide +kernel
theorem dX11_longName_48 : decode cX11_longName 48 = .ok (.iconst 1, 1) := by decide +kernel
theorem dX11_longName_49 : decode cX11_longName 49 = .ok (.ireturn, 1) := by decide +kernel
theorem dX11_putField_0 : decode cX11_putField 0 = .ok (.iconst 0, 1) := by decide +kernel
theorem dX11_putField_1 : decode cX11_putField 1 = .ok (.istore 5, 2) := by decide +kernel
theorem dX11_putField_3 : decode cX11_putField 3 = .ok (.iload 5, 2) := by decide +kernel
theorem dX11_putField_5 : decode cX11_putField 5 = .ok (.iload 4, 2) := by decide +kernel
theorem dX11_putField_7 : decode cX11_putField 7 = .ok (.if_icmp .ge 36, 3) := by decide +kernel
theorem dX11_putField_10 : decode cX11_putField 10 = .ok (.aload_n 0, 1) := by decide +kernel
theorem dX11_putField_11 : decode cX11_putField 11 = .ok (.getfield 43, 3) := by decide +kernel
theorem dX11_putField_14 : decode cX11_putField 14 = .ok (.iload_n 3, 1) := by decide +kernel
theorem dX11_putField_15 : decode cX11_putField 15 = .ok (.iload 5, 2) := by decide +kernel
theorem dX11_putField_17 : decode cX11_putField 17 = .ok (.iadd, 1) := by decide +kernel
theorem dX11_putField_18 : decode cX11_putField 18 = .ok (.iaload, 1) := by decide +kernel
theorem dX11_putField_19 : decode cX11_putField 19 = .ok (.ifCond .eq 24, 3) := by decide +kernel
theorem dX11_putField_22 : decode cX11_putField 22 = .ok (.aload_n 1, 1) := by decide +kernel
theorem dX11_putField_23 : decode cX11_putField 23 = .ok (.iload_n 2, 1) := by decide +kernel
theorem dX11_putField_24 : decode cX11_putField 24 = .ok (.iload 5, 2) := by decide +kernel
theorem dX11_putField_26 : decode cX11_putField 26 = .ok (.iadd, 1) := by decide +kernel
theorem dX11_putField_27 : decode cX11_putField 27 = .ok (.aload_n 0, 1) := by decide +kernel
theorem dX11_putField_28 : decode cX11_putField 28 = .ok (.getfield 43, 3) := by decide +kernel
theorem dX11_putField_31 : decode cX11_putField 31 = .ok (.iload_n 3, 1) := by decide +kernel
theorem dX11_putField_32 : decode cX11_putField 32 = .ok (.iload 5, 2) := by decide +kernel
theorem dX11_putField_34 : decode cX11_putField 34 = .ok (.iadd, 1) := by decide +kernel
theorem dX11_putField_35 : decode cX11_putField 35 = .ok (.iaload, 1) := by decide +kernel
theorem dX11_putField_36 : decode cX11_putField 36 = .ok (.iastore, 1) := by decide +kernel
theorem dX11_putField_37 : decode cX11_putField 37 = .ok (.iinc 5 1, 3) := by decide +kernel
theorem dX11_putField_40 : decode cX11_putField 40 = .ok (.goto (-37), 3) := by decide +kernel
theorem dX11_putField_43 : decode cX11_putField 43 = .ok (.iload 5, 2) := by decide +kernel
theorem dX11_putField_45 : decode cX11_putField 45 = .ok (.ireturn, 1) := by decide +kernel
theorem dX11_putAhead_0 : decode cX11_putAhead 0 = .ok (.iconst 0, 1) := by decide +kernel
theorem dX11_putAhead_1 : decode cX11_putAhead 1 = .ok (.istore 5, 2) := by decide +kernel
theorem dX11_putAhead_3 : decode cX11_putAhead 3 = .ok (.iload 5, 2) := by decide +kernel
theorem dX11_putAhead_5 : decode cX11_putAhead 5 = .ok (.iload 4, 2) := by decide +kernel
theorem dX11_putAhead_7 : decode cX11_putAhead 7 = .ok (.if_icmp .ge 25, 3) := by decide +kernel
theorem dX11_putAhead_10 : decode cX11_putAhead 10 = .ok (.aload_n 0, 1) := by decide +kernel
theorem dX11_putAhead_11 : decode cX11_putAhead 11 = .ok (.iload_n 1, 1) := by decide +kernel
theorem dX11_putAhead_12 : decode cX11_putAhead 12 = .ok (.iload 5, 2) := by decide +kernel
theorem dX11_putAhead_14 : decode cX11_putAhead 14 = .ok (.iadd, 1) := by decide +kernel
theorem dX11_putAhead_15 : decode cX11_putAhead 15 = .ok (.aload_n 2, 1) := by decide +kernel
theorem dX11_putAhead_16 : decode cX11_putAhead 16 = .ok (.sipush 400, 3) := by decide +kernel
theorem dX11_putAhead_19 : decode cX11_putAhead 19 = .ok (.iload_n 3, 1) := by decide +kernel
theorem dX11_putAhead_20 : decode cX11_putAhead 20 = .ok (.imul, 1) := by decide +kernel
theorem dX11_putAhead_21 : decode cX11_putAhead 21 = .ok (.iload 5, 2) := by decide +kernel
theorem dX11_putAhead_23 : decode cX11_putAhead 23 = .ok (.iadd, 1) := by decide +kernel
theorem dX11_putAhead_24 : decode cX11_putAhead 24 = .ok (.iaload, 1) := by decide +kernel
theorem dX11_putAhead_25 : decode cX11_putAhead 25 = .ok (.iastore, 1) := by decide +kernel
theorem dX11_putAhead_26 : decode cX11_putAhead 26 = .ok (.iinc 5 1, 3) := by decide +kernel
theorem dX11_putAhead_29 : decode cX11_putAhead 29 = .ok (.goto (-26), 3) := by decide +kernel
theorem dX11_putAhead_32 : decode cX11_putAhead 32 = .ok (.iload 4, 2) := by decide +kernel
theorem dX11_putAhead_34 : decode cX11_putAhead 34 = .ok (.ireturn, 1) := by decide +kernel
theorem dX11_isMagic_0 : decode cX11_isMagic 0 = .ok (.aload_n 0, 1) := by decide +kernel
theorem dX11_isMagic_1 : decode cX11_isMagic 1 = .ok (.getfield 43, 3) := by decide +kernel
theorem dX11_isMagic_4 : decode cX11_isMagic 4 = .ok (.iload_n 1, 1) := by decide +kernel
theorem dX11_isMagic_5 : decode cX11_isMagic 5 = .ok (.sipush 257, 3) := by decide +kernel
theorem dX11_isMagic_8 : decode cX11_isMagic 8 = .ok (.iadd, 1) := by decide +kernel
theorem dX11_isMagic_9 : decode cX11_isMagic 9 = .ok (.iaload, 1) := by decide +kernel
theorem dX11_isMagic_10 : decode cX11_isMagic 10 = .ok (.bipush 117, 2) := by decide +kernel
theorem dX11_isMagic_12 : decode cX11_isMagic 12 = .ok (.if_icmp .ne 85, 3) := by decide +kernel
theorem dX11_isMagic_15 : decode cX11_isMagic 15 = .ok (.aload_n 0, 1) := by decide +kernel
theorem dX11_isMagic_16 : decode cX11_isMagic 16 = .ok (.getfield 43, 3) := by decide +kernel
theorem dX11_isMagic_19 : decode cX11_isMagic 19 = .ok (.iload_n 1, 1) := by decide +kernel
theorem dX11_isMagic_20 : decode cX11_isMagic 20 = .ok (.sipush 258, 3) := by decide +kernel
theorem dX11_isMagic_23 : decode cX11_isMagic 23 = .ok (.iadd, 1) := by decide +kernel
theorem dX11_isMagic_24 : decode cX11_isMagic 24 = .ok (.iaload, 1) := by decide +kernel
theorem dX11_isMagic_25 : decode cX11_isMagic 25 = .ok (.bipush 115, 2) := by decide +kernel
theorem dX11_isMagic_27 : decode cX11_isMagic 27 = .ok (.if_icmp .ne 70, 3) := by decide +kernel
theorem dX11_isMagic_30 : decode cX11_isMagic 30 = .ok (.aload_n 0, 1) := by decide +kernel
theorem dX11_isMagic_31 : decode cX11_isMagic 31 = .ok (.getfield 43, 3) := by decide +kernel
theorem dX11_isMagic_34 : decode cX11_isMagic 34 = .ok (.iload_n 1, 1) := by decide +kernel
theorem dX11_isMagic_35 : decode cX11_isMagic 35 = .ok (.sipush 259, 3) := by decide +kernel
theorem dX11_isMagic_38 : decode cX11_isMagic 38 = .ok (.iadd, 1) := by decide +kernel
theorem dX11_isMagic_39 : decode cX11_isMagic 39 = .ok (.iaload, 1) := by decide +kernel
theorem dX11_isMagic_40 : decode cX11_isMagic 40 = .ok (.bipush 116, 2) := by decide +kernel
theorem dX11_isMagic_42 : decode cX11_isMagic 42 = .ok (.if_icmp .ne 55, 3) := by decide +kernel
theorem dX11_isMagic_45 : decode cX11_isMagic 45 = .ok (.aload_n 0, 1) := by decide +kernel
theorem dX11_isMagic_46 : decode cX11_isMagic 46 = .ok (.getfield 43, 3) := by decide +kernel
theorem dX11_isMagic_49 : decode cX11_isMagic 49 = .ok (.iload_n 1, 1) := by decide +kernel
theorem dX11_isMagic_50 : decode cX11_isMagic 50 = .ok (.sipush 260, 3) := by decide +kernel
theorem dX11_isMagic_53 : decode cX11_isMagic 53 = .ok (.iadd, 1) := by decide +kernel
theorem dX11_isMagic_54 : decode cX11_isMagic 54 = .ok (.iaload, 1) := by decide +kernel
theorem dX11_isMagic_55 : decode cX11_isMagic 55 = .ok (.bipush 97, 2) := by decide +kernel
theorem dX11_isMagic_57 : decode cX11_isMagic 57 = .ok (.if_icmp .ne 40, 3) := by decide +kernel
theorem dX11_isMagic_60 : decode cX11_isMagic 60 = .ok (.aload_n 0, 1) := by decide +kernel
theorem dX11_isMagic_61 : decode cX11_isMagic 61 = .ok (.getfield 43, 3) := by decide +kernel
theorem dX11_isMagic_64 : decode cX11_isMagic 64 = .ok (.iload_n 1, 1) := by decide +kernel
theorem dX11_isMagic_65 : decode cX11_isMagic 65 = .ok (.sipush 261, 3) := by decide +kernel
theorem dX11_isMagic_68 : decode cX11_isMagic 68 = .ok (.iadd, 1) := by decide +kernel
theorem dX11_isMagic_69 : decode cX11_isMagic 69 = .ok (.iaload, 1) := by decide +kernel
theorem dX11_isMagic_70 : decode cX11_isMagic 70 = .ok (.bipush 114, 2) := by decide +kernel
theorem dX11_isMagic_72 : decode cX11_isMagic 72 = .ok (.if_icmp .ne 25, 3) := by decide +kernel
theorem dX11_isMagic_75 : decode cX11_isMagic 75 = .ok (.iload_n 2, 1) := by decide +kernel
theorem dX11_isMagic_76 : decode cX11_isMagic 76 = .ok (.iconst 5, 1) := by decide +kernel
theorem dX11_isMagic_77 : decode cX11_isMagic 77 = .ok (.if_icmp .eq 16, 3) := by decide +kernel
theorem dX11_isMagic_80 : decode cX11_isMagic 80 = .ok (.aload_n 0, 1) := by decide +kernel
theorem dX11_isMagic_81 : decode cX11_isMagic 81 = .ok (.getfield 43, 3) := by decide +kernel
theorem dX11_isMagic_84 : decode cX11_isMagic 84 = .ok (.iload_n 1, 1) := by decide +kernel
theorem dX11_isMagic_85 : decode cX11_isMagic 85 = .ok (.sipush 262, 3) := by decide +kernel
theorem dX11_isMagic_88 : decode cX11_isMagic 88 = .ok (.iadd, 1) := by decide +kernel
theorem dX11_isMagic_89 : decode cX11_isMagic 89 = .ok (.iaload, 1) := by decide +kernel
theorem dX11_isMagic_90 : decode cX11_isMagic 90 = .ok (.ifCond .ne 7, 3) := by decide +kernel
theorem dX11_isMagic_93 : decode cX11_isMagic 93 = .ok (.iconst 1, 1) := by decide +kernel
theorem dX11_isMagic_94 : decode cX11_isMagic 94 = .ok (.goto 4, 3) := by decide +kernel
theorem dX11_isMagic_97 : decode cX11_isMagic 97 = .ok (.iconst 0, 1) := by decide +kernel
theorem dX11_isMagic_98 : decode cX11_isMagic 98 = .ok (.ireturn, 1) := by decide +kernel
theorem dX11_nameOf_0 : decode cX11_nameOf 0 = .ok (.aload_n 0, 1) := by decide +kernel
theorem dX11_nameOf_1 : decode cX11_nameOf 1 = .ok (.getfield 65, 3) := by decide +kernel
theorem dX11_nameOf_4 : decode cX11_nameOf 4 = .ok (.iconst 0, 1) := by decide +kernel
theorem dX11_nameOf_5 : decode cX11_nameOf 5 = .ok (.iaload, 1) := by decide +kernel
theorem dX11_nameOf_6 : decode cX11_nameOf 6 = .ok (.ifCond .le 23, 3) := by decide +kernel
theorem dX11_nameOf_9 : decode cX11_nameOf 9 = .ok (.aload_n 0, 1) := by decide +kernel
theorem dX11_nameOf_10 : decode cX11_nameOf 10 = .ok (.getfield 56, 3) := by decide +kernel
theorem dX11_nameOf_13 : decode cX11_nameOf 13 = .ok (.iload_n 2, 1) := by decide +kernel
theorem dX11_nameOf_14 : decode cX11_nameOf 14 = .ok (.aload_n 0, 1) := by decide +kernel
theorem dX11_nameOf_15 : decode cX11_nameOf 15 = .ok (.getfield 62, 3) := by decide +kernel
theorem dX11_nameOf_18 : decode cX11_nameOf 18 = .ok (.iconst 0, 1) := by decide +kernel
theorem dX11_nameOf_19 : decode cX11_nameOf 19 = .ok (.aload_n 0, 1) := by decide +kernel
theorem dX11_nameOf_20 : decode cX11_nameOf 20 = .ok (.getfield 65, 3) := by decide +kernel
theorem dX11_nameOf_23 : decode cX11_nameOf 23 = .ok (.iconst 0, 1) := by decide +kernel
theorem dX11_nameOf_24 : decode cX11_nameOf 24 = .ok (.iaload, 1) := by decide +kernel
theorem dX11_nameOf_25 : decode cX11_nameOf 25 = .ok (.invokestatic 315, 3) := by decide +kernel
theorem dX11_nameOf_28 : decode cX11_nameOf 28 = .ok (.ireturn, 1) := by decide +kernel
theorem dX11_nameOf_29 : decode cX11_nameOf 29 = .ok (.aload_n 0, 1) := by decide +kernel
theorem dX11_nameOf_30 : decode cX11_nameOf 30 = .ok (.getfield 65, 3) := by decide +kernel
theorem dX11_nameOf_33 : decode cX11_nameOf 33 = .ok (.iconst 1, 1) := by decide +kernel
theorem dX11_nameOf_34 : decode cX11_nameOf 34 = .ok (.iaload, 1) := by decide +kernel
theorem dX11_nameOf_35 : decode cX11_nameOf 35 = .ok (.ifCond .le 23, 3) := by decide +kernel
theorem dX11_nameOf_38 : decode cX11_nameOf 38 = .ok (.aload_n 0, 1) := by decide +kernel
theorem dX11_nameOf_39 : decode cX11_nameOf 39 = .ok (.getfield 56, 3) := by decide +kernel
theorem dX11_nameOf_42 : decode cX11_nameOf 42 = .ok (.iload_n 2, 1) := by decide +kernel
theorem dX11_nameOf_43 : decode cX11_nameOf 43 = .ok (.aload_n 0, 1) := by decide +kernel
theorem dX11_nameOf_44 : decode cX11_nameOf 44 = .ok (.getfield 62, 3) := by decide +kernel
theorem dX11_nameOf_47 : decode cX11_nameOf 47 = .ok (.iconst 1, 1) := by decide +kernel
theorem dX11_nameOf_48 : decode cX11_nameOf 48 = .ok (.aload_n 0, 1) := by decide +kernel
theorem dX11_nameOf_49 : decode cX11_nameOf 49 = .ok (.getfield 65, 3) := by decide +kernel
theorem dX11_nameOf_52 : decode cX11_nameOf 52 = .ok (.iconst 1, 1) := by decide +kernel
theorem dX11_nameOf_53 : decode cX11_nameOf 53 = .ok (.iaload, 1) := by decide +kernel
theorem dX11_nameOf_54 : decode cX11_nameOf 54 = .ok (.invokestatic 315, 3) := by decide +kernel
theorem dX11_nameOf_57 : decode cX11_nameOf 57 = .ok (.ireturn, 1) := by decide +kernel
theorem dX11_nameOf_58 : decode cX11_nameOf 58 = .ok (.aload_n 0, 1) := by decide +kernel
theorem dX11_nameOf_59 : decode cX11_nameOf 59 = .ok (.iload_n 1, 1) := by decide +kernel
theorem dX11_nameOf_60 : decode cX11_nameOf 60 = .ok (.bipush 6, 2) := by decide +kernel
theorem dX11_nameOf_62 : decode cX11_nameOf 62 = .ok (.invokevirtual 319, 3) := by decide +kernel
theorem dX11_nameOf_65 : decode cX11_nameOf 65 = .ok (.ifCond .eq 23, 3) := by decide +kernel
theorem dX11_nameOf_68 : decode cX11_nameOf 68 = .ok (.aload_n 0, 1) := by decide +kernel
theorem dX11_nameOf_69 : decode cX11_nameOf 69 = .ok (.aload_n 0, 1) := by decide +kernel
theorem dX11_nameOf_70 : decode cX11_nameOf 70 = .ok (.getfield 56, 3) := by decide +kernel
theorem dX11_nameOf_73 : decode cX11_nameOf 73 = .ok (.iload_n 2, 1) := by decide +kernel
theorem dX11_nameOf_74 : decode cX11_nameOf 74 = .ok (.iload_n 1, 1) := by decide +kernel
theorem dX11_nameOf_75 : decode cX11_nameOf 75 = .ok (.sipush 345, 3) := by decide +kernel
theorem dX11_nameOf_78 : decode cX11_nameOf 78 = .ok (.iadd, 1) := by decide +kernel
theorem dX11_nameOf_79 : decode cX11_nameOf 79 = .ok (.sipush 155, 3) := by decide +kernel
theorem dX11_nameOf_82 : decode cX11_nameOf 82 = .ok (.invokevirtual 322, 3) := by decide +kernel
theorem dX11_nameOf_85 : decode cX11_nameOf 85 = .ok (.goto 4, 3) := by decide +kernel
theorem dX11_nameOf_88 : decode cX11_nameOf 88 = .ok (.iconst 0, 1) := by decide +kernel
theorem dX11_nameOf_89 : decode cX11_nameOf 89 = .ok (.istore_n 3, 1) := by decide +kernel
theorem dX11_nameOf_90 : decode cX11_nameOf 90 = .ok (.iload_n 3, 1) := by decide +kernel
theorem dX11_nameOf_91 : decode cX11_nameOf 91 = .ok (.ifCond .le 16, 3) := by decide +kernel
theorem dX11_nameOf_94 : decode cX11_nameOf 94 = .ok (.aload_n 0, 1) := by decide +kernel
theorem dX11_nameOf_95 : decode cX11_nameOf 95 = .ok (.getfield 56, 3) := by decide +kernel
theorem dX11_nameOf_98 : decode cX11_nameOf 98 = .ok (.iload_n 2, 1) := by decide +kernel
theorem dX11_nameOf_99 : decode cX11_nameOf 99 = .ok (.iload_n 3, 1) := by decide +kernel
theorem dX11_nameOf_100 : decode cX11_nameOf 100 = .ok (.iadd, 1) := by decide +kernel
theorem dX11_nameOf_101 : decode cX11_nameOf 101 = .ok (.bipush 47, 2) := by decide +kernel
theorem dX11_nameOf_103 : decode cX11_nameOf 103 = .ok (.iastore, 1) := by decide +kernel
theorem dX11_nameOf_104 : decode cX11_nameOf 104 = .ok (.iinc 3 1, 3) := by decide +kernel
theorem dX11_nameOf_107 : decode cX11_nameOf 107 = .ok (.iload_n 3, 1) := by decide +kernel
theorem dX11_nameOf_108 : decode cX11_nameOf 108 = .ok (.aload_n 0, 1) := by decide +kernel
theorem dX11_nameOf_109 : decode cX11_nameOf 109 = .ok (.aload_n 0, 1) := by decide +kernel
theorem dX11_nameOf_110 : decode cX11_nameOf 110 = .ok (.getfield 56, 3) := by decide +kernel
theorem dX11_nameOf_113 : decode cX11_nameOf 113 = .ok (.iload_n 2, 1) := by decide +kernel
theorem dX11_nameOf_114 : decode cX11_nameOf 114 = .ok (.iload_n 3, 1) := by decide +kernel
theorem dX11_nameOf_115 : decode cX11_nameOf 115 = .ok (.iadd, 1) := by decide +kernel
theorem dX11_nameOf_116 : decode cX11_nameOf 116 = .ok (.iload_n 1, 1) := by decide +kernel
theorem dX11_nameOf_117 : decode cX11_nameOf 117 = .ok (.bipush 100, 2) := by decide +kernel
theorem dX11_nameOf_119 : decode cX11_nameOf 119 = .ok (.invokevirtual 322, 3) := by decide +kernel
theorem dX11_nameOf_122 : decode cX11_nameOf 122 = .ok (.iadd, 1) := by decide +kernel
theorem dX11_nameOf_123 : decode cX11_nameOf 123 = .ok (.ireturn, 1) := by decide +kernel
theorem dX11_entered_0 : decode cX11_entered 0 = .ok (.aload_n 0, 1) := by decide +kernel
theorem dX11_entered_1 : decode cX11_entered 1 = .ok (.getfield 237, 3) := by decide +kernel
theorem dX11_entered_4 : decode cX11_entered 4 = .ok (.bipush 40, 2) := by decide +kernel
theorem dX11_entered_6 : decode cX11_entered 6 = .ok (.if_icmp .ne 12, 3) := by decide +kernel
theorem dX11_entered_9 : decode cX11_entered 9 = .ok (.aload_n 0, 1) := by decide +kernel
theorem dX11_entered_10 : decode cX11_entered 10 = .ok (.bipush 10, 2) := by decide +kernel
theorem dX11_entered_12 : decode cX11_entered 12 = .ok (.iload_n 1, 1) := by decide +kernel
theorem dX11_entered_13 : decode cX11_entered 13 = .ok (.invokevirtual 254, 3) := by decide +kernel
theorem dX11_entered_16 : decode cX11_entered 16 = .ok (.iconst 0, 1) := by decide +kernel
