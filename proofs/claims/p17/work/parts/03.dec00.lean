theorem dX0_init_0 : decode cX0_init 0 = .ok (.aload_n 0, 1) := by decide +kernel
theorem dX0_init_1 : decode cX0_init 1 = .ok (.invokespecial 3, 3) := by decide +kernel
theorem dX0_init_4 : decode cX0_init 4 = .ok (.aload_n 0, 1) := by decide +kernel
theorem dX0_init_5 : decode cX0_init 5 = .ok (.new 9, 3) := by decide +kernel
theorem dX0_init_8 : decode cX0_init 8 = .ok (.dup, 1) := by decide +kernel
theorem dX0_init_9 : decode cX0_init 9 = .ok (.sipush 400, 3) := by decide +kernel
theorem dX0_init_12 : decode cX0_init 12 = .ok (.invokespecial 11, 3) := by decide +kernel
theorem dX0_init_15 : decode cX0_init 15 = .ok (.putfield 14, 3) := by decide +kernel
theorem dX0_init_18 : decode cX0_init 18 = .ok (.aload_n 0, 1) := by decide +kernel
theorem dX0_init_19 : decode cX0_init 19 = .ok (.new 9, 3) := by decide +kernel
theorem dX0_init_22 : decode cX0_init 22 = .ok (.dup, 1) := by decide +kernel
theorem dX0_init_23 : decode cX0_init 23 = .ok (.sipush 400, 3) := by decide +kernel
theorem dX0_init_26 : decode cX0_init 26 = .ok (.invokespecial 11, 3) := by decide +kernel
theorem dX0_init_29 : decode cX0_init 29 = .ok (.putfield 20, 3) := by decide +kernel
theorem dX0_init_32 : decode cX0_init 32 = .ok (.aload_n 0, 1) := by decide +kernel
theorem dX0_init_33 : decode cX0_init 33 = .ok (.ldc2_w 23, 3) := by decide +kernel
theorem dX0_init_36 : decode cX0_init 36 = .ok (.putfield 25, 3) := by decide +kernel
theorem dX0_init_39 : decode cX0_init 39 = .ok (.aload_n 0, 1) := by decide +kernel
theorem dX0_init_40 : decode cX0_init 40 = .ok (.ldc2_w 23, 3) := by decide +kernel
theorem dX0_init_43 : decode cX0_init 43 = .ok (.putfield 29, 3) := by decide +kernel
theorem dX0_init_46 : decode cX0_init 46 = .ok (.aload_n 0, 1) := by decide +kernel
theorem dX0_init_47 : decode cX0_init 47 = .ok (.ldc2_w 23, 3) := by decide +kernel
theorem dX0_init_50 : decode cX0_init 50 = .ok (.putfield 32, 3) := by decide +kernel
theorem dX0_init_53 : decode cX0_init 53 = .ok (.aload_n 0, 1) := by decide +kernel
theorem dX0_init_54 : decode cX0_init 54 = .ok (.iconst 0, 1) := by decide +kernel
theorem dX0_init_55 : decode cX0_init 55 = .ok (.putfield 35, 3) := by decide +kernel
theorem dX0_init_58 : decode cX0_init 58 = .ok (.aload_n 0, 1) := by decide +kernel
theorem dX0_init_59 : decode cX0_init 59 = .ok (.lconst 0, 1) := by decide +kernel
theorem dX0_init_60 : decode cX0_init 60 = .ok (.putfield 39, 3) := by decide +kernel
theorem dX0_init_63 : decode cX0_init 63 = .ok (.aload_n 0, 1) := by decide +kernel
theorem dX0_init_64 : decode cX0_init 64 = .ok (.lconst 0, 1) := by decide +kernel
theorem dX0_init_65 : decode cX0_init 65 = .ok (.putfield 42, 3) := by decide +kernel
theorem dX0_init_68 : decode cX0_init 68 = .ok (.return_, 1) := by decide +kernel
theorem dX0_forget_0 : decode cX0_forget 0 = .ok (.aload_n 0, 1) := by decide +kernel
theorem dX0_forget_1 : decode cX0_forget 1 = .ok (.getfield 14, 3) := by decide +kernel
theorem dX0_forget_4 : decode cX0_forget 4 = .ok (.invokevirtual 45, 3) := by decide +kernel
theorem dX0_forget_7 : decode cX0_forget 7 = .ok (.aload_n 0, 1) := by decide +kernel
theorem dX0_forget_8 : decode cX0_forget 8 = .ok (.getfield 20, 3) := by decide +kernel
theorem dX0_forget_11 : decode cX0_forget 11 = .ok (.invokevirtual 45, 3) := by decide +kernel
theorem dX0_forget_14 : decode cX0_forget 14 = .ok (.aload_n 0, 1) := by decide +kernel
theorem dX0_forget_15 : decode cX0_forget 15 = .ok (.ldc2_w 23, 3) := by decide +kernel
theorem dX0_forget_18 : decode cX0_forget 18 = .ok (.putfield 25, 3) := by decide +kernel
theorem dX0_forget_21 : decode cX0_forget 21 = .ok (.aload_n 0, 1) := by decide +kernel
theorem dX0_forget_22 : decode cX0_forget 22 = .ok (.ldc2_w 23, 3) := by decide +kernel
theorem dX0_forget_25 : decode cX0_forget 25 = .ok (.putfield 29, 3) := by decide +kernel
theorem dX0_forget_28 : decode cX0_forget 28 = .ok (.aload_n 0, 1) := by decide +kernel
theorem dX0_forget_29 : decode cX0_forget 29 = .ok (.ldc2_w 23, 3) := by decide +kernel
theorem dX0_forget_32 : decode cX0_forget 32 = .ok (.putfield 32, 3) := by decide +kernel
theorem dX0_forget_35 : decode cX0_forget 35 = .ok (.aload_n 0, 1) := by decide +kernel
theorem dX0_forget_36 : decode cX0_forget 36 = .ok (.iconst 0, 1) := by decide +kernel
theorem dX0_forget_37 : decode cX0_forget 37 = .ok (.putfield 35, 3) := by decide +kernel
theorem dX0_forget_40 : decode cX0_forget 40 = .ok (.return_, 1) := by decide +kernel
theorem dX0_tellsSomething_0 : decode cX0_tellsSomething 0 = .ok (.aload_n 0, 1) := by decide +kernel
theorem dX0_tellsSomething_1 : decode cX0_tellsSomething 1 = .ok (.getfield 14, 3) := by decide +kernel
theorem dX0_tellsSomething_4 : decode cX0_tellsSomething 4 = .ok (.invokevirtual 48, 3) := by decide +kernel
theorem dX0_tellsSomething_7 : decode cX0_tellsSomething 7 = .ok (.ifCond .gt 47, 3) := by decide +kernel
theorem dX0_tellsSomething_10 : decode cX0_tellsSomething 10 = .ok (.aload_n 0, 1) := by decide +kernel
theorem dX0_tellsSomething_11 : decode cX0_tellsSomething 11 = .ok (.getfield 20, 3) := by decide +kernel
theorem dX0_tellsSomething_14 : decode cX0_tellsSomething 14 = .ok (.invokevirtual 48, 3) := by decide +kernel
theorem dX0_tellsSomething_17 : decode cX0_tellsSomething 17 = .ok (.ifCond .gt 37, 3) := by decide +kernel
theorem dX0_tellsSomething_20 : decode cX0_tellsSomething 20 = .ok (.aload_n 0, 1) := by decide +kernel
theorem dX0_tellsSomething_21 : decode cX0_tellsSomething 21 = .ok (.getfield 25, 3) := by decide +kernel
theorem dX0_tellsSomething_24 : decode cX0_tellsSomething 24 = .ok (.lconst 0, 1) := by decide +kernel
theorem dX0_tellsSomething_25 : decode cX0_tellsSomething 25 = .ok (.lcmp, 1) := by decide +kernel
theorem dX0_tellsSomething_26 : decode cX0_tellsSomething 26 = .ok (.ifCond .ge 28, 3) := by decide +kernel
theorem dX0_tellsSomething_29 : decode cX0_tellsSomething 29 = .ok (.aload_n 0, 1) := by decide +kernel
theorem dX0_tellsSomething_30 : decode cX0_tellsSomething 30 = .ok (.getfield 29, 3) := by decide +kernel
theorem dX0_tellsSomething_33 : decode cX0_tellsSomething 33 = .ok (.lconst 0, 1) := by decide +kernel
theorem dX0_tellsSomething_34 : decode cX0_tellsSomething 34 = .ok (.lcmp, 1) := by decide +kernel
theorem dX0_tellsSomething_35 : decode cX0_tellsSomething 35 = .ok (.ifCond .ge 19, 3) := by decide +kernel
theorem dX0_tellsSomething_38 : decode cX0_tellsSomething 38 = .ok (.aload_n 0, 1) := by decide +kernel
theorem dX0_tellsSomething_39 : decode cX0_tellsSomething 39 = .ok (.getfield 32, 3) := by decide +kernel
theorem dX0_tellsSomething_42 : decode cX0_tellsSomething 42 = .ok (.lconst 0, 1) := by decide +kernel
theorem dX0_tellsSomething_43 : decode cX0_tellsSomething 43 = .ok (.lcmp, 1) := by decide +kernel
theorem dX0_tellsSomething_44 : decode cX0_tellsSomething 44 = .ok (.ifCond .ge 10, 3) := by decide +kernel
theorem dX0_tellsSomething_47 : decode cX0_tellsSomething 47 = .ok (.aload_n 0, 1) := by decide +kernel
theorem dX0_tellsSomething_48 : decode cX0_tellsSomething 48 = .ok (.getfield 35, 3) := by decide +kernel
theorem dX0_tellsSomething_51 : decode cX0_tellsSomething 51 = .ok (.ifCond .eq 7, 3) := by decide +kernel
theorem dX0_tellsSomething_54 : decode cX0_tellsSomething 54 = .ok (.iconst 1, 1) := by decide +kernel
theorem dX0_tellsSomething_55 : decode cX0_tellsSomething 55 = .ok (.goto 4, 3) := by decide +kernel
theorem dX0_tellsSomething_58 : decode cX0_tellsSomething 58 = .ok (.iconst 0, 1) := by decide +kernel
theorem dX0_tellsSomething_59 : decode cX0_tellsSomething 59 = .ok (.ireturn, 1) := by decide +kernel
theorem dX0_takeTime_0 : decode cX0_takeTime 0 = .ok (.aload_n 1, 1) := by decide +kernel
theorem dX0_takeTime_1 : decode cX0_takeTime 1 = .ok (.iload_n 2, 1) := by decide +kernel
theorem dX0_takeTime_2 : decode cX0_takeTime 2 = .ok (.invokevirtual 52, 3) := by decide +kernel
theorem dX0_takeTime_5 : decode cX0_takeTime 5 = .ok (.bipush 45, 2) := by decide +kernel
theorem dX0_takeTime_7 : decode cX0_takeTime 7 = .ok (.if_icmp .ne 12, 3) := by decide +kernel
theorem dX0_takeTime_10 : decode cX0_takeTime 10 = .ok (.iload_n 2, 1) := by decide +kernel
theorem dX0_takeTime_11 : decode cX0_takeTime 11 = .ok (.iload_n 3, 1) := by decide +kernel
theorem dX0_takeTime_12 : decode cX0_takeTime 12 = .ok (.if_icmp .ge 7, 3) := by decide +kernel
theorem dX0_takeTime_15 : decode cX0_takeTime 15 = .ok (.iconst 1, 1) := by decide +kernel
theorem dX0_takeTime_16 : decode cX0_takeTime 16 = .ok (.goto 4, 3) := by decide +kernel
theorem dX0_takeTime_19 : decode cX0_takeTime 19 = .ok (.iconst 0, 1) := by decide +kernel
theorem dX0_takeTime_20 : decode cX0_takeTime 20 = .ok (.istore 4, 2) := by decide +kernel
theorem dX0_takeTime_22 : decode cX0_takeTime 22 = .ok (.iload 4, 2) := by decide +kernel
theorem dX0_takeTime_24 : decode cX0_takeTime 24 = .ok (.ifCond .eq 9, 3) := by decide +kernel
theorem dX0_takeTime_27 : decode cX0_takeTime 27 = .ok (.iload_n 2, 1) := by decide +kernel
theorem dX0_takeTime_28 : decode cX0_takeTime 28 = .ok (.iconst 1, 1) := by decide +kernel
theorem dX0_takeTime_29 : decode cX0_takeTime 29 = .ok (.iadd, 1) := by decide +kernel
theorem dX0_takeTime_30 : decode cX0_takeTime 30 = .ok (.goto 4, 3) := by decide +kernel
theorem dX0_takeTime_33 : decode cX0_takeTime 33 = .ok (.iload_n 2, 1) := by decide +kernel
theorem dX0_takeTime_34 : decode cX0_takeTime 34 = .ok (.istore 5, 2) := by decide +kernel
theorem dX0_takeTime_36 : decode cX0_takeTime 36 = .ok (.aload_n 1, 1) := by decide +kernel
theorem dX0_takeTime_37 : decode cX0_takeTime 37 = .ok (.bipush 46, 2) := by decide +kernel
theorem dX0_takeTime_39 : decode cX0_takeTime 39 = .ok (.iload 5, 2) := by decide +kernel
theorem dX0_takeTime_41 : decode cX0_takeTime 41 = .ok (.iload_n 3, 1) := by decide +kernel
theorem dX0_takeTime_42 : decode cX0_takeTime 42 = .ok (.invokevirtual 56, 3) := by decide +kernel
theorem dX0_takeTime_45 : decode cX0_takeTime 45 = .ok (.istore 6, 2) := by decide +kernel
theorem dX0_takeTime_47 : decode cX0_takeTime 47 = .ok (.aload_n 1, 1) := by decide +kernel
theorem dX0_takeTime_48 : decode cX0_takeTime 48 = .ok (.iload 5, 2) := by decide +kernel
theorem dX0_takeTime_50 : decode cX0_takeTime 50 = .ok (.iload 6, 2) := by decide +kernel
theorem dX0_takeTime_52 : decode cX0_takeTime 52 = .ok (.bipush 16, 2) := by decide +kernel
theorem dX0_takeTime_54 : decode cX0_takeTime 54 = .ok (.invokevirtual 60, 3) := by decide +kernel
theorem dX0_takeTime_57 : decode cX0_takeTime 57 = .ok (.lstore 7, 2) := by decide +kernel
theorem dX0_takeTime_59 : decode cX0_takeTime 59 = .ok (.iload 6, 2) := by decide +kernel
theorem dX0_takeTime_61 : decode cX0_takeTime 61 = .ok (.iload_n 3, 1) := by decide +kernel
theorem dX0_takeTime_62 : decode cX0_takeTime 62 = .ok (.if_icmp .ge 17, 3) := by decide +kernel
theorem dX0_takeTime_65 : decode cX0_takeTime 65 = .ok (.aload_n 1, 1) := by decide +kernel
theorem dX0_takeTime_66 : decode cX0_takeTime 66 = .ok (.iload 6, 2) := by decide +kernel
theorem dX0_takeTime_68 : decode cX0_takeTime 68 = .ok (.iconst 1, 1) := by decide +kernel
theorem dX0_takeTime_69 : decode cX0_takeTime 69 = .ok (.iadd, 1) := by decide +kernel
theorem dX0_takeTime_70 : decode cX0_takeTime 70 = .ok (.iload_n 3, 1) := by decide +kernel
theorem dX0_takeTime_71 : decode cX0_takeTime 71 = .ok (.bipush 9, 2) := by decide +kernel
theorem dX0_takeTime_73 : decode cX0_takeTime 73 = .ok (.invokevirtual 60, 3) := by decide +kernel
theorem dX0_takeTime_76 : decode cX0_takeTime 76 = .ok (.goto 4, 3) := by decide +kernel
theorem dX0_takeTime_79 : decode cX0_takeTime 79 = .ok (.lconst 0, 1) := by decide +kernel
theorem dX0_takeTime_80 : decode cX0_takeTime 80 = .ok (.lstore 9, 2) := by decide +kernel
theorem dX0_takeTime_82 : decode cX0_takeTime 82 = .ok (.lload 7, 2) := by decide +kernel
theorem dX0_takeTime_84 : decode cX0_takeTime 84 = .ok (.lconst 0, 1) := by decide +kernel
theorem dX0_takeTime_85 : decode cX0_takeTime 85 = .ok (.lcmp, 1) := by decide +kernel
theorem dX0_takeTime_86 : decode cX0_takeTime 86 = .ok (.ifCond .lt 10, 3) := by decide +kernel
theorem dX0_takeTime_89 : decode cX0_takeTime 89 = .ok (.lload 9, 2) := by decide +kernel
theorem dX0_takeTime_91 : decode cX0_takeTime 91 = .ok (.lconst 0, 1) := by decide +kernel
theorem dX0_takeTime_92 : decode cX0_takeTime 92 = .ok (.lcmp, 1) := by decide +kernel
theorem dX0_takeTime_93 : decode cX0_takeTime 93 = .ok (.ifCond .ge 5, 3) := by decide +kernel
theorem dX0_takeTime_96 : decode cX0_takeTime 96 = .ok (.iconst 0, 1) := by decide +kernel
theorem dX0_takeTime_97 : decode cX0_takeTime 97 = .ok (.ireturn, 1) := by decide +kernel
theorem dX0_takeTime_98 : decode cX0_takeTime 98 = .ok (.iload_n 3, 1) := by decide +kernel
theorem dX0_takeTime_99 : decode cX0_takeTime 99 = .ok (.iload 6, 2) := by decide +kernel
theorem dX0_takeTime_101 : decode cX0_takeTime 101 = .ok (.isub, 1) := by decide +kernel
theorem dX0_takeTime_102 : decode cX0_takeTime 102 = .ok (.iconst 1, 1) := by decide +kernel
theorem dX0_takeTime_103 : decode cX0_takeTime 103 = .ok (.isub, 1) := by decide +kernel
theorem dX0_takeTime_104 : decode cX0_takeTime 104 = .ok (.istore 11, 2) := by decide +kernel
theorem dX0_takeTime_106 : decode cX0_takeTime 106 = .ok (.iload 6, 2) := by decide +kernel
theorem dX0_takeTime_108 : decode cX0_takeTime 108 = .ok (.iload_n 3, 1) := by decide +kernel
theorem dX0_takeTime_109 : decode cX0_takeTime 109 = .ok (.if_icmp .ge 24, 3) := by decide +kernel
theorem dX0_takeTime_112 : decode cX0_takeTime 112 = .ok (.iload 11, 2) := by decide +kernel
theorem dX0_takeTime_114 : decode cX0_takeTime 114 = .ok (.bipush 9, 2) := by decide +kernel
theorem dX0_takeTime_116 : decode cX0_takeTime 116 = .ok (.if_icmp .ge 17, 3) := by decide +kernel
theorem dX0_takeTime_119 : decode cX0_takeTime 119 = .ok (.lload 9, 2) := by decide +kernel
theorem dX0_takeTime_121 : decode cX0_takeTime 121 = .ok (.ldc2_w 64, 3) := by decide +kernel
theorem dX0_takeTime_124 : decode cX0_takeTime 124 = .ok (.lmul, 1) := by decide +kernel
theorem dX0_takeTime_125 : decode cX0_takeTime 125 = .ok (.lstore 9, 2) := by decide +kernel
theorem dX0_takeTime_127 : decode cX0_takeTime 127 = .ok (.iinc 11 1, 3) := by decide +kernel
theorem dX0_takeTime_130 : decode cX0_takeTime 130 = .ok (.goto (-24), 3) := by decide +kernel
theorem dX0_takeTime_133 : decode cX0_takeTime 133 = .ok (.aload_n 0, 1) := by decide +kernel
theorem dX0_takeTime_134 : decode cX0_takeTime 134 = .ok (.iconst 1, 1) := by decide +kernel
theorem dX0_takeTime_135 : decode cX0_takeTime 135 = .ok (.putfield 35, 3) := by decide +kernel
theorem dX0_takeTime_138 : decode cX0_takeTime 138 = .ok (.iload 4, 2) := by decide +kernel
theorem dX0_takeTime_140 : decode cX0_takeTime 140 = .ok (.ifCond .eq 14, 3) := by decide +kernel
theorem dX0_takeTime_143 : decode cX0_takeTime 143 = .ok (.lload 9, 2) := by decide +kernel
theorem dX0_takeTime_145 : decode cX0_takeTime 145 = .ok (.lconst 0, 1) := by decide +kernel
theorem dX0_takeTime_146 : decode cX0_takeTime 146 = .ok (.lcmp, 1) := by decide +kernel
theorem dX0_takeTime_147 : decode cX0_takeTime 147 = .ok (.ifCond .le 7, 3) := by decide +kernel
theorem dX0_takeTime_150 : decode cX0_takeTime 150 = .ok (.iconst 1, 1) := by decide +kernel
theorem dX0_takeTime_151 : decode cX0_takeTime 151 = .ok (.goto 4, 3) := by decide +kernel
theorem dX0_takeTime_154 : decode cX0_takeTime 154 = .ok (.iconst 0, 1) := by decide +kernel
theorem dX0_takeTime_155 : decode cX0_takeTime 155 = .ok (.istore 11, 2) := by decide +kernel
theorem dX0_takeTime_157 : decode cX0_takeTime 157 = .ok (.aload_n 0, 1) := by decide +kernel
theorem dX0_takeTime_158 : decode cX0_takeTime 158 = .ok (.iload 11, 2) := by decide +kernel
theorem dX0_takeTime_160 : decode cX0_takeTime 160 = .ok (.ifCond .eq 11, 3) := by decide +kernel
theorem dX0_takeTime_163 : decode cX0_takeTime 163 = .ok (.lload 7, 2) := by decide +kernel
theorem dX0_takeTime_165 : decode cX0_takeTime 165 = .ok (.lneg, 1) := by decide +kernel
theorem dX0_takeTime_166 : decode cX0_takeTime 166 = .ok (.lconst 1, 1) := by decide +kernel
theorem dX0_takeTime_167 : decode cX0_takeTime 167 = .ok (.lsub, 1) := by decide +kernel
theorem dX0_takeTime_168 : decode cX0_takeTime 168 = .ok (.goto 16, 3) := by decide +kernel
theorem dX0_takeTime_171 : decode cX0_takeTime 171 = .ok (.iload 4, 2) := by decide +kernel
theorem dX0_takeTime_173 : decode cX0_takeTime 173 = .ok (.ifCond .eq 9, 3) := by decide +kernel
theorem dX0_takeTime_176 : decode cX0_takeTime 176 = .ok (.lload 7, 2) := by decide +kernel
theorem dX0_takeTime_178 : decode cX0_takeTime 178 = .ok (.lneg, 1) := by decide +kernel
theorem dX0_takeTime_179 : decode cX0_takeTime 179 = .ok (.goto 5, 3) := by decide +kernel
theorem dX0_takeTime_182 : decode cX0_takeTime 182 = .ok (.lload 7, 2) := by decide +kernel
theorem dX0_takeTime_184 : decode cX0_takeTime 184 = .ok (.putfield 39, 3) := by decide +kernel
theorem dX0_takeTime_187 : decode cX0_takeTime 187 = .ok (.aload_n 0, 1) := by decide +kernel
theorem dX0_takeTime_188 : decode cX0_takeTime 188 = .ok (.iload 11, 2) := by decide +kernel
theorem dX0_takeTime_190 : decode cX0_takeTime 190 = .ok (.ifCond .eq 12, 3) := by decide +kernel
theorem dX0_takeTime_193 : decode cX0_takeTime 193 = .ok (.ldc2_w 66, 3) := by decide +kernel
theorem dX0_takeTime_196 : decode cX0_takeTime 196 = .ok (.lload 9, 2) := by decide +kernel
theorem dX0_takeTime_198 : decode cX0_takeTime 198 = .ok (.lsub, 1) := by decide +kernel
theorem dX0_takeTime_199 : decode cX0_takeTime 199 = .ok (.goto 5, 3) := by decide +kernel
theorem dX0_takeTime_202 : decode cX0_takeTime 202 = .ok (.lload 9, 2) := by decide +kernel
theorem dX0_takeTime_204 : decode cX0_takeTime 204 = .ok (.putfield 42, 3) := by decide +kernel
theorem dX0_takeTime_207 : decode cX0_takeTime 207 = .ok (.iconst 1, 1) := by decide +kernel
theorem dX0_takeTime_208 : decode cX0_takeTime 208 = .ok (.ireturn, 1) := by decide +kernel
theorem dX1_init_0 : decode cX1_init 0 = .ok (.aload_n 0, 1) := by decide +kernel
theorem dX1_init_1 : decode cX1_init 1 = .ok (.invokespecial 3, 3) := by decide +kernel
theorem dX1_init_4 : decode cX1_init 4 = .ok (.aload_n 0, 1) := by decide +kernel
theorem dX1_init_5 : decode cX1_init 5 = .ok (.bipush 40, 2) := by decide +kernel
theorem dX1_init_7 : decode cX1_init 7 = .ok (.anewarray 9, 3) := by decide +kernel
theorem dX1_init_10 : decode cX1_init 10 = .ok (.putfield 11, 3) := by decide +kernel
theorem dX1_init_13 : decode cX1_init 13 = .ok (.aload_n 0, 1) := by decide +kernel
theorem dX1_init_14 : decode cX1_init 14 = .ok (.new 17, 3) := by decide +kernel
theorem dX1_init_17 : decode cX1_init 17 = .ok (.dup, 1) := by decide +kernel
theorem dX1_init_18 : decode cX1_init 18 = .ok (.invokespecial 19, 3) := by decide +kernel
theorem dX1_init_21 : decode cX1_init 21 = .ok (.putfield 20, 3) := by decide +kernel
theorem dX1_init_24 : decode cX1_init 24 = .ok (.aload_n 0, 1) := by decide +kernel
theorem dX1_init_25 : decode cX1_init 25 = .ok (.new 17, 3) := by decide +kernel
theorem dX1_init_28 : decode cX1_init 28 = .ok (.dup, 1) := by decide +kernel
theorem dX1_init_29 : decode cX1_init 29 = .ok (.invokespecial 19, 3) := by decide +kernel
theorem dX1_init_32 : decode cX1_init 32 = .ok (.putfield 24, 3) := by decide +kernel
theorem dX1_init_35 : decode cX1_init 35 = .ok (.aload_n 0, 1) := by decide +kernel
theorem dX1_init_36 : decode cX1_init 36 = .ok (.new 27, 3) := by decide +kernel
theorem dX1_init_39 : decode cX1_init 39 = .ok (.dup, 1) := by decide +kernel
theorem dX1_init_40 : decode cX1_init 40 = .ok (.invokespecial 29, 3) := by decide +kernel
theorem dX1_init_43 : decode cX1_init 43 = .ok (.putfield 30, 3) := by decide +kernel
theorem dX1_init_46 : decode cX1_init 46 = .ok (.aload_n 0, 1) := by decide +kernel
theorem dX1_init_47 : decode cX1_init 47 = .ok (.iconst 0, 1) := by decide +kernel
theorem dX1_init_48 : decode cX1_init 48 = .ok (.putfield 34, 3) := by decide +kernel
theorem dX1_init_51 : decode cX1_init 51 = .ok (.aload_n 0, 1) := by decide +kernel
theorem dX1_init_52 : decode cX1_init 52 = .ok (.iconst 0, 1) := by decide +kernel
theorem dX1_init_53 : decode cX1_init 53 = .ok (.putfield 38, 3) := by decide +kernel
theorem dX1_init_56 : decode cX1_init 56 = .ok (.aload_n 0, 1) := by decide +kernel
theorem dX1_init_57 : decode cX1_init 57 = .ok (.aload_n 1, 1) := by decide +kernel
theorem dX1_init_58 : decode cX1_init 58 = .ok (.putfield 41, 3) := by decide +kernel
theorem dX1_init_61 : decode cX1_init 61 = .ok (.aload_n 0, 1) := by decide +kernel
theorem dX1_init_62 : decode cX1_init 62 = .ok (.new 45, 3) := by decide +kernel
theorem dX1_init_65 : decode cX1_init 65 = .ok (.dup, 1) := by decide +kernel
theorem dX1_init_66 : decode cX1_init 66 = .ok (.aload_n 1, 1) := by decide +kernel
theorem dX1_init_67 : decode cX1_init 67 = .ok (.invokespecial 47, 3) := by decide +kernel
theorem dX1_init_70 : decode cX1_init 70 = .ok (.putfield 50, 3) := by decide +kernel
theorem dX1_init_73 : decode cX1_init 73 = .ok (.aload_n 0, 1) := by decide +kernel
theorem dX1_init_74 : decode cX1_init 74 = .ok (.new 54, 3) := by decide +kernel
theorem dX1_init_77 : decode cX1_init 77 = .ok (.dup, 1) := by decide +kernel
theorem dX1_init_78 : decode cX1_init 78 = .ok (.aload_n 1, 1) := by decide +kernel
theorem dX1_init_79 : decode cX1_init 79 = .ok (.aload_n 0, 1) := by decide +kernel
theorem dX1_init_80 : decode cX1_init 80 = .ok (.getfield 30, 3) := by decide +kernel
theorem dX1_init_83 : decode cX1_init 83 = .ok (.invokespecial 56, 3) := by decide +kernel
theorem dX1_init_86 : decode cX1_init 86 = .ok (.putfield 59, 3) := by decide +kernel
theorem dX1_init_89 : decode cX1_init 89 = .ok (.iconst 0, 1) := by decide +kernel
theorem dX1_init_90 : decode cX1_init 90 = .ok (.istore_n 2, 1) := by decide +kernel
theorem dX1_init_91 : decode cX1_init 91 = .ok (.iload_n 2, 1) := by decide +kernel
theorem dX1_init_92 : decode cX1_init 92 = .ok (.aload_n 0, 1) := by decide +kernel
theorem dX1_init_93 : decode cX1_init 93 = .ok (.getfield 11, 3) := by decide +kernel
theorem dX1_init_96 : decode cX1_init 96 = .ok (.arraylength, 1) := by decide +kernel
theorem dX1_init_97 : decode cX1_init 97 = .ok (.if_icmp .ge 22, 3) := by decide +kernel
theorem dX1_init_100 : decode cX1_init 100 = .ok (.aload_n 0, 1) := by decide +kernel
theorem dX1_init_101 : decode cX1_init 101 = .ok (.getfield 11, 3) := by decide +kernel
theorem dX1_init_104 : decode cX1_init 104 = .ok (.iload_n 2, 1) := by decide +kernel
theorem dX1_init_105 : decode cX1_init 105 = .ok (.new 9, 3) := by decide +kernel
theorem dX1_init_108 : decode cX1_init 108 = .ok (.dup, 1) := by decide +kernel
theorem dX1_init_109 : decode cX1_init 109 = .ok (.invokespecial 63, 3) := by decide +kernel
theorem dX1_init_112 : decode cX1_init 112 = .ok (.aastore, 1) := by decide +kernel
theorem dX1_init_113 : decode cX1_init 113 = .ok (.iinc 2 1, 3) := by decide +kernel
theorem dX1_init_116 : decode cX1_init 116 = .ok (.goto (-25), 3) := by decide +kernel
theorem dX1_init_119 : decode cX1_init 119 = .ok (.return_, 1) := by decide +kernel
theorem dX1_at_0 : decode cX1_at 0 = .ok (.iload_n 1, 1) := by decide +kernel
theorem dX1_at_1 : decode cX1_at 1 = .ok (.ifCond .lt 29, 3) := by decide +kernel
theorem dX1_at_4 : decode cX1_at 4 = .ok (.iload_n 1, 1) := by decide +kernel
theorem dX1_at_5 : decode cX1_at 5 = .ok (.aload_n 0, 1) := by decide +kernel
theorem dX1_at_6 : decode cX1_at 6 = .ok (.getfield 34, 3) := by decide +kernel
theorem dX1_at_9 : decode cX1_at 9 = .ok (.if_icmp .ge 21, 3) := by decide +kernel
theorem dX1_at_12 : decode cX1_at 12 = .ok (.iload_n 1, 1) := by decide +kernel
theorem dX1_at_13 : decode cX1_at 13 = .ok (.aload_n 0, 1) := by decide +kernel
theorem dX1_at_14 : decode cX1_at 14 = .ok (.getfield 11, 3) := by decide +kernel
theorem dX1_at_17 : decode cX1_at 17 = .ok (.arraylength, 1) := by decide +kernel
theorem dX1_at_18 : decode cX1_at 18 = .ok (.if_icmp .ge 12, 3) := by decide +kernel
theorem dX1_at_21 : decode cX1_at 21 = .ok (.aload_n 0, 1) := by decide +kernel
theorem dX1_at_22 : decode cX1_at 22 = .ok (.getfield 11, 3) := by decide +kernel
theorem dX1_at_25 : decode cX1_at 25 = .ok (.iload_n 1, 1) := by decide +kernel
theorem dX1_at_26 : decode cX1_at 26 = .ok (.aaload, 1) := by decide +kernel
theorem dX1_at_27 : decode cX1_at 27 = .ok (.goto 4, 3) := by decide +kernel
theorem dX1_at_30 : decode cX1_at 30 = .ok (.aconst_null, 1) := by decide +kernel
theorem dX1_at_31 : decode cX1_at 31 = .ok (.areturn, 1) := by decide +kernel
theorem dX1_run_0 : decode cX1_run 0 = .ok (.aload_n 0, 1) := by decide +kernel
theorem dX1_run_1 : decode cX1_run 1 = .ok (.getfield 30, 3) := by decide +kernel
theorem dX1_run_4 : decode cX1_run 4 = .ok (.invokevirtual 64, 3) := by decide +kernel
theorem dX1_run_7 : decode cX1_run 7 = .ok (.aload_n 0, 1) := by decide +kernel
theorem dX1_run_8 : decode cX1_run 8 = .ok (.getfield 20, 3) := by decide +kernel
theorem dX1_run_11 : decode cX1_run 11 = .ok (.invokevirtual 67, 3) := by decide +kernel
theorem dX1_run_14 : decode cX1_run 14 = .ok (.aload_n 0, 1) := by decide +kernel
theorem dX1_run_15 : decode cX1_run 15 = .ok (.getfield 24, 3) := by decide +kernel
theorem dX1_run_18 : decode cX1_run 18 = .ok (.invokevirtual 67, 3) := by decide +kernel
theorem dX1_run_21 : decode cX1_run 21 = .ok (.aload_n 0, 1) := by decide +kernel
theorem dX1_run_22 : decode cX1_run 22 = .ok (.iconst 0, 1) := by decide +kernel
theorem dX1_run_23 : decode cX1_run 23 = .ok (.putfield 34, 3) := by decide +kernel
theorem dX1_run_26 : decode cX1_run 26 = .ok (.aload_n 0, 1) := by decide +kernel
theorem dX1_run_27 : decode cX1_run 27 = .ok (.iconst 0, 1) := by decide +kernel
theorem dX1_run_28 : decode cX1_run 28 = .ok (.putfield 38, 3) := by decide +kernel
theorem dX1_run_31 : decode cX1_run 31 = .ok (.iconst 0, 1) := by decide +kernel
theorem dX1_run_32 : decode cX1_run 32 = .ok (.istore_n 2, 1) := by decide +kernel
theorem dX1_run_33 : decode cX1_run 33 = .ok (.iconst 0, 1) := by decide +kernel
theorem dX1_run_34 : decode cX1_run 34 = .ok (.istore_n 3, 1) := by decide +kernel
theorem dX1_run_35 : decode cX1_run 35 = .ok (.iload_n 3, 1) := by decide +kernel
theorem dX1_run_36 : decode cX1_run 36 = .ok (.bipush 64, 2) := by decide +kernel
theorem dX1_run_38 : decode cX1_run 38 = .ok (.if_icmp .gt 102, 3) := by decide +kernel
theorem dX1_run_41 : decode cX1_run 41 = .ok (.iload_n 2, 1) := by decide +kernel
theorem dX1_run_42 : decode cX1_run 42 = .ok (.ifCond .lt 98, 3) := by decide +kernel
theorem dX1_run_45 : decode cX1_run 45 = .ok (.aload_n 0, 1) := by decide +kernel
theorem dX1_run_46 : decode cX1_run 46 = .ok (.getfield 41, 3) := by decide +kernel
theorem dX1_run_49 : decode cX1_run 49 = .ok (.invokevirtual 68, 3) := by decide +kernel
theorem dX1_run_52 : decode cX1_run 52 = .ok (.iload_n 2, 1) := by decide +kernel
theorem dX1_run_53 : decode cX1_run 53 = .ok (.isub, 1) := by decide +kernel
theorem dX1_run_54 : decode cX1_run 54 = .ok (.istore 4, 2) := by decide +kernel
theorem dX1_run_56 : decode cX1_run 56 = .ok (.iload 4, 2) := by decide +kernel
theorem dX1_run_58 : decode cX1_run 58 = .ok (.ifCond .ne 31, 3) := by decide +kernel
theorem dX1_run_61 : decode cX1_run 61 = .ok (.aload_n 0, 1) := by decide +kernel
theorem dX1_run_62 : decode cX1_run 62 = .ok (.getfield 30, 3) := by decide +kernel
theorem dX1_run_65 : decode cX1_run 65 = .ok (.aload_n 0, 1) := by decide +kernel
theorem dX1_run_66 : decode cX1_run 66 = .ok (.getfield 20, 3) := by decide +kernel
theorem dX1_run_69 : decode cX1_run 69 = .ok (.invokevirtual 74, 3) := by decide +kernel
theorem dX1_run_72 : decode cX1_run 72 = .ok (.ifCond .eq 8, 3) := by decide +kernel
theorem dX1_run_75 : decode cX1_run 75 = .ok (.bipush 12, 2) := by decide +kernel
theorem dX1_run_77 : decode cX1_run 77 = .ok (.goto 4, 3) := by decide +kernel
theorem dX1_run_80 : decode cX1_run 80 = .ok (.iconst 1, 1) := by decide +kernel
theorem dX1_run_81 : decode cX1_run 81 = .ok (.iload_n 2, 1) := by decide +kernel
theorem dX1_run_82 : decode cX1_run 82 = .ok (.invokevirtual 78, 3) := by decide +kernel
theorem dX1_run_85 : decode cX1_run 85 = .ok (.istore_n 2, 1) := by decide +kernel
theorem dX1_run_86 : decode cX1_run 86 = .ok (.goto 48, 3) := by decide +kernel
theorem dX1_run_89 : decode cX1_run 89 = .ok (.iload 4, 2) := by decide +kernel
theorem dX1_run_91 : decode cX1_run 91 = .ok (.sipush 512, 3) := by decide +kernel
theorem dX1_run_94 : decode cX1_run 94 = .ok (.if_icmp .ge 16, 3) := by decide +kernel
theorem dX1_run_97 : decode cX1_run 97 = .ok (.aload_n 0, 1) := by decide +kernel
theorem dX1_run_98 : decode cX1_run 98 = .ok (.getfield 30, 3) := by decide +kernel
theorem dX1_run_101 : decode cX1_run 101 = .ok (.iconst 2, 1) := by decide +kernel
theorem dX1_run_102 : decode cX1_run 102 = .ok (.iload_n 2, 1) := by decide +kernel
theorem dX1_run_103 : decode cX1_run 103 = .ok (.invokevirtual 78, 3) := by decide +kernel
theorem dX1_run_106 : decode cX1_run 106 = .ok (.istore_n 2, 1) := by decide +kernel
theorem dX1_run_107 : decode cX1_run 107 = .ok (.goto 27, 3) := by decide +kernel
theorem dX1_run_110 : decode cX1_run 110 = .ok (.aload_n 0, 1) := by decide +kernel
theorem dX1_run_111 : decode cX1_run 111 = .ok (.iload_n 2, 1) := by decide +kernel
theorem dX1_run_112 : decode cX1_run 112 = .ok (.invokevirtual 82, 3) := by decide +kernel
theorem dX1_run_115 : decode cX1_run 115 = .ok (.ifCond .eq 13, 3) := by decide +kernel
theorem dX1_run_118 : decode cX1_run 118 = .ok (.aload_n 0, 1) := by decide +kernel
theorem dX1_run_119 : decode cX1_run 119 = .ok (.iload_n 2, 1) := by decide +kernel
theorem dX1_run_120 : decode cX1_run 120 = .ok (.iload_n 1, 1) := by decide +kernel
theorem dX1_run_121 : decode cX1_run 121 = .ok (.invokevirtual 86, 3) := by decide +kernel
theorem dX1_run_124 : decode cX1_run 124 = .ok (.istore_n 2, 1) := by decide +kernel
theorem dX1_run_125 : decode cX1_run 125 = .ok (.goto 9, 3) := by decide +kernel
theorem dX1_run_128 : decode cX1_run 128 = .ok (.aload_n 0, 1) := by decide +kernel
theorem dX1_run_129 : decode cX1_run 129 = .ok (.iload_n 2, 1) := by decide +kernel
theorem dX1_run_130 : decode cX1_run 130 = .ok (.invokevirtual 90, 3) := by decide +kernel
theorem dX1_run_133 : decode cX1_run 133 = .ok (.istore_n 2, 1) := by decide +kernel
theorem dX1_run_134 : decode cX1_run 134 = .ok (.iinc 3 1, 3) := by decide +kernel
theorem dX1_run_137 : decode cX1_run 137 = .ok (.goto (-102), 3) := by decide +kernel
theorem dX1_run_140 : decode cX1_run 140 = .ok (.aload_n 0, 1) := by decide +kernel
theorem dX1_run_141 : decode cX1_run 141 = .ok (.getfield 34, 3) := by decide +kernel
theorem dX1_run_144 : decode cX1_run 144 = .ok (.ireturn, 1) := by decide +kernel
theorem dX1_isBlank_0 : decode cX1_isBlank 0 = .ok (.aload_n 0, 1) := by decide +kernel
theorem dX1_isBlank_1 : decode cX1_isBlank 1 = .ok (.getfield 41, 3) := by decide +kernel
theorem dX1_isBlank_4 : decode cX1_isBlank 4 = .ok (.invokevirtual 68, 3) := by decide +kernel
theorem dX1_isBlank_7 : decode cX1_isBlank 7 = .ok (.iload_n 1, 1) := by decide +kernel
theorem dX1_isBlank_8 : decode cX1_isBlank 8 = .ok (.isub, 1) := by decide +kernel
theorem dX1_isBlank_9 : decode cX1_isBlank 9 = .ok (.sipush 512, 3) := by decide +kernel
theorem dX1_isBlank_12 : decode cX1_isBlank 12 = .ok (.if_icmp .ge 5, 3) := by decide +kernel
theorem dX1_isBlank_15 : decode cX1_isBlank 15 = .ok (.iconst 0, 1) := by decide +kernel
theorem dX1_isBlank_16 : decode cX1_isBlank 16 = .ok (.ireturn, 1) := by decide +kernel
theorem dX1_isBlank_17 : decode cX1_isBlank 17 = .ok (.iload_n 1, 1) := by decide +kernel
theorem dX1_isBlank_18 : decode cX1_isBlank 18 = .ok (.istore_n 2, 1) := by decide +kernel
theorem dX1_isBlank_19 : decode cX1_isBlank 19 = .ok (.iload_n 2, 1) := by decide +kernel
theorem dX1_isBlank_20 : decode cX1_isBlank 20 = .ok (.iload_n 1, 1) := by decide +kernel
theorem dX1_isBlank_21 : decode cX1_isBlank 21 = .ok (.sipush 512, 3) := by decide +kernel
theorem dX1_isBlank_24 : decode cX1_isBlank 24 = .ok (.iadd, 1) := by decide +kernel
theorem dX1_isBlank_25 : decode cX1_isBlank 25 = .ok (.if_icmp .ge 22, 3) := by decide +kernel
theorem dX1_isBlank_28 : decode cX1_isBlank 28 = .ok (.aload_n 0, 1) := by decide +kernel
theorem dX1_isBlank_29 : decode cX1_isBlank 29 = .ok (.getfield 41, 3) := by decide +kernel
theorem dX1_isBlank_32 : decode cX1_isBlank 32 = .ok (.iload_n 2, 1) := by decide +kernel
theorem dX1_isBlank_33 : decode cX1_isBlank 33 = .ok (.invokevirtual 94, 3) := by decide +kernel
theorem dX1_isBlank_36 : decode cX1_isBlank 36 = .ok (.ifCond .eq 5, 3) := by decide +kernel
theorem dX1_isBlank_39 : decode cX1_isBlank 39 = .ok (.iconst 0, 1) := by decide +kernel
theorem dX1_isBlank_40 : decode cX1_isBlank 40 = .ok (.ireturn, 1) := by decide +kernel
theorem dX1_isBlank_41 : decode cX1_isBlank 41 = .ok (.iinc 2 1, 3) := by decide +kernel
theorem dX1_isBlank_44 : decode cX1_isBlank 44 = .ok (.goto (-25), 3) := by decide +kernel
theorem dX1_isBlank_47 : decode cX1_isBlank 47 = .ok (.iconst 1, 1) := by decide +kernel
theorem dX1_isBlank_48 : decode cX1_isBlank 48 = .ok (.ireturn, 1) := by decide +kernel
theorem dX1_passEnd_0 : decode cX1_passEnd 0 = .ok (.aload_n 0, 1) := by decide +kernel
theorem dX1_passEnd_1 : decode cX1_passEnd 1 = .ok (.iload_n 1, 1) := by decide +kernel
theorem dX1_passEnd_2 : decode cX1_passEnd 2 = .ok (.sipush 512, 3) := by decide +kernel
theorem dX1_passEnd_5 : decode cX1_passEnd 5 = .ok (.iadd, 1) := by decide +kernel
theorem dX1_passEnd_6 : decode cX1_passEnd 6 = .ok (.invokevirtual 82, 3) := by decide +kernel
theorem dX1_passEnd_9 : decode cX1_passEnd 9 = .ok (.ifCond .ne 13, 3) := by decide +kernel
theorem dX1_passEnd_12 : decode cX1_passEnd 12 = .ok (.aload_n 0, 1) := by decide +kernel
theorem dX1_passEnd_13 : decode cX1_passEnd 13 = .ok (.getfield 30, 3) := by decide +kernel
theorem dX1_passEnd_16 : decode cX1_passEnd 16 = .ok (.iconst 3, 1) := by decide +kernel
theorem dX1_passEnd_17 : decode cX1_passEnd 17 = .ok (.iload_n 1, 1) := by decide +kernel
theorem dX1_passEnd_18 : decode cX1_passEnd 18 = .ok (.invokevirtual 78, 3) := by decide +kernel
theorem dX1_passEnd_21 : decode cX1_passEnd 21 = .ok (.ireturn, 1) := by decide +kernel
theorem dX1_passEnd_22 : decode cX1_passEnd 22 = .ok (.aload_n 0, 1) := by decide +kernel
theorem dX1_passEnd_23 : decode cX1_passEnd 23 = .ok (.dup, 1) := by decide +kernel
theorem dX1_passEnd_24 : decode cX1_passEnd 24 = .ok (.getfield 38, 3) := by decide +kernel
theorem dX1_passEnd_27 : decode cX1_passEnd 27 = .ok (.iconst 1, 1) := by decide +kernel
theorem dX1_passEnd_28 : decode cX1_passEnd 28 = .ok (.iadd, 1) := by decide +kernel
theorem dX1_passEnd_29 : decode cX1_passEnd 29 = .ok (.putfield 38, 3) := by decide +kernel
theorem dX1_passEnd_32 : decode cX1_passEnd 32 = .ok (.aload_n 0, 1) := by decide +kernel
theorem dX1_passEnd_33 : decode cX1_passEnd 33 = .ok (.getfield 20, 3) := by decide +kernel
theorem dX1_passEnd_36 : decode cX1_passEnd 36 = .ok (.invokevirtual 74, 3) := by decide +kernel
theorem dX1_passEnd_39 : decode cX1_passEnd 39 = .ok (.ifCond .eq 14, 3) := by decide +kernel
theorem dX1_passEnd_42 : decode cX1_passEnd 42 = .ok (.aload_n 0, 1) := by decide +kernel
theorem dX1_passEnd_43 : decode cX1_passEnd 43 = .ok (.getfield 30, 3) := by decide +kernel
theorem dX1_passEnd_46 : decode cX1_passEnd 46 = .ok (.bipush 12, 2) := by decide +kernel
theorem dX1_passEnd_48 : decode cX1_passEnd 48 = .ok (.iload_n 1, 1) := by decide +kernel
theorem dX1_passEnd_49 : decode cX1_passEnd 49 = .ok (.invokevirtual 78, 3) := by decide +kernel
theorem dX1_passEnd_52 : decode cX1_passEnd 52 = .ok (.ireturn, 1) := by decide +kernel
theorem dX1_passEnd_53 : decode cX1_passEnd 53 = .ok (.iload_n 2, 1) := by decide +kernel
theorem dX1_passEnd_54 : decode cX1_passEnd 54 = .ok (.ifCond .ne 5, 3) := by decide +kernel
theorem dX1_passEnd_57 : decode cX1_passEnd 57 = .ok (.iconst (-1), 1) := by decide +kernel
theorem dX1_passEnd_58 : decode cX1_passEnd 58 = .ok (.ireturn, 1) := by decide +kernel
theorem dX1_passEnd_59 : decode cX1_passEnd 59 = .ok (.iload_n 1, 1) := by decide +kernel
theorem dX1_passEnd_60 : decode cX1_passEnd 60 = .ok (.sipush 1024, 3) := by decide +kernel
theorem dX1_passEnd_63 : decode cX1_passEnd 63 = .ok (.iadd, 1) := by decide +kernel
theorem dX1_passEnd_64 : decode cX1_passEnd 64 = .ok (.istore_n 3, 1) := by decide +kernel
theorem dX1_passEnd_65 : decode cX1_passEnd 65 = .ok (.iload_n 3, 1) := by decide +kernel
theorem dX1_passEnd_66 : decode cX1_passEnd 66 = .ok (.aload_n 0, 1) := by decide +kernel
theorem dX1_passEnd_67 : decode cX1_passEnd 67 = .ok (.getfield 41, 3) := by decide +kernel
theorem dX1_passEnd_70 : decode cX1_passEnd 70 = .ok (.invokevirtual 68, 3) := by decide +kernel
theorem dX1_passEnd_73 : decode cX1_passEnd 73 = .ok (.sipush 512, 3) := by decide +kernel
theorem dX1_passEnd_76 : decode cX1_passEnd 76 = .ok (.isub, 1) := by decide +kernel
theorem dX1_passEnd_77 : decode cX1_passEnd 77 = .ok (.if_icmp .gt 20, 3) := by decide +kernel
theorem dX1_passEnd_80 : decode cX1_passEnd 80 = .ok (.aload_n 0, 1) := by decide +kernel
theorem dX1_passEnd_81 : decode cX1_passEnd 81 = .ok (.iload_n 3, 1) := by decide +kernel
theorem dX1_passEnd_82 : decode cX1_passEnd 82 = .ok (.invokevirtual 82, 3) := by decide +kernel
theorem dX1_passEnd_85 : decode cX1_passEnd 85 = .ok (.ifCond .eq 12, 3) := by decide +kernel
theorem dX1_passEnd_88 : decode cX1_passEnd 88 = .ok (.iinc 3 512, 6) := by decide +kernel
theorem dX1_passEnd_94 : decode cX1_passEnd 94 = .ok (.goto (-29), 3) := by decide +kernel
theorem dX1_passEnd_97 : decode cX1_passEnd 97 = .ok (.aload_n 0, 1) := by decide +kernel
theorem dX1_passEnd_98 : decode cX1_passEnd 98 = .ok (.getfield 41, 3) := by decide +kernel
theorem dX1_passEnd_101 : decode cX1_passEnd 101 = .ok (.invokevirtual 68, 3) := by decide +kernel
theorem dX1_passEnd_104 : decode cX1_passEnd 104 = .ok (.iload_n 3, 1) := by decide +kernel
theorem dX1_passEnd_105 : decode cX1_passEnd 105 = .ok (.isub, 1) := by decide +kernel
theorem dX1_passEnd_106 : decode cX1_passEnd 106 = .ok (.sipush 512, 3) := by decide +kernel
theorem dX1_passEnd_109 : decode cX1_passEnd 109 = .ok (.if_icmp .ge 7, 3) := by decide +kernel
theorem dX1_passEnd_112 : decode cX1_passEnd 112 = .ok (.iconst (-1), 1) := by decide +kernel
theorem dX1_passEnd_113 : decode cX1_passEnd 113 = .ok (.goto 4, 3) := by decide +kernel
theorem dX1_passEnd_116 : decode cX1_passEnd 116 = .ok (.iload_n 3, 1) := by decide +kernel
theorem dX1_passEnd_117 : decode cX1_passEnd 117 = .ok (.ireturn, 1) := by decide +kernel
theorem dX1_passHead_0 : decode cX1_passHead 0 = .ok (.aload_n 0, 1) := by decide +kernel
theorem dX1_passHead_1 : decode cX1_passHead 1 = .ok (.getfield 50, 3) := by decide +kernel
theorem dX1_passHead_4 : decode cX1_passHead 4 = .ok (.iload_n 1, 1) := by decide +kernel
theorem dX1_passHead_5 : decode cX1_passHead 5 = .ok (.invokevirtual 97, 3) := by decide +kernel
theorem dX1_passHead_8 : decode cX1_passHead 8 = .ok (.ifCond .ne 17, 3) := by decide +kernel
theorem dX1_passHead_11 : decode cX1_passHead 11 = .ok (.aload_n 0, 1) := by decide +kernel
theorem dX1_passHead_12 : decode cX1_passHead 12 = .ok (.getfield 30, 3) := by decide +kernel
theorem dX1_passHead_15 : decode cX1_passHead 15 = .ok (.iconst 4, 1) := by decide +kernel
theorem dX1_passHead_16 : decode cX1_passHead 16 = .ok (.iload_n 1, 1) := by decide +kernel
theorem dX1_passHead_17 : decode cX1_passHead 17 = .ok (.sipush 148, 3) := by decide +kernel
theorem dX1_passHead_20 : decode cX1_passHead 20 = .ok (.iadd, 1) := by decide +kernel
theorem dX1_passHead_21 : decode cX1_passHead 21 = .ok (.invokevirtual 78, 3) := by decide +kernel
theorem dX1_passHead_24 : decode cX1_passHead 24 = .ok (.ireturn, 1) := by decide +kernel
theorem dX1_passHead_25 : decode cX1_passHead 25 = .ok (.aload_n 0, 1) := by decide +kernel
theorem dX1_passHead_26 : decode cX1_passHead 26 = .ok (.getfield 50, 3) := by decide +kernel
theorem dX1_passHead_29 : decode cX1_passHead 29 = .ok (.iload_n 1, 1) := by decide +kernel
theorem dX1_passHead_30 : decode cX1_passHead 30 = .ok (.invokevirtual 100, 3) := by decide +kernel
theorem dX1_passHead_33 : decode cX1_passHead 33 = .ok (.istore_n 2, 1) := by decide +kernel
theorem dX1_passHead_34 : decode cX1_passHead 34 = .ok (.iload_n 2, 1) := by decide +kernel
theorem dX1_passHead_35 : decode cX1_passHead 35 = .ok (.ifCond .lt 13, 3) := by decide +kernel
theorem dX1_passHead_38 : decode cX1_passHead 38 = .ok (.aload_n 0, 1) := by decide +kernel
theorem dX1_passHead_39 : decode cX1_passHead 39 = .ok (.getfield 30, 3) := by decide +kernel
theorem dX1_passHead_42 : decode cX1_passHead 42 = .ok (.iconst 5, 1) := by decide +kernel
theorem dX1_passHead_43 : decode cX1_passHead 43 = .ok (.iload_n 2, 1) := by decide +kernel
theorem dX1_passHead_44 : decode cX1_passHead 44 = .ok (.invokevirtual 78, 3) := by decide +kernel
theorem dX1_passHead_47 : decode cX1_passHead 47 = .ok (.ireturn, 1) := by decide +kernel
theorem dX1_passHead_48 : decode cX1_passHead 48 = .ok (.aload_n 0, 1) := by decide +kernel
theorem dX1_passHead_49 : decode cX1_passHead 49 = .ok (.getfield 41, 3) := by decide +kernel
theorem dX1_passHead_52 : decode cX1_passHead 52 = .ok (.iload_n 1, 1) := by decide +kernel
theorem dX1_passHead_53 : decode cX1_passHead 53 = .ok (.sipush 156, 3) := by decide +kernel
theorem dX1_passHead_56 : decode cX1_passHead 56 = .ok (.iadd, 1) := by decide +kernel
theorem dX1_passHead_57 : decode cX1_passHead 57 = .ok (.invokevirtual 94, 3) := by decide +kernel
theorem dX1_passHead_60 : decode cX1_passHead 60 = .ok (.ifCond .ne 8, 3) := by decide +kernel
theorem dX1_passHead_63 : decode cX1_passHead 63 = .ok (.bipush 48, 2) := by decide +kernel
theorem dX1_passHead_65 : decode cX1_passHead 65 = .ok (.goto 15, 3) := by decide +kernel
theorem dX1_passHead_68 : decode cX1_passHead 68 = .ok (.aload_n 0, 1) := by decide +kernel
theorem dX1_passHead_69 : decode cX1_passHead 69 = .ok (.getfield 41, 3) := by decide +kernel
theorem dX1_passHead_72 : decode cX1_passHead 72 = .ok (.iload_n 1, 1) := by decide +kernel
theorem dX1_passHead_73 : decode cX1_passHead 73 = .ok (.sipush 156, 3) := by decide +kernel
theorem dX1_passHead_76 : decode cX1_passHead 76 = .ok (.iadd, 1) := by decide +kernel
theorem dX1_passHead_77 : decode cX1_passHead 77 = .ok (.invokevirtual 94, 3) := by decide +kernel
theorem dX1_passHead_80 : decode cX1_passHead 80 = .ok (.istore_n 3, 1) := by decide +kernel
theorem dX1_passHead_81 : decode cX1_passHead 81 = .ok (.iload_n 3, 1) := by decide +kernel
theorem dX1_passHead_82 : decode cX1_passHead 82 = .ok (.invokestatic 103, 3) := by decide +kernel
theorem dX1_passHead_85 : decode cX1_passHead 85 = .ok (.istore 4, 2) := by decide +kernel
theorem dX1_passHead_87 : decode cX1_passHead 87 = .ok (.iload 4, 2) := by decide +kernel
theorem dX1_passHead_89 : decode cX1_passHead 89 = .ok (.ifCond .ne 25, 3) := by decide +kernel
theorem dX1_passHead_92 : decode cX1_passHead 92 = .ok (.iload_n 3, 1) := by decide +kernel
theorem dX1_passHead_93 : decode cX1_passHead 93 = .ok (.invokestatic 106, 3) := by decide +kernel
theorem dX1_passHead_96 : decode cX1_passHead 96 = .ok (.ifCond .ne 18, 3) := by decide +kernel
theorem dX1_passHead_99 : decode cX1_passHead 99 = .ok (.aload_n 0, 1) := by decide +kernel
theorem dX1_passHead_100 : decode cX1_passHead 100 = .ok (.getfield 30, 3) := by decide +kernel
theorem dX1_passHead_103 : decode cX1_passHead 103 = .ok (.bipush 6, 2) := by decide +kernel
theorem dX1_passHead_105 : decode cX1_passHead 105 = .ok (.iload_n 1, 1) := by decide +kernel
theorem dX1_passHead_106 : decode cX1_passHead 106 = .ok (.sipush 156, 3) := by decide +kernel
theorem dX1_passHead_109 : decode cX1_passHead 109 = .ok (.iadd, 1) := by decide +kernel
theorem dX1_passHead_110 : decode cX1_passHead 110 = .ok (.invokevirtual 78, 3) := by decide +kernel
theorem dX1_passHead_113 : decode cX1_passHead 113 = .ok (.ireturn, 1) := by decide +kernel
theorem dX1_passHead_114 : decode cX1_passHead 114 = .ok (.iload 4, 2) := by decide +kernel
theorem dX1_passHead_116 : decode cX1_passHead 116 = .ok (.ifCond .eq 30, 3) := by decide +kernel
theorem dX1_passHead_119 : decode cX1_passHead 119 = .ok (.aload_n 0, 1) := by decide +kernel
theorem dX1_passHead_120 : decode cX1_passHead 120 = .ok (.getfield 20, 3) := by decide +kernel
theorem dX1_passHead_123 : decode cX1_passHead 123 = .ok (.getfield 109, 3) := by decide +kernel
theorem dX1_passHead_126 : decode cX1_passHead 126 = .ok (.aload_n 0, 1) := by decide +kernel
theorem dX1_passHead_127 : decode cX1_passHead 127 = .ok (.getfield 24, 3) := by decide +kernel
theorem dX1_passHead_130 : decode cX1_passHead 130 = .ok (.getfield 109, 3) := by decide +kernel
theorem dX1_passHead_133 : decode cX1_passHead 133 = .ok (.aload_n 0, 1) := by decide +kernel
theorem dX1_passHead_134 : decode cX1_passHead 134 = .ok (.getfield 50, 3) := by decide +kernel
theorem dX1_passHead_137 : decode cX1_passHead 137 = .ok (.getfield 113, 3) := by decide +kernel
theorem dX1_passHead_140 : decode cX1_passHead 140 = .ok (.invokestatic 114, 3) := by decide +kernel
theorem dX1_passHead_143 : decode cX1_passHead 143 = .ok (.goto 10, 3) := by decide +kernel
theorem dX1_passHead_146 : decode cX1_passHead 146 = .ok (.aload_n 0, 1) := by decide +kernel
theorem dX1_passHead_147 : decode cX1_passHead 147 = .ok (.getfield 50, 3) := by decide +kernel
theorem dX1_passHead_150 : decode cX1_passHead 150 = .ok (.getfield 113, 3) := by decide +kernel
theorem dX1_passHead_153 : decode cX1_passHead 153 = .ok (.lstore 5, 2) := by decide +kernel
theorem dX1_passHead_155 : decode cX1_passHead 155 = .ok (.iload_n 1, 1) := by decide +kernel
theorem dX1_passHead_156 : decode cX1_passHead 156 = .ok (.sipush 512, 3) := by decide +kernel
theorem dX1_passHead_159 : decode cX1_passHead 159 = .ok (.iadd, 1) := by decide +kernel
theorem dX1_passHead_160 : decode cX1_passHead 160 = .ok (.istore 7, 2) := by decide +kernel
theorem dX1_passHead_162 : decode cX1_passHead 162 = .ok (.lload 5, 2) := by decide +kernel
theorem dX1_passHead_164 : decode cX1_passHead 164 = .ok (.aload_n 0, 1) := by decide +kernel
theorem dX1_passHead_165 : decode cX1_passHead 165 = .ok (.getfield 41, 3) := by decide +kernel
theorem dX1_passHead_168 : decode cX1_passHead 168 = .ok (.invokevirtual 68, 3) := by decide +kernel
theorem dX1_passHead_171 : decode cX1_passHead 171 = .ok (.iload 7, 2) := by decide +kernel
theorem dX1_passHead_173 : decode cX1_passHead 173 = .ok (.isub, 1) := by decide +kernel
theorem dX1_passHead_174 : decode cX1_passHead 174 = .ok (.i2l, 1) := by decide +kernel
theorem dX1_passHead_175 : decode cX1_passHead 175 = .ok (.lcmp, 1) := by decide +kernel
theorem dX1_passHead_176 : decode cX1_passHead 176 = .ok (.ifCond .gt 22, 3) := by decide +kernel
theorem dX1_passHead_179 : decode cX1_passHead 179 = .ok (.lload 5, 2) := by decide +kernel
theorem dX1_passHead_181 : decode cX1_passHead 181 = .ok (.l2i, 1) := by decide +kernel
theorem dX1_passHead_182 : decode cX1_passHead 182 = .ok (.invokestatic 118, 3) := by decide +kernel
theorem dX1_passHead_185 : decode cX1_passHead 185 = .ok (.aload_n 0, 1) := by decide +kernel
theorem dX1_passHead_186 : decode cX1_passHead 186 = .ok (.getfield 41, 3) := by decide +kernel
theorem dX1_passHead_189 : decode cX1_passHead 189 = .ok (.invokevirtual 68, 3) := by decide +kernel
theorem dX1_passHead_192 : decode cX1_passHead 192 = .ok (.iload 7, 2) := by decide +kernel
theorem dX1_passHead_194 : decode cX1_passHead 194 = .ok (.isub, 1) := by decide +kernel
theorem dX1_passHead_195 : decode cX1_passHead 195 = .ok (.if_icmp .le 14, 3) := by decide +kernel
theorem dX1_passHead_198 : decode cX1_passHead 198 = .ok (.aload_n 0, 1) := by decide +kernel
theorem dX1_passHead_199 : decode cX1_passHead 199 = .ok (.getfield 30, 3) := by decide +kernel
theorem dX1_passHead_202 : decode cX1_passHead 202 = .ok (.bipush 7, 2) := by decide +kernel
theorem dX1_passHead_204 : decode cX1_passHead 204 = .ok (.iload_n 1, 1) := by decide +kernel
theorem dX1_passHead_205 : decode cX1_passHead 205 = .ok (.invokevirtual 78, 3) := by decide +kernel
theorem dX1_passHead_208 : decode cX1_passHead 208 = .ok (.ireturn, 1) := by decide +kernel
theorem dX1_passHead_209 : decode cX1_passHead 209 = .ok (.iload 7, 2) := by decide +kernel
theorem dX1_passHead_211 : decode cX1_passHead 211 = .ok (.lload 5, 2) := by decide +kernel
theorem dX1_passHead_213 : decode cX1_passHead 213 = .ok (.l2i, 1) := by decide +kernel
theorem dX1_passHead_214 : decode cX1_passHead 214 = .ok (.iadd, 1) := by decide +kernel
theorem dX1_passHead_215 : decode cX1_passHead 215 = .ok (.istore 8, 2) := by decide +kernel
theorem dX1_passHead_217 : decode cX1_passHead 217 = .ok (.iload 4, 2) := by decide +kernel
theorem dX1_passHead_219 : decode cX1_passHead 219 = .ok (.ifCond .eq 16, 3) := by decide +kernel
theorem dX1_passHead_222 : decode cX1_passHead 222 = .ok (.aload_n 0, 1) := by decide +kernel
theorem dX1_passHead_223 : decode cX1_passHead 223 = .ok (.iload_n 1, 1) := by decide +kernel
theorem dX1_passHead_224 : decode cX1_passHead 224 = .ok (.iload_n 3, 1) := by decide +kernel
theorem dX1_passHead_225 : decode cX1_passHead 225 = .ok (.lload 5, 2) := by decide +kernel
theorem dX1_passHead_227 : decode cX1_passHead 227 = .ok (.invokevirtual 121, 3) := by decide +kernel
theorem dX1_passHead_230 : decode cX1_passHead 230 = .ok (.istore 9, 2) := by decide +kernel
theorem dX1_passHead_232 : decode cX1_passHead 232 = .ok (.goto 81, 3) := by decide +kernel
theorem dX1_passHead_235 : decode cX1_passHead 235 = .ok (.iload_n 3, 1) := by decide +kernel
theorem dX1_passHead_236 : decode cX1_passHead 236 = .ok (.bipush 120, 2) := by decide +kernel
theorem dX1_passHead_238 : decode cX1_passHead 238 = .ok (.if_icmp .eq 9, 3) := by decide +kernel
theorem dX1_passHead_241 : decode cX1_passHead 241 = .ok (.iload_n 3, 1) := by decide +kernel
theorem dX1_passHead_242 : decode cX1_passHead 242 = .ok (.bipush 103, 2) := by decide +kernel
theorem dX1_passHead_244 : decode cX1_passHead 244 = .ok (.if_icmp .ne 36, 3) := by decide +kernel
theorem dX1_passHead_247 : decode cX1_passHead 247 = .ok (.aload_n 0, 1) := by decide +kernel
theorem dX1_passHead_248 : decode cX1_passHead 248 = .ok (.getfield 59, 3) := by decide +kernel
theorem dX1_passHead_251 : decode cX1_passHead 251 = .ok (.iload_n 3, 1) := by decide +kernel
theorem dX1_passHead_252 : decode cX1_passHead 252 = .ok (.bipush 120, 2) := by decide +kernel
theorem dX1_passHead_254 : decode cX1_passHead 254 = .ok (.if_icmp .ne 10, 3) := by decide +kernel
theorem dX1_passHead_257 : decode cX1_passHead 257 = .ok (.aload_n 0, 1) := by decide +kernel
theorem dX1_passHead_258 : decode cX1_passHead 258 = .ok (.getfield 20, 3) := by decide +kernel
theorem dX1_passHead_261 : decode cX1_passHead 261 = .ok (.goto 7, 3) := by decide +kernel
theorem dX1_passHead_264 : decode cX1_passHead 264 = .ok (.aload_n 0, 1) := by decide +kernel
theorem dX1_passHead_265 : decode cX1_passHead 265 = .ok (.getfield 24, 3) := by decide +kernel
theorem dX1_passHead_268 : decode cX1_passHead 268 = .ok (.iload 7, 2) := by decide +kernel
theorem dX1_passHead_270 : decode cX1_passHead 270 = .ok (.iload 8, 2) := by decide +kernel
theorem dX1_passHead_272 : decode cX1_passHead 272 = .ok (.invokevirtual 125, 3) := by decide +kernel
theorem dX1_passHead_275 : decode cX1_passHead 275 = .ok (.istore 9, 2) := by decide +kernel
theorem dX1_passHead_277 : decode cX1_passHead 277 = .ok (.goto 36, 3) := by decide +kernel
theorem dX1_passHead_280 : decode cX1_passHead 280 = .ok (.aload_n 0, 1) := by decide +kernel
theorem dX1_passHead_281 : decode cX1_passHead 281 = .ok (.iload_n 3, 1) := by decide +kernel
theorem dX1_passHead_282 : decode cX1_passHead 282 = .ok (.bipush 75, 2) := by decide +kernel
theorem dX1_passHead_284 : decode cX1_passHead 284 = .ok (.if_icmp .ne 13, 3) := by decide +kernel
theorem dX1_passHead_287 : decode cX1_passHead 287 = .ok (.aload_n 0, 1) := by decide +kernel
theorem dX1_passHead_288 : decode cX1_passHead 288 = .ok (.getfield 20, 3) := by decide +kernel
theorem dX1_passHead_291 : decode cX1_passHead 291 = .ok (.getfield 129, 3) := by decide +kernel
theorem dX1_passHead_294 : decode cX1_passHead 294 = .ok (.goto 10, 3) := by decide +kernel
theorem dX1_passHead_297 : decode cX1_passHead 297 = .ok (.aload_n 0, 1) := by decide +kernel
theorem dX1_passHead_298 : decode cX1_passHead 298 = .ok (.getfield 20, 3) := by decide +kernel
theorem dX1_passHead_301 : decode cX1_passHead 301 = .ok (.getfield 132, 3) := by decide +kernel
theorem dX1_passHead_304 : decode cX1_passHead 304 = .ok (.iload 7, 2) := by decide +kernel
theorem dX1_passHead_306 : decode cX1_passHead 306 = .ok (.iload 8, 2) := by decide +kernel
theorem dX1_passHead_308 : decode cX1_passHead 308 = .ok (.invokevirtual 135, 3) := by decide +kernel
theorem dX1_passHead_311 : decode cX1_passHead 311 = .ok (.istore 9, 2) := by decide +kernel
theorem dX1_passHead_313 : decode cX1_passHead 313 = .ok (.iload 9, 2) := by decide +kernel
theorem dX1_passHead_315 : decode cX1_passHead 315 = .ok (.ifCond .eq 15, 3) := by decide +kernel
theorem dX1_passHead_318 : decode cX1_passHead 318 = .ok (.iload 7, 2) := by decide +kernel
theorem dX1_passHead_320 : decode cX1_passHead 320 = .ok (.lload 5, 2) := by decide +kernel
theorem dX1_passHead_322 : decode cX1_passHead 322 = .ok (.l2i, 1) := by decide +kernel
theorem dX1_passHead_323 : decode cX1_passHead 323 = .ok (.invokestatic 118, 3) := by decide +kernel
theorem dX1_passHead_326 : decode cX1_passHead 326 = .ok (.iadd, 1) := by decide +kernel
theorem dX1_passHead_327 : decode cX1_passHead 327 = .ok (.goto 4, 3) := by decide +kernel
theorem dX1_passHead_330 : decode cX1_passHead 330 = .ok (.iconst (-1), 1) := by decide +kernel
theorem dX1_passHead_331 : decode cX1_passHead 331 = .ok (.ireturn, 1) := by decide +kernel
theorem dX1_isAheadKind_0 : decode cX1_isAheadKind 0 = .ok (.iload_n 0, 1) := by decide +kernel
theorem dX1_isAheadKind_1 : decode cX1_isAheadKind 1 = .ok (.bipush 120, 2) := by decide +kernel
theorem dX1_isAheadKind_3 : decode cX1_isAheadKind 3 = .ok (.if_icmp .eq 21, 3) := by decide +kernel
theorem dX1_isAheadKind_6 : decode cX1_isAheadKind 6 = .ok (.iload_n 0, 1) := by decide +kernel
theorem dX1_isAheadKind_7 : decode cX1_isAheadKind 7 = .ok (.bipush 103, 2) := by decide +kernel
theorem dX1_isAheadKind_9 : decode cX1_isAheadKind 9 = .ok (.if_icmp .eq 15, 3) := by decide +kernel
theorem dX1_isAheadKind_12 : decode cX1_isAheadKind 12 = .ok (.iload_n 0, 1) := by decide +kernel
theorem dX1_isAheadKind_13 : decode cX1_isAheadKind 13 = .ok (.bipush 75, 2) := by decide +kernel
theorem dX1_isAheadKind_15 : decode cX1_isAheadKind 15 = .ok (.if_icmp .eq 9, 3) := by decide +kernel
theorem dX1_isAheadKind_18 : decode cX1_isAheadKind 18 = .ok (.iload_n 0, 1) := by decide +kernel
theorem dX1_isAheadKind_19 : decode cX1_isAheadKind 19 = .ok (.bipush 76, 2) := by decide +kernel
theorem dX1_isAheadKind_21 : decode cX1_isAheadKind 21 = .ok (.if_icmp .ne 7, 3) := by decide +kernel
theorem dX1_isAheadKind_24 : decode cX1_isAheadKind 24 = .ok (.iconst 1, 1) := by decide +kernel
theorem dX1_isAheadKind_25 : decode cX1_isAheadKind 25 = .ok (.goto 4, 3) := by decide +kernel
theorem dX1_isAheadKind_28 : decode cX1_isAheadKind 28 = .ok (.iconst 0, 1) := by decide +kernel
theorem dX1_isAheadKind_29 : decode cX1_isAheadKind 29 = .ok (.ireturn, 1) := by decide +kernel
theorem dX1_pick_0 : decode cX1_pick 0 = .ok (.lload_n 0, 1) := by decide +kernel
theorem dX1_pick_1 : decode cX1_pick 1 = .ok (.lconst 0, 1) := by decide +kernel
theorem dX1_pick_2 : decode cX1_pick 2 = .ok (.lcmp, 1) := by decide +kernel
theorem dX1_pick_3 : decode cX1_pick 3 = .ok (.ifCond .lt 7, 3) := by decide +kernel
theorem dX1_pick_6 : decode cX1_pick 6 = .ok (.lload_n 0, 1) := by decide +kernel
theorem dX1_pick_7 : decode cX1_pick 7 = .ok (.goto 15, 3) := by decide +kernel
theorem dX1_pick_10 : decode cX1_pick 10 = .ok (.lload_n 2, 1) := by decide +kernel
theorem dX1_pick_11 : decode cX1_pick 11 = .ok (.lconst 0, 1) := by decide +kernel
theorem dX1_pick_12 : decode cX1_pick 12 = .ok (.lcmp, 1) := by decide +kernel
theorem dX1_pick_13 : decode cX1_pick 13 = .ok (.ifCond .lt 7, 3) := by decide +kernel
theorem dX1_pick_16 : decode cX1_pick 16 = .ok (.lload_n 2, 1) := by decide +kernel
theorem dX1_pick_17 : decode cX1_pick 17 = .ok (.goto 5, 3) := by decide +kernel
theorem dX1_pick_20 : decode cX1_pick 20 = .ok (.lload 4, 2) := by decide +kernel
theorem dX1_pick_22 : decode cX1_pick 22 = .ok (.lreturn, 1) := by decide +kernel
theorem dX1_takeLong_0 : decode cX1_takeLong 0 = .ok (.aload_n 1, 1) := by decide +kernel
theorem dX1_takeLong_1 : decode cX1_takeLong 1 = .ok (.aload_n 0, 1) := by decide +kernel
theorem dX1_takeLong_2 : decode cX1_takeLong 2 = .ok (.getfield 41, 3) := by decide +kernel
theorem dX1_takeLong_5 : decode cX1_takeLong 5 = .ok (.iload_n 2, 1) := by decide +kernel
theorem dX1_takeLong_6 : decode cX1_takeLong 6 = .ok (.aload_n 0, 1) := by decide +kernel
theorem dX1_takeLong_7 : decode cX1_takeLong 7 = .ok (.getfield 41, 3) := by decide +kernel
theorem dX1_takeLong_10 : decode cX1_takeLong 10 = .ok (.iconst 0, 1) := by decide +kernel
theorem dX1_takeLong_11 : decode cX1_takeLong 11 = .ok (.iload_n 2, 1) := by decide +kernel
theorem dX1_takeLong_12 : decode cX1_takeLong 12 = .ok (.iload_n 3, 1) := by decide +kernel
theorem dX1_takeLong_13 : decode cX1_takeLong 13 = .ok (.invokevirtual 139, 3) := by decide +kernel
theorem dX1_takeLong_16 : decode cX1_takeLong 16 = .ok (.invokevirtual 143, 3) := by decide +kernel
theorem dX1_takeLong_19 : decode cX1_takeLong 19 = .ok (.ifCond .ne 16, 3) := by decide +kernel
theorem dX1_takeLong_22 : decode cX1_takeLong 22 = .ok (.aload_n 0, 1) := by decide +kernel
theorem dX1_takeLong_23 : decode cX1_takeLong 23 = .ok (.getfield 30, 3) := by decide +kernel
theorem dX1_takeLong_26 : decode cX1_takeLong 26 = .ok (.bipush 9, 2) := by decide +kernel
theorem dX1_takeLong_28 : decode cX1_takeLong 28 = .ok (.iload_n 2, 1) := by decide +kernel
theorem dX1_takeLong_29 : decode cX1_takeLong 29 = .ok (.invokevirtual 78, 3) := by decide +kernel
theorem dX1_takeLong_32 : decode cX1_takeLong 32 = .ok (.pop, 1) := by decide +kernel
theorem dX1_takeLong_33 : decode cX1_takeLong 33 = .ok (.iconst 0, 1) := by decide +kernel
theorem dX1_takeLong_34 : decode cX1_takeLong 34 = .ok (.ireturn, 1) := by decide +kernel
theorem dX1_takeLong_35 : decode cX1_takeLong 35 = .ok (.iconst 1, 1) := by decide +kernel
theorem dX1_takeLong_36 : decode cX1_takeLong 36 = .ok (.ireturn, 1) := by decide +kernel
theorem dX1_takeEntry_0 : decode cX1_takeEntry 0 = .ok (.aload_n 0, 1) := by decide +kernel
theorem dX1_takeEntry_1 : decode cX1_takeEntry 1 = .ok (.getfield 34, 3) := by decide +kernel
theorem dX1_takeEntry_4 : decode cX1_takeEntry 4 = .ok (.ifCond .lt 15, 3) := by decide +kernel
theorem dX1_takeEntry_7 : decode cX1_takeEntry 7 = .ok (.aload_n 0, 1) := by decide +kernel
theorem dX1_takeEntry_8 : decode cX1_takeEntry 8 = .ok (.getfield 34, 3) := by decide +kernel
theorem dX1_takeEntry_11 : decode cX1_takeEntry 11 = .ok (.aload_n 0, 1) := by decide +kernel
theorem dX1_takeEntry_12 : decode cX1_takeEntry 12 = .ok (.getfield 11, 3) := by decide +kernel
theorem dX1_takeEntry_15 : decode cX1_takeEntry 15 = .ok (.arraylength, 1) := by decide +kernel
theorem dX1_takeEntry_16 : decode cX1_takeEntry 16 = .ok (.if_icmp .lt 16, 3) := by decide +kernel
theorem dX1_takeEntry_19 : decode cX1_takeEntry 19 = .ok (.aload_n 0, 1) := by decide +kernel
theorem dX1_takeEntry_20 : decode cX1_takeEntry 20 = .ok (.getfield 30, 3) := by decide +kernel
theorem dX1_takeEntry_23 : decode cX1_takeEntry 23 = .ok (.bipush 10, 2) := by decide +kernel
theorem dX1_takeEntry_25 : decode cX1_takeEntry 25 = .ok (.iload_n 1, 1) := by decide +kernel
theorem dX1_takeEntry_26 : decode cX1_takeEntry 26 = .ok (.invokevirtual 78, 3) := by decide +kernel
theorem dX1_takeEntry_29 : decode cX1_takeEntry 29 = .ok (.pop, 1) := by decide +kernel
theorem dX1_takeEntry_30 : decode cX1_takeEntry 30 = .ok (.iconst 0, 1) := by decide +kernel
theorem dX1_takeEntry_31 : decode cX1_takeEntry 31 = .ok (.ireturn, 1) := by decide +kernel
theorem dX1_takeEntry_32 : decode cX1_takeEntry 32 = .ok (.aload_n 0, 1) := by decide +kernel
theorem dX1_takeEntry_33 : decode cX1_takeEntry 33 = .ok (.getfield 11, 3) := by decide +kernel
theorem dX1_takeEntry_36 : decode cX1_takeEntry 36 = .ok (.aload_n 0, 1) := by decide +kernel
theorem dX1_takeEntry_37 : decode cX1_takeEntry 37 = .ok (.getfield 34, 3) := by decide +kernel
theorem dX1_takeEntry_40 : decode cX1_takeEntry 40 = .ok (.aaload, 1) := by decide +kernel
theorem dX1_takeEntry_41 : decode cX1_takeEntry 41 = .ok (.astore 5, 2) := by decide +kernel
theorem dX1_takeEntry_43 : decode cX1_takeEntry 43 = .ok (.aload_n 0, 1) := by decide +kernel
theorem dX1_takeEntry_44 : decode cX1_takeEntry 44 = .ok (.aload 5, 2) := by decide +kernel
theorem dX1_takeEntry_46 : decode cX1_takeEntry 46 = .ok (.getfield 146, 3) := by decide +kernel
theorem dX1_takeEntry_49 : decode cX1_takeEntry 49 = .ok (.iload_n 1, 1) := by decide +kernel
theorem dX1_takeEntry_50 : decode cX1_takeEntry 50 = .ok (.invokevirtual 147, 3) := by decide +kernel
theorem dX1_takeEntry_53 : decode cX1_takeEntry 53 = .ok (.aload_n 0, 1) := by decide +kernel
theorem dX1_takeEntry_54 : decode cX1_takeEntry 54 = .ok (.aload 5, 2) := by decide +kernel
theorem dX1_takeEntry_56 : decode cX1_takeEntry 56 = .ok (.getfield 151, 3) := by decide +kernel
theorem dX1_takeEntry_59 : decode cX1_takeEntry 59 = .ok (.iload_n 1, 1) := by decide +kernel
theorem dX1_takeEntry_60 : decode cX1_takeEntry 60 = .ok (.invokevirtual 152, 3) := by decide +kernel
theorem dX1_takeEntry_63 : decode cX1_takeEntry 63 = .ok (.aload 5, 2) := by decide +kernel
theorem dX1_takeEntry_65 : decode cX1_takeEntry 65 = .ok (.getfield 146, 3) := by decide +kernel
theorem dX1_takeEntry_68 : decode cX1_takeEntry 68 = .ok (.invokevirtual 68, 3) := by decide +kernel
theorem dX1_takeEntry_71 : decode cX1_takeEntry 71 = .ok (.ifCond .ne 16, 3) := by decide +kernel
theorem dX1_takeEntry_74 : decode cX1_takeEntry 74 = .ok (.aload_n 0, 1) := by decide +kernel
theorem dX1_takeEntry_75 : decode cX1_takeEntry 75 = .ok (.getfield 30, 3) := by decide +kernel
theorem dX1_takeEntry_78 : decode cX1_takeEntry 78 = .ok (.bipush 11, 2) := by decide +kernel
theorem dX1_takeEntry_80 : decode cX1_takeEntry 80 = .ok (.iload_n 1, 1) := by decide +kernel
theorem dX1_takeEntry_81 : decode cX1_takeEntry 81 = .ok (.invokevirtual 78, 3) := by decide +kernel
theorem dX1_takeEntry_84 : decode cX1_takeEntry 84 = .ok (.pop, 1) := by decide +kernel
theorem dX1_takeEntry_85 : decode cX1_takeEntry 85 = .ok (.iconst 0, 1) := by decide +kernel
theorem dX1_takeEntry_86 : decode cX1_takeEntry 86 = .ok (.ireturn, 1) := by decide +kernel
theorem dX1_takeEntry_87 : decode cX1_takeEntry 87 = .ok (.iload_n 2, 1) := by decide +kernel
theorem dX1_takeEntry_88 : decode cX1_takeEntry 88 = .ok (.bipush 48, 2) := by decide +kernel
theorem dX1_takeEntry_90 : decode cX1_takeEntry 90 = .ok (.if_icmp .ne 26, 3) := by decide +kernel
theorem dX1_takeEntry_93 : decode cX1_takeEntry 93 = .ok (.aload_n 0, 1) := by decide +kernel
theorem dX1_takeEntry_94 : decode cX1_takeEntry 94 = .ok (.iload_n 1, 1) := by decide +kernel
theorem dX1_takeEntry_95 : decode cX1_takeEntry 95 = .ok (.invokevirtual 155, 3) := by decide +kernel
theorem dX1_takeEntry_98 : decode cX1_takeEntry 98 = .ok (.ifCond .ne 18, 3) := by decide +kernel
theorem dX1_takeEntry_101 : decode cX1_takeEntry 101 = .ok (.aload 5, 2) := by decide +kernel
theorem dX1_takeEntry_103 : decode cX1_takeEntry 103 = .ok (.getfield 146, 3) := by decide +kernel
theorem dX1_takeEntry_106 : decode cX1_takeEntry 106 = .ok (.invokevirtual 158, 3) := by decide +kernel
theorem dX1_takeEntry_109 : decode cX1_takeEntry 109 = .ok (.ifCond .eq 7, 3) := by decide +kernel
theorem dX1_takeEntry_112 : decode cX1_takeEntry 112 = .ok (.iconst 1, 1) := by decide +kernel
theorem dX1_takeEntry_113 : decode cX1_takeEntry 113 = .ok (.goto 4, 3) := by decide +kernel
theorem dX1_takeEntry_116 : decode cX1_takeEntry 116 = .ok (.iconst 0, 1) := by decide +kernel
theorem dX1_takeEntry_117 : decode cX1_takeEntry 117 = .ok (.istore 6, 2) := by decide +kernel
theorem dX1_takeEntry_119 : decode cX1_takeEntry 119 = .ok (.iload 6, 2) := by decide +kernel
theorem dX1_takeEntry_121 : decode cX1_takeEntry 121 = .ok (.ifCond .eq 8, 3) := by decide +kernel
theorem dX1_takeEntry_124 : decode cX1_takeEntry 124 = .ok (.bipush 53, 2) := by decide +kernel
theorem dX1_takeEntry_126 : decode cX1_takeEntry 126 = .ok (.goto 4, 3) := by decide +kernel
theorem dX1_takeEntry_129 : decode cX1_takeEntry 129 = .ok (.iload_n 2, 1) := by decide +kernel
theorem dX1_takeEntry_130 : decode cX1_takeEntry 130 = .ok (.istore 7, 2) := by decide +kernel
theorem dX1_takeEntry_132 : decode cX1_takeEntry 132 = .ok (.aload_n 0, 1) := by decide +kernel
theorem dX1_takeEntry_133 : decode cX1_takeEntry 133 = .ok (.aload 5, 2) := by decide +kernel
theorem dX1_takeEntry_135 : decode cX1_takeEntry 135 = .ok (.iload 7, 2) := by decide +kernel
theorem dX1_takeEntry_137 : decode cX1_takeEntry 137 = .ok (.iload_n 1, 1) := by decide +kernel
theorem dX1_takeEntry_138 : decode cX1_takeEntry 138 = .ok (.lload_n 3, 1) := by decide +kernel
theorem dX1_takeEntry_139 : decode cX1_takeEntry 139 = .ok (.invokevirtual 161, 3) := by decide +kernel
theorem dX1_takeEntry_142 : decode cX1_takeEntry 142 = .ok (.aload 5, 2) := by decide +kernel
theorem dX1_takeEntry_144 : decode cX1_takeEntry 144 = .ok (.getfield 165, 3) := by decide +kernel
theorem dX1_takeEntry_147 : decode cX1_takeEntry 147 = .ok (.bipush 11, 2) := by decide +kernel
theorem dX1_takeEntry_149 : decode cX1_takeEntry 149 = .ok (.iload 7, 2) := by decide +kernel
theorem dX1_takeEntry_151 : decode cX1_takeEntry 151 = .ok (.aload 5, 2) := by decide +kernel
theorem dX1_takeEntry_153 : decode cX1_takeEntry 153 = .ok (.getfield 146, 3) := by decide +kernel
theorem dX1_takeEntry_156 : decode cX1_takeEntry 156 = .ok (.aload 5, 2) := by decide +kernel
theorem dX1_takeEntry_158 : decode cX1_takeEntry 158 = .ok (.getfield 151, 3) := by decide +kernel
theorem dX1_takeEntry_161 : decode cX1_takeEntry 161 = .ok (.invokestatic 169, 3) := by decide +kernel
theorem dX1_takeEntry_164 : decode cX1_takeEntry 164 = .ok (.i2l, 1) := by decide +kernel
theorem dX1_takeEntry_165 : decode cX1_takeEntry 165 = .ok (.lastore, 1) := by decide +kernel
theorem dX1_takeEntry_166 : decode cX1_takeEntry 166 = .ok (.aload_n 0, 1) := by decide +kernel
theorem dX1_takeEntry_167 : decode cX1_takeEntry 167 = .ok (.dup, 1) := by decide +kernel
theorem dX1_takeEntry_168 : decode cX1_takeEntry 168 = .ok (.getfield 34, 3) := by decide +kernel
theorem dX1_takeEntry_171 : decode cX1_takeEntry 171 = .ok (.iconst 1, 1) := by decide +kernel
theorem dX1_takeEntry_172 : decode cX1_takeEntry 172 = .ok (.iadd, 1) := by decide +kernel
theorem dX1_takeEntry_173 : decode cX1_takeEntry 173 = .ok (.putfield 34, 3) := by decide +kernel
theorem dX1_takeEntry_176 : decode cX1_takeEntry 176 = .ok (.aload_n 0, 1) := by decide +kernel
theorem dX1_takeEntry_177 : decode cX1_takeEntry 177 = .ok (.getfield 20, 3) := by decide +kernel
theorem dX1_takeEntry_180 : decode cX1_takeEntry 180 = .ok (.invokevirtual 67, 3) := by decide +kernel
theorem dX1_takeEntry_183 : decode cX1_takeEntry 183 = .ok (.iconst 1, 1) := by decide +kernel
theorem dX1_takeEntry_184 : decode cX1_takeEntry 184 = .ok (.ireturn, 1) := by decide +kernel
theorem dX1_setValues_0 : decode cX1_setValues 0 = .ok (.aload_n 0, 1) := by decide +kernel
theorem dX1_setValues_1 : decode cX1_setValues 1 = .ok (.getfield 20, 3) := by decide +kernel
theorem dX1_setValues_4 : decode cX1_setValues 4 = .ok (.getfield 175, 3) := by decide +kernel
theorem dX1_setValues_7 : decode cX1_setValues 7 = .ok (.ifCond .eq 10, 3) := by decide +kernel
theorem dX1_setValues_10 : decode cX1_setValues 10 = .ok (.aload_n 0, 1) := by decide +kernel
theorem dX1_setValues_11 : decode cX1_setValues 11 = .ok (.getfield 20, 3) := by decide +kernel
theorem dX1_setValues_14 : decode cX1_setValues 14 = .ok (.goto 7, 3) := by decide +kernel
theorem dX1_setValues_17 : decode cX1_setValues 17 = .ok (.aload_n 0, 1) := by decide +kernel
theorem dX1_setValues_18 : decode cX1_setValues 18 = .ok (.getfield 24, 3) := by decide +kernel
theorem dX1_setValues_21 : decode cX1_setValues 21 = .ok (.astore 6, 2) := by decide +kernel
theorem dX1_setValues_23 : decode cX1_setValues 23 = .ok (.aload_n 1, 1) := by decide +kernel
theorem dX1_setValues_24 : decode cX1_setValues 24 = .ok (.getfield 165, 3) := by decide +kernel
theorem dX1_setValues_27 : decode cX1_setValues 27 = .ok (.iconst 0, 1) := by decide +kernel
theorem dX1_setValues_28 : decode cX1_setValues 28 = .ok (.iload_n 2, 1) := by decide +kernel
theorem dX1_setValues_29 : decode cX1_setValues 29 = .ok (.i2l, 1) := by decide +kernel
theorem dX1_setValues_30 : decode cX1_setValues 30 = .ok (.lastore, 1) := by decide +kernel
theorem dX1_setValues_31 : decode cX1_setValues 31 = .ok (.aload_n 1, 1) := by decide +kernel
theorem dX1_setValues_32 : decode cX1_setValues 32 = .ok (.getfield 165, 3) := by decide +kernel
theorem dX1_setValues_35 : decode cX1_setValues 35 = .ok (.iconst 1, 1) := by decide +kernel
theorem dX1_setValues_36 : decode cX1_setValues 36 = .ok (.aload_n 0, 1) := by decide +kernel
theorem dX1_setValues_37 : decode cX1_setValues 37 = .ok (.getfield 50, 3) := by decide +kernel
theorem dX1_setValues_40 : decode cX1_setValues 40 = .ok (.getfield 179, 3) := by decide +kernel
theorem dX1_setValues_43 : decode cX1_setValues 43 = .ok (.lastore, 1) := by decide +kernel
theorem dX1_setValues_44 : decode cX1_setValues 44 = .ok (.aload_n 1, 1) := by decide +kernel
theorem dX1_setValues_45 : decode cX1_setValues 45 = .ok (.getfield 165, 3) := by decide +kernel
theorem dX1_setValues_48 : decode cX1_setValues 48 = .ok (.iconst 2, 1) := by decide +kernel
theorem dX1_setValues_49 : decode cX1_setValues 49 = .ok (.aload_n 0, 1) := by decide +kernel
theorem dX1_setValues_50 : decode cX1_setValues 50 = .ok (.getfield 20, 3) := by decide +kernel
theorem dX1_setValues_53 : decode cX1_setValues 53 = .ok (.getfield 182, 3) := by decide +kernel
theorem dX1_setValues_56 : decode cX1_setValues 56 = .ok (.aload_n 0, 1) := by decide +kernel
theorem dX1_setValues_57 : decode cX1_setValues 57 = .ok (.getfield 24, 3) := by decide +kernel
theorem dX1_setValues_60 : decode cX1_setValues 60 = .ok (.getfield 182, 3) := by decide +kernel
theorem dX1_setValues_63 : decode cX1_setValues 63 = .ok (.aload_n 0, 1) := by decide +kernel
theorem dX1_setValues_64 : decode cX1_setValues 64 = .ok (.getfield 50, 3) := by decide +kernel
theorem dX1_setValues_67 : decode cX1_setValues 67 = .ok (.getfield 185, 3) := by decide +kernel
theorem dX1_setValues_70 : decode cX1_setValues 70 = .ok (.invokestatic 114, 3) := by decide +kernel
theorem dX1_setValues_73 : decode cX1_setValues 73 = .ok (.lastore, 1) := by decide +kernel
theorem dX1_setValues_74 : decode cX1_setValues 74 = .ok (.aload_n 1, 1) := by decide +kernel
theorem dX1_setValues_75 : decode cX1_setValues 75 = .ok (.getfield 165, 3) := by decide +kernel
theorem dX1_setValues_78 : decode cX1_setValues 78 = .ok (.iconst 3, 1) := by decide +kernel
theorem dX1_setValues_79 : decode cX1_setValues 79 = .ok (.aload_n 0, 1) := by decide +kernel
theorem dX1_setValues_80 : decode cX1_setValues 80 = .ok (.getfield 20, 3) := by decide +kernel
theorem dX1_setValues_83 : decode cX1_setValues 83 = .ok (.getfield 186, 3) := by decide +kernel
theorem dX1_setValues_86 : decode cX1_setValues 86 = .ok (.aload_n 0, 1) := by decide +kernel
theorem dX1_setValues_87 : decode cX1_setValues 87 = .ok (.getfield 24, 3) := by decide +kernel
theorem dX1_setValues_90 : decode cX1_setValues 90 = .ok (.getfield 186, 3) := by decide +kernel
theorem dX1_setValues_93 : decode cX1_setValues 93 = .ok (.aload_n 0, 1) := by decide +kernel
theorem dX1_setValues_94 : decode cX1_setValues 94 = .ok (.getfield 50, 3) := by decide +kernel
theorem dX1_setValues_97 : decode cX1_setValues 97 = .ok (.getfield 189, 3) := by decide +kernel
theorem dX1_setValues_100 : decode cX1_setValues 100 = .ok (.invokestatic 114, 3) := by decide +kernel
theorem dX1_setValues_103 : decode cX1_setValues 103 = .ok (.lastore, 1) := by decide +kernel
theorem dX1_setValues_104 : decode cX1_setValues 104 = .ok (.aload_n 1, 1) := by decide +kernel
theorem dX1_setValues_105 : decode cX1_setValues 105 = .ok (.getfield 165, 3) := by decide +kernel
theorem dX1_setValues_108 : decode cX1_setValues 108 = .ok (.iconst 4, 1) := by decide +kernel
theorem dX1_setValues_109 : decode cX1_setValues 109 = .ok (.lload 4, 2) := by decide +kernel
theorem dX1_setValues_111 : decode cX1_setValues 111 = .ok (.lastore, 1) := by decide +kernel
theorem dX1_setValues_112 : decode cX1_setValues 112 = .ok (.aload_n 1, 1) := by decide +kernel
theorem dX1_setValues_113 : decode cX1_setValues 113 = .ok (.getfield 165, 3) := by decide +kernel
theorem dX1_setValues_116 : decode cX1_setValues 116 = .ok (.iconst 5, 1) := by decide +kernel
theorem dX1_setValues_117 : decode cX1_setValues 117 = .ok (.aload 6, 2) := by decide +kernel
theorem dX1_setValues_119 : decode cX1_setValues 119 = .ok (.getfield 175, 3) := by decide +kernel
theorem dX1_setValues_122 : decode cX1_setValues 122 = .ok (.ifCond .eq 11, 3) := by decide +kernel
theorem dX1_setValues_125 : decode cX1_setValues 125 = .ok (.aload 6, 2) := by decide +kernel
theorem dX1_setValues_127 : decode cX1_setValues 127 = .ok (.getfield 190, 3) := by decide +kernel
theorem dX1_setValues_130 : decode cX1_setValues 130 = .ok (.goto 10, 3) := by decide +kernel
theorem dX1_setValues_133 : decode cX1_setValues 133 = .ok (.aload_n 0, 1) := by decide +kernel
theorem dX1_setValues_134 : decode cX1_setValues 134 = .ok (.getfield 50, 3) := by decide +kernel
theorem dX1_setValues_137 : decode cX1_setValues 137 = .ok (.getfield 193, 3) := by decide +kernel
theorem dX1_setValues_140 : decode cX1_setValues 140 = .ok (.lastore, 1) := by decide +kernel
theorem dX1_setValues_141 : decode cX1_setValues 141 = .ok (.aload_n 1, 1) := by decide +kernel
theorem dX1_setValues_142 : decode cX1_setValues 142 = .ok (.getfield 165, 3) := by decide +kernel
theorem dX1_setValues_145 : decode cX1_setValues 145 = .ok (.bipush 6, 2) := by decide +kernel
theorem dX1_setValues_147 : decode cX1_setValues 147 = .ok (.aload 6, 2) := by decide +kernel
theorem dX1_setValues_149 : decode cX1_setValues 149 = .ok (.getfield 175, 3) := by decide +kernel
theorem dX1_setValues_152 : decode cX1_setValues 152 = .ok (.ifCond .eq 11, 3) := by decide +kernel
theorem dX1_setValues_155 : decode cX1_setValues 155 = .ok (.aload 6, 2) := by decide +kernel
theorem dX1_setValues_157 : decode cX1_setValues 157 = .ok (.getfield 194, 3) := by decide +kernel
theorem dX1_setValues_160 : decode cX1_setValues 160 = .ok (.goto 4, 3) := by decide +kernel
theorem dX1_setValues_163 : decode cX1_setValues 163 = .ok (.lconst 0, 1) := by decide +kernel
theorem dX1_setValues_164 : decode cX1_setValues 164 = .ok (.lastore, 1) := by decide +kernel
theorem dX1_setValues_165 : decode cX1_setValues 165 = .ok (.aload_n 1, 1) := by decide +kernel
theorem dX1_setValues_166 : decode cX1_setValues 166 = .ok (.getfield 165, 3) := by decide +kernel
theorem dX1_setValues_169 : decode cX1_setValues 169 = .ok (.bipush 7, 2) := by decide +kernel
theorem dX1_setValues_171 : decode cX1_setValues 171 = .ok (.iload_n 3, 1) := by decide +kernel
theorem dX1_setValues_172 : decode cX1_setValues 172 = .ok (.i2l, 1) := by decide +kernel
theorem dX1_setValues_173 : decode cX1_setValues 173 = .ok (.lastore, 1) := by decide +kernel
theorem dX1_setValues_174 : decode cX1_setValues 174 = .ok (.aload_n 1, 1) := by decide +kernel
theorem dX1_setValues_175 : decode cX1_setValues 175 = .ok (.getfield 165, 3) := by decide +kernel
theorem dX1_setValues_178 : decode cX1_setValues 178 = .ok (.bipush 8, 2) := by decide +kernel
theorem dX1_setValues_180 : decode cX1_setValues 180 = .ok (.iload_n 3, 1) := by decide +kernel
theorem dX1_setValues_181 : decode cX1_setValues 181 = .ok (.sipush 512, 3) := by decide +kernel
theorem dX1_setValues_184 : decode cX1_setValues 184 = .ok (.iadd, 1) := by decide +kernel
theorem dX1_setValues_185 : decode cX1_setValues 185 = .ok (.i2l, 1) := by decide +kernel
theorem dX1_setValues_186 : decode cX1_setValues 186 = .ok (.lastore, 1) := by decide +kernel
theorem dX1_setValues_187 : decode cX1_setValues 187 = .ok (.aload_n 1, 1) := by decide +kernel
theorem dX1_setValues_188 : decode cX1_setValues 188 = .ok (.getfield 165, 3) := by decide +kernel
theorem dX1_setValues_191 : decode cX1_setValues 191 = .ok (.bipush 9, 2) := by decide +kernel
theorem dX1_setValues_193 : decode cX1_setValues 193 = .ok (.aload_n 1, 1) := by decide +kernel
theorem dX1_setValues_194 : decode cX1_setValues 194 = .ok (.getfield 146, 3) := by decide +kernel
theorem dX1_setValues_197 : decode cX1_setValues 197 = .ok (.invokevirtual 68, 3) := by decide +kernel
theorem dX1_setValues_200 : decode cX1_setValues 200 = .ok (.i2l, 1) := by decide +kernel
theorem dX1_setValues_201 : decode cX1_setValues 201 = .ok (.lastore, 1) := by decide +kernel
theorem dX1_setValues_202 : decode cX1_setValues 202 = .ok (.aload_n 1, 1) := by decide +kernel
theorem dX1_setValues_203 : decode cX1_setValues 203 = .ok (.getfield 165, 3) := by decide +kernel
theorem dX1_setValues_206 : decode cX1_setValues 206 = .ok (.bipush 10, 2) := by decide +kernel
theorem dX1_setValues_208 : decode cX1_setValues 208 = .ok (.aload_n 1, 1) := by decide +kernel
theorem dX1_setValues_209 : decode cX1_setValues 209 = .ok (.getfield 151, 3) := by decide +kernel
theorem dX1_setValues_212 : decode cX1_setValues 212 = .ok (.invokevirtual 68, 3) := by decide +kernel
theorem dX1_setValues_215 : decode cX1_setValues 215 = .ok (.i2l, 1) := by decide +kernel
theorem dX1_setValues_216 : decode cX1_setValues 216 = .ok (.lastore, 1) := by decide +kernel
theorem dX1_setValues_217 : decode cX1_setValues 217 = .ok (.return_, 1) := by decide +kernel
theorem dX1_takeName_0 : decode cX1_takeName 0 = .ok (.aload_n 1, 1) := by decide +kernel
theorem dX1_takeName_1 : decode cX1_takeName 1 = .ok (.invokevirtual 197, 3) := by decide +kernel
theorem dX1_takeName_4 : decode cX1_takeName 4 = .ok (.aload_n 0, 1) := by decide +kernel
theorem dX1_takeName_5 : decode cX1_takeName 5 = .ok (.getfield 20, 3) := by decide +kernel
theorem dX1_takeName_8 : decode cX1_takeName 8 = .ok (.getfield 132, 3) := by decide +kernel
theorem dX1_takeName_11 : decode cX1_takeName 11 = .ok (.invokevirtual 68, 3) := by decide +kernel
theorem dX1_takeName_14 : decode cX1_takeName 14 = .ok (.ifCond .le 13, 3) := by decide +kernel
theorem dX1_takeName_17 : decode cX1_takeName 17 = .ok (.aload_n 0, 1) := by decide +kernel
theorem dX1_takeName_18 : decode cX1_takeName 18 = .ok (.getfield 20, 3) := by decide +kernel
theorem dX1_takeName_21 : decode cX1_takeName 21 = .ok (.getfield 132, 3) := by decide +kernel
theorem dX1_takeName_24 : decode cX1_takeName 24 = .ok (.goto 10, 3) := by decide +kernel
theorem dX1_takeName_27 : decode cX1_takeName 27 = .ok (.aload_n 0, 1) := by decide +kernel
theorem dX1_takeName_28 : decode cX1_takeName 28 = .ok (.getfield 24, 3) := by decide +kernel
theorem dX1_takeName_31 : decode cX1_takeName 31 = .ok (.getfield 132, 3) := by decide +kernel
theorem dX1_takeName_34 : decode cX1_takeName 34 = .ok (.astore_n 3, 1) := by decide +kernel
theorem dX1_takeName_35 : decode cX1_takeName 35 = .ok (.aload_n 3, 1) := by decide +kernel
theorem dX1_takeName_36 : decode cX1_takeName 36 = .ok (.invokevirtual 68, 3) := by decide +kernel
theorem dX1_takeName_39 : decode cX1_takeName 39 = .ok (.ifCond .le 14, 3) := by decide +kernel
theorem dX1_takeName_42 : decode cX1_takeName 42 = .ok (.aload_n 1, 1) := by decide +kernel
theorem dX1_takeName_43 : decode cX1_takeName 43 = .ok (.aload_n 3, 1) := by decide +kernel
theorem dX1_takeName_44 : decode cX1_takeName 44 = .ok (.iconst 0, 1) := by decide +kernel
theorem dX1_takeName_45 : decode cX1_takeName 45 = .ok (.aload_n 3, 1) := by decide +kernel
theorem dX1_takeName_46 : decode cX1_takeName 46 = .ok (.invokevirtual 68, 3) := by decide +kernel
theorem dX1_takeName_49 : decode cX1_takeName 49 = .ok (.invokevirtual 200, 3) := by decide +kernel
theorem dX1_takeName_52 : decode cX1_takeName 52 = .ok (.return_, 1) := by decide +kernel
theorem dX1_takeName_53 : decode cX1_takeName 53 = .ok (.aload_n 0, 1) := by decide +kernel
theorem dX1_takeName_54 : decode cX1_takeName 54 = .ok (.iload_n 2, 1) := by decide +kernel
theorem dX1_takeName_55 : decode cX1_takeName 55 = .ok (.invokevirtual 155, 3) := by decide +kernel
theorem dX1_takeName_58 : decode cX1_takeName 58 = .ok (.ifCond .eq 33, 3) := by decide +kernel
theorem dX1_takeName_61 : decode cX1_takeName 61 = .ok (.aload_n 0, 1) := by decide +kernel
theorem dX1_takeName_62 : decode cX1_takeName 62 = .ok (.getfield 41, 3) := by decide +kernel
theorem dX1_takeName_65 : decode cX1_takeName 65 = .ok (.iload_n 2, 1) := by decide +kernel
theorem dX1_takeName_66 : decode cX1_takeName 66 = .ok (.sipush 257, 3) := by decide +kernel
theorem dX1_takeName_69 : decode cX1_takeName 69 = .ok (.iadd, 1) := by decide +kernel
theorem dX1_takeName_70 : decode cX1_takeName 70 = .ok (.iconst 5, 1) := by decide +kernel
theorem dX1_takeName_71 : decode cX1_takeName 71 = .ok (.iadd, 1) := by decide +kernel
theorem dX1_takeName_72 : decode cX1_takeName 72 = .ok (.invokevirtual 94, 3) := by decide +kernel
theorem dX1_takeName_75 : decode cX1_takeName 75 = .ok (.ifCond .ne 16, 3) := by decide +kernel
theorem dX1_takeName_78 : decode cX1_takeName 78 = .ok (.aload_n 0, 1) := by decide +kernel
theorem dX1_takeName_79 : decode cX1_takeName 79 = .ok (.aload_n 1, 1) := by decide +kernel
theorem dX1_takeName_80 : decode cX1_takeName 80 = .ok (.iload_n 2, 1) := by decide +kernel
theorem dX1_takeName_81 : decode cX1_takeName 81 = .ok (.sipush 345, 3) := by decide +kernel
theorem dX1_takeName_84 : decode cX1_takeName 84 = .ok (.iadd, 1) := by decide +kernel
theorem dX1_takeName_85 : decode cX1_takeName 85 = .ok (.sipush 155, 3) := by decide +kernel
theorem dX1_takeName_88 : decode cX1_takeName 88 = .ok (.invokevirtual 204, 3) := by decide +kernel
theorem dX1_takeName_91 : decode cX1_takeName 91 = .ok (.aload_n 1, 1) := by decide +kernel
theorem dX1_takeName_92 : decode cX1_takeName 92 = .ok (.invokevirtual 68, 3) := by decide +kernel
theorem dX1_takeName_95 : decode cX1_takeName 95 = .ok (.ifCond .le 9, 3) := by decide +kernel
theorem dX1_takeName_98 : decode cX1_takeName 98 = .ok (.aload_n 1, 1) := by decide +kernel
theorem dX1_takeName_99 : decode cX1_takeName 99 = .ok (.bipush 47, 2) := by decide +kernel
theorem dX1_takeName_101 : decode cX1_takeName 101 = .ok (.invokevirtual 207, 3) := by decide +kernel
theorem dX1_takeName_104 : decode cX1_takeName 104 = .ok (.aload_n 0, 1) := by decide +kernel
theorem dX1_takeName_105 : decode cX1_takeName 105 = .ok (.aload_n 1, 1) := by decide +kernel
theorem dX1_takeName_106 : decode cX1_takeName 106 = .ok (.iload_n 2, 1) := by decide +kernel
theorem dX1_takeName_107 : decode cX1_takeName 107 = .ok (.iconst 0, 1) := by decide +kernel
theorem dX1_takeName_108 : decode cX1_takeName 108 = .ok (.iadd, 1) := by decide +kernel
theorem dX1_takeName_109 : decode cX1_takeName 109 = .ok (.bipush 100, 2) := by decide +kernel
theorem dX1_takeName_111 : decode cX1_takeName 111 = .ok (.invokevirtual 204, 3) := by decide +kernel
theorem dX1_takeName_114 : decode cX1_takeName 114 = .ok (.return_, 1) := by decide +kernel
theorem dX1_takeLink_0 : decode cX1_takeLink 0 = .ok (.aload_n 1, 1) := by decide +kernel
theorem dX1_takeLink_1 : decode cX1_takeLink 1 = .ok (.invokevirtual 197, 3) := by decide +kernel
theorem dX1_takeLink_4 : decode cX1_takeLink 4 = .ok (.aload_n 0, 1) := by decide +kernel
theorem dX1_takeLink_5 : decode cX1_takeLink 5 = .ok (.getfield 20, 3) := by decide +kernel
theorem dX1_takeLink_8 : decode cX1_takeLink 8 = .ok (.getfield 129, 3) := by decide +kernel
theorem dX1_takeLink_11 : decode cX1_takeLink 11 = .ok (.invokevirtual 68, 3) := by decide +kernel
theorem dX1_takeLink_14 : decode cX1_takeLink 14 = .ok (.ifCond .le 13, 3) := by decide +kernel
theorem dX1_takeLink_17 : decode cX1_takeLink 17 = .ok (.aload_n 0, 1) := by decide +kernel
theorem dX1_takeLink_18 : decode cX1_takeLink 18 = .ok (.getfield 20, 3) := by decide +kernel
theorem dX1_takeLink_21 : decode cX1_takeLink 21 = .ok (.getfield 129, 3) := by decide +kernel
theorem dX1_takeLink_24 : decode cX1_takeLink 24 = .ok (.goto 10, 3) := by decide +kernel
theorem dX1_takeLink_27 : decode cX1_takeLink 27 = .ok (.aload_n 0, 1) := by decide +kernel
theorem dX1_takeLink_28 : decode cX1_takeLink 28 = .ok (.getfield 24, 3) := by decide +kernel
theorem dX1_takeLink_31 : decode cX1_takeLink 31 = .ok (.getfield 129, 3) := by decide +kernel
theorem dX1_takeLink_34 : decode cX1_takeLink 34 = .ok (.astore_n 3, 1) := by decide +kernel
theorem dX1_takeLink_35 : decode cX1_takeLink 35 = .ok (.aload_n 3, 1) := by decide +kernel
theorem dX1_takeLink_36 : decode cX1_takeLink 36 = .ok (.invokevirtual 68, 3) := by decide +kernel
theorem dX1_takeLink_39 : decode cX1_takeLink 39 = .ok (.ifCond .le 16, 3) := by decide +kernel
theorem dX1_takeLink_42 : decode cX1_takeLink 42 = .ok (.aload_n 1, 1) := by decide +kernel
theorem dX1_takeLink_43 : decode cX1_takeLink 43 = .ok (.aload_n 3, 1) := by decide +kernel
theorem dX1_takeLink_44 : decode cX1_takeLink 44 = .ok (.iconst 0, 1) := by decide +kernel
theorem dX1_takeLink_45 : decode cX1_takeLink 45 = .ok (.aload_n 3, 1) := by decide +kernel
theorem dX1_takeLink_46 : decode cX1_takeLink 46 = .ok (.invokevirtual 68, 3) := by decide +kernel
theorem dX1_takeLink_49 : decode cX1_takeLink 49 = .ok (.invokevirtual 200, 3) := by decide +kernel
theorem dX1_takeLink_52 : decode cX1_takeLink 52 = .ok (.goto 15, 3) := by decide +kernel
theorem dX1_takeLink_55 : decode cX1_takeLink 55 = .ok (.aload_n 0, 1) := by decide +kernel
theorem dX1_takeLink_56 : decode cX1_takeLink 56 = .ok (.aload_n 1, 1) := by decide +kernel
theorem dX1_takeLink_57 : decode cX1_takeLink 57 = .ok (.iload_n 2, 1) := by decide +kernel
theorem dX1_takeLink_58 : decode cX1_takeLink 58 = .ok (.sipush 157, 3) := by decide +kernel
theorem dX1_takeLink_61 : decode cX1_takeLink 61 = .ok (.iadd, 1) := by decide +kernel
theorem dX1_takeLink_62 : decode cX1_takeLink 62 = .ok (.bipush 100, 2) := by decide +kernel
theorem dX1_takeLink_64 : decode cX1_takeLink 64 = .ok (.invokevirtual 204, 3) := by decide +kernel
theorem dX1_takeLink_67 : decode cX1_takeLink 67 = .ok (.return_, 1) := by decide +kernel
theorem dX1_addField_0 : decode cX1_addField 0 = .ok (.aload_n 1, 1) := by decide +kernel
theorem dX1_addField_1 : decode cX1_addField 1 = .ok (.aload_n 0, 1) := by decide +kernel
theorem dX1_addField_2 : decode cX1_addField 2 = .ok (.getfield 41, 3) := by decide +kernel
theorem dX1_addField_5 : decode cX1_addField 5 = .ok (.iload_n 2, 1) := by decide +kernel
theorem dX1_addField_6 : decode cX1_addField 6 = .ok (.aload_n 0, 1) := by decide +kernel
theorem dX1_addField_7 : decode cX1_addField 7 = .ok (.getfield 41, 3) := by decide +kernel
theorem dX1_addField_10 : decode cX1_addField 10 = .ok (.iconst 0, 1) := by decide +kernel
theorem dX1_addField_11 : decode cX1_addField 11 = .ok (.iload_n 2, 1) := by decide +kernel
theorem dX1_addField_12 : decode cX1_addField 12 = .ok (.iload_n 2, 1) := by decide +kernel
theorem dX1_addField_13 : decode cX1_addField 13 = .ok (.iload_n 3, 1) := by decide +kernel
theorem dX1_addField_14 : decode cX1_addField 14 = .ok (.iadd, 1) := by decide +kernel
theorem dX1_addField_15 : decode cX1_addField 15 = .ok (.invokevirtual 139, 3) := by decide +kernel
theorem dX1_addField_18 : decode cX1_addField 18 = .ok (.invokevirtual 200, 3) := by decide +kernel
theorem dX1_addField_21 : decode cX1_addField 21 = .ok (.return_, 1) := by decide +kernel
theorem dX1_hasMagic_0 : decode cX1_hasMagic 0 = .ok (.aload_n 0, 1) := by decide +kernel
theorem dX1_hasMagic_1 : decode cX1_hasMagic 1 = .ok (.getfield 41, 3) := by decide +kernel
theorem dX1_hasMagic_4 : decode cX1_hasMagic 4 = .ok (.iload_n 1, 1) := by decide +kernel
theorem dX1_hasMagic_5 : decode cX1_hasMagic 5 = .ok (.sipush 257, 3) := by decide +kernel
theorem dX1_hasMagic_8 : decode cX1_hasMagic 8 = .ok (.iadd, 1) := by decide +kernel
theorem dX1_hasMagic_9 : decode cX1_hasMagic 9 = .ok (.iload_n 1, 1) := by decide +kernel
theorem dX1_hasMagic_10 : decode cX1_hasMagic 10 = .ok (.sipush 257, 3) := by decide +kernel
theorem dX1_hasMagic_13 : decode cX1_hasMagic 13 = .ok (.iadd, 1) := by decide +kernel
theorem dX1_hasMagic_14 : decode cX1_hasMagic 14 = .ok (.iconst 5, 1) := by decide +kernel
theorem dX1_hasMagic_15 : decode cX1_hasMagic 15 = .ok (.iadd, 1) := by decide +kernel
theorem dX1_hasMagic_16 : decode cX1_hasMagic 16 = .ok (.ldc 211, 2) := by decide +kernel
theorem dX1_hasMagic_18 : decode cX1_hasMagic 18 = .ok (.invokevirtual 213, 3) := by decide +kernel
theorem dX1_hasMagic_21 : decode cX1_hasMagic 21 = .ok (.ireturn, 1) := by decide +kernel
theorem dX2_init_0 : decode cX2_init 0 = .ok (.aload_n 0, 1) := by decide +kernel
theorem dX2_init_1 : decode cX2_init 1 = .ok (.invokespecial 3, 3) := by decide +kernel
theorem dX2_init_4 : decode cX2_init 4 = .ok (.aload_n 0, 1) := by decide +kernel
theorem dX2_init_5 : decode cX2_init 5 = .ok (.new 9, 3) := by decide +kernel
theorem dX2_init_8 : decode cX2_init 8 = .ok (.dup, 1) := by decide +kernel
theorem dX2_init_9 : decode cX2_init 9 = .ok (.sipush 1024, 3) := by decide +kernel
theorem dX2_init_12 : decode cX2_init 12 = .ok (.invokespecial 11, 3) := by decide +kernel
theorem dX2_init_15 : decode cX2_init 15 = .ok (.putfield 14, 3) := by decide +kernel
theorem dX2_init_18 : decode cX2_init 18 = .ok (.aload_n 0, 1) := by decide +kernel
theorem dX2_init_19 : decode cX2_init 19 = .ok (.new 9, 3) := by decide +kernel
theorem dX2_init_22 : decode cX2_init 22 = .ok (.dup, 1) := by decide +kernel
theorem dX2_init_23 : decode cX2_init 23 = .ok (.bipush 40, 2) := by decide +kernel
theorem dX2_init_25 : decode cX2_init 25 = .ok (.invokespecial 11, 3) := by decide +kernel
theorem dX2_init_28 : decode cX2_init 28 = .ok (.putfield 20, 3) := by decide +kernel
theorem dX2_init_31 : decode cX2_init 31 = .ok (.aload_n 0, 1) := by decide +kernel
theorem dX2_init_32 : decode cX2_init 32 = .ok (.aload_n 1, 1) := by decide +kernel
theorem dX2_init_33 : decode cX2_init 33 = .ok (.putfield 23, 3) := by decide +kernel
theorem dX2_init_36 : decode cX2_init 36 = .ok (.return_, 1) := by decide +kernel
theorem dX2_lengthOf_0 : decode cX2_lengthOf 0 = .ok (.sipush 512, 3) := by decide +kernel
theorem dX2_lengthOf_3 : decode cX2_lengthOf 3 = .ok (.aload_n 1, 1) := by decide +kernel
theorem dX2_lengthOf_4 : decode cX2_lengthOf 4 = .ok (.getfield 26, 3) := by decide +kernel
theorem dX2_lengthOf_7 : decode cX2_lengthOf 7 = .ok (.invokestatic 32, 3) := by decide +kernel
theorem dX2_lengthOf_10 : decode cX2_lengthOf 10 = .ok (.iadd, 1) := by decide +kernel
theorem dX2_lengthOf_11 : decode cX2_lengthOf 11 = .ok (.istore_n 3, 1) := by decide +kernel
theorem dX2_lengthOf_12 : decode cX2_lengthOf 12 = .ok (.iload_n 2, 1) := by decide +kernel
theorem dX2_lengthOf_13 : decode cX2_lengthOf 13 = .ok (.iconst 2, 1) := by decide +kernel
theorem dX2_lengthOf_14 : decode cX2_lengthOf 14 = .ok (.if_icmp .ne 39, 3) := by decide +kernel
theorem dX2_lengthOf_17 : decode cX2_lengthOf 17 = .ok (.aload_n 0, 1) := by decide +kernel
theorem dX2_lengthOf_18 : decode cX2_lengthOf 18 = .ok (.aload_n 1, 1) := by decide +kernel
theorem dX2_lengthOf_19 : decode cX2_lengthOf 19 = .ok (.invokevirtual 36, 3) := by decide +kernel
theorem dX2_lengthOf_22 : decode cX2_lengthOf 22 = .ok (.iload_n 3, 1) := by decide +kernel
theorem dX2_lengthOf_23 : decode cX2_lengthOf 23 = .ok (.aload_n 0, 1) := by decide +kernel
theorem dX2_lengthOf_24 : decode cX2_lengthOf 24 = .ok (.getfield 14, 3) := by decide +kernel
theorem dX2_lengthOf_27 : decode cX2_lengthOf 27 = .ok (.invokevirtual 40, 3) := by decide +kernel
theorem dX2_lengthOf_30 : decode cX2_lengthOf 30 = .ok (.ifCond .le 20, 3) := by decide +kernel
theorem dX2_lengthOf_33 : decode cX2_lengthOf 33 = .ok (.sipush 512, 3) := by decide +kernel
theorem dX2_lengthOf_36 : decode cX2_lengthOf 36 = .ok (.aload_n 0, 1) := by decide +kernel
theorem dX2_lengthOf_37 : decode cX2_lengthOf 37 = .ok (.getfield 14, 3) := by decide +kernel
theorem dX2_lengthOf_40 : decode cX2_lengthOf 40 = .ok (.invokevirtual 40, 3) := by decide +kernel
theorem dX2_lengthOf_43 : decode cX2_lengthOf 43 = .ok (.invokestatic 32, 3) := by decide +kernel
theorem dX2_lengthOf_46 : decode cX2_lengthOf 46 = .ok (.iadd, 1) := by decide +kernel
theorem dX2_lengthOf_47 : decode cX2_lengthOf 47 = .ok (.goto 4, 3) := by decide +kernel
theorem dX2_lengthOf_50 : decode cX2_lengthOf 50 = .ok (.iconst 0, 1) := by decide +kernel
theorem dX2_lengthOf_51 : decode cX2_lengthOf 51 = .ok (.iadd, 1) := by decide +kernel
theorem dX2_lengthOf_52 : decode cX2_lengthOf 52 = .ok (.istore_n 3, 1) := by decide +kernel
theorem dX2_lengthOf_53 : decode cX2_lengthOf 53 = .ok (.iload_n 2, 1) := by decide +kernel
theorem dX2_lengthOf_54 : decode cX2_lengthOf 54 = .ok (.iconst 3, 1) := by decide +kernel
theorem dX2_lengthOf_55 : decode cX2_lengthOf 55 = .ok (.if_icmp .ne 21, 3) := by decide +kernel
theorem dX2_lengthOf_58 : decode cX2_lengthOf 58 = .ok (.iload_n 3, 1) := by decide +kernel
theorem dX2_lengthOf_59 : decode cX2_lengthOf 59 = .ok (.aload_n 1, 1) := by decide +kernel
theorem dX2_lengthOf_60 : decode cX2_lengthOf 60 = .ok (.getfield 44, 3) := by decide +kernel
theorem dX2_lengthOf_63 : decode cX2_lengthOf 63 = .ok (.invokestatic 47, 3) := by decide +kernel
theorem dX2_lengthOf_66 : decode cX2_lengthOf 66 = .ok (.aload_n 1, 1) := by decide +kernel
theorem dX2_lengthOf_67 : decode cX2_lengthOf 67 = .ok (.getfield 51, 3) := by decide +kernel
theorem dX2_lengthOf_70 : decode cX2_lengthOf 70 = .ok (.invokestatic 47, 3) := by decide +kernel
theorem dX2_lengthOf_73 : decode cX2_lengthOf 73 = .ok (.iadd, 1) := by decide +kernel
theorem dX2_lengthOf_74 : decode cX2_lengthOf 74 = .ok (.iadd, 1) := by decide +kernel
theorem dX2_lengthOf_75 : decode cX2_lengthOf 75 = .ok (.istore_n 3, 1) := by decide +kernel
theorem dX2_lengthOf_76 : decode cX2_lengthOf 76 = .ok (.iload_n 3, 1) := by decide +kernel
theorem dX2_lengthOf_77 : decode cX2_lengthOf 77 = .ok (.ireturn, 1) := by decide +kernel
theorem dX2_longLength_0 : decode cX2_longLength 0 = .ok (.aload_n 0, 1) := by decide +kernel
theorem dX2_longLength_1 : decode cX2_longLength 1 = .ok (.invokevirtual 40, 3) := by decide +kernel
theorem dX2_longLength_4 : decode cX2_longLength 4 = .ok (.bipush 100, 2) := by decide +kernel
theorem dX2_longLength_6 : decode cX2_longLength 6 = .ok (.if_icmp .le 19, 3) := by decide +kernel
theorem dX2_longLength_9 : decode cX2_longLength 9 = .ok (.sipush 512, 3) := by decide +kernel
theorem dX2_longLength_12 : decode cX2_longLength 12 = .ok (.aload_n 0, 1) := by decide +kernel
theorem dX2_longLength_13 : decode cX2_longLength 13 = .ok (.invokevirtual 40, 3) := by decide +kernel
theorem dX2_longLength_16 : decode cX2_longLength 16 = .ok (.iconst 1, 1) := by decide +kernel
theorem dX2_longLength_17 : decode cX2_longLength 17 = .ok (.iadd, 1) := by decide +kernel
theorem dX2_longLength_18 : decode cX2_longLength 18 = .ok (.invokestatic 32, 3) := by decide +kernel
theorem dX2_longLength_21 : decode cX2_longLength 21 = .ok (.iadd, 1) := by decide +kernel
theorem dX2_longLength_22 : decode cX2_longLength 22 = .ok (.goto 4, 3) := by decide +kernel
theorem dX2_longLength_25 : decode cX2_longLength 25 = .ok (.iconst 0, 1) := by decide +kernel
theorem dX2_longLength_26 : decode cX2_longLength 26 = .ok (.ireturn, 1) := by decide +kernel
theorem dX2_append_0 : decode cX2_append 0 = .ok (.iload_n 2, 1) := by decide +kernel
theorem dX2_append_1 : decode cX2_append 1 = .ok (.iconst 2, 1) := by decide +kernel
theorem dX2_append_2 : decode cX2_append 2 = .ok (.if_icmp .ne 8, 3) := by decide +kernel
theorem dX2_append_5 : decode cX2_append 5 = .ok (.aload_n 0, 1) := by decide +kernel
theorem dX2_append_6 : decode cX2_append 6 = .ok (.aload_n 1, 1) := by decide +kernel
theorem dX2_append_7 : decode cX2_append 7 = .ok (.invokevirtual 54, 3) := by decide +kernel
theorem dX2_append_10 : decode cX2_append 10 = .ok (.iload_n 2, 1) := by decide +kernel
theorem dX2_append_11 : decode cX2_append 11 = .ok (.iconst 3, 1) := by decide +kernel
theorem dX2_append_12 : decode cX2_append 12 = .ok (.if_icmp .ne 23, 3) := by decide +kernel
theorem dX2_append_15 : decode cX2_append 15 = .ok (.aload_n 0, 1) := by decide +kernel
theorem dX2_append_16 : decode cX2_append 16 = .ok (.bipush 75, 2) := by decide +kernel
theorem dX2_append_18 : decode cX2_append 18 = .ok (.aload_n 1, 1) := by decide +kernel
theorem dX2_append_19 : decode cX2_append 19 = .ok (.getfield 44, 3) := by decide +kernel
theorem dX2_append_22 : decode cX2_append 22 = .ok (.invokevirtual 57, 3) := by decide +kernel
theorem dX2_append_25 : decode cX2_append 25 = .ok (.aload_n 0, 1) := by decide +kernel
theorem dX2_append_26 : decode cX2_append 26 = .ok (.bipush 76, 2) := by decide +kernel
theorem dX2_append_28 : decode cX2_append 28 = .ok (.aload_n 1, 1) := by decide +kernel
theorem dX2_append_29 : decode cX2_append 29 = .ok (.getfield 51, 3) := by decide +kernel
theorem dX2_append_32 : decode cX2_append 32 = .ok (.invokevirtual 57, 3) := by decide +kernel
theorem dX2_append_35 : decode cX2_append 35 = .ok (.aload_n 0, 1) := by decide +kernel
theorem dX2_append_36 : decode cX2_append 36 = .ok (.aload_n 1, 1) := by decide +kernel
theorem dX2_append_37 : decode cX2_append 37 = .ok (.getfield 61, 3) := by decide +kernel
theorem dX2_append_40 : decode cX2_append 40 = .ok (.aload_n 1, 1) := by decide +kernel
theorem dX2_append_41 : decode cX2_append 41 = .ok (.getfield 64, 3) := by decide +kernel
theorem dX2_append_44 : decode cX2_append 44 = .ok (.iconst 0, 1) := by decide +kernel
theorem dX2_append_45 : decode cX2_append 45 = .ok (.laload, 1) := by decide +kernel
theorem dX2_append_46 : decode cX2_append 46 = .ok (.aload_n 1, 1) := by decide +kernel
theorem dX2_append_47 : decode cX2_append 47 = .ok (.getfield 26, 3) := by decide +kernel
theorem dX2_append_50 : decode cX2_append 50 = .ok (.iload_n 2, 1) := by decide +kernel
theorem dX2_append_51 : decode cX2_append 51 = .ok (.invokevirtual 68, 3) := by decide +kernel
theorem dX2_append_54 : decode cX2_append 54 = .ok (.istore_n 3, 1) := by decide +kernel
theorem dX2_append_55 : decode cX2_append 55 = .ok (.aload_n 0, 1) := by decide +kernel
theorem dX2_append_56 : decode cX2_append 56 = .ok (.iload_n 3, 1) := by decide +kernel
theorem dX2_append_57 : decode cX2_append 57 = .ok (.aload_n 1, 1) := by decide +kernel
theorem dX2_append_58 : decode cX2_append 58 = .ok (.iload_n 2, 1) := by decide +kernel
theorem dX2_append_59 : decode cX2_append 59 = .ok (.invokevirtual 72, 3) := by decide +kernel
theorem dX2_append_62 : decode cX2_append 62 = .ok (.aload_n 0, 1) := by decide +kernel
theorem dX2_append_63 : decode cX2_append 63 = .ok (.iload_n 3, 1) := by decide +kernel
theorem dX2_append_64 : decode cX2_append 64 = .ok (.bipush 108, 2) := by decide +kernel
theorem dX2_append_66 : decode cX2_append 66 = .ok (.iadd, 1) := by decide +kernel
theorem dX2_append_67 : decode cX2_append 67 = .ok (.bipush 8, 2) := by decide +kernel
theorem dX2_append_69 : decode cX2_append 69 = .ok (.aload_n 1, 1) := by decide +kernel
theorem dX2_append_70 : decode cX2_append 70 = .ok (.getfield 64, 3) := by decide +kernel
theorem dX2_append_73 : decode cX2_append 73 = .ok (.iconst 1, 1) := by decide +kernel
theorem dX2_append_74 : decode cX2_append 74 = .ok (.laload, 1) := by decide +kernel
theorem dX2_append_75 : decode cX2_append 75 = .ok (.iload_n 2, 1) := by decide +kernel
theorem dX2_append_76 : decode cX2_append 76 = .ok (.invokevirtual 76, 3) := by decide +kernel
theorem dX2_append_79 : decode cX2_append 79 = .ok (.aload_n 0, 1) := by decide +kernel
theorem dX2_append_80 : decode cX2_append 80 = .ok (.iload_n 3, 1) := by decide +kernel
theorem dX2_append_81 : decode cX2_append 81 = .ok (.bipush 116, 2) := by decide +kernel
theorem dX2_append_83 : decode cX2_append 83 = .ok (.iadd, 1) := by decide +kernel
theorem dX2_append_84 : decode cX2_append 84 = .ok (.bipush 8, 2) := by decide +kernel
theorem dX2_append_86 : decode cX2_append 86 = .ok (.aload_n 1, 1) := by decide +kernel
theorem dX2_append_87 : decode cX2_append 87 = .ok (.getfield 64, 3) := by decide +kernel
theorem dX2_append_90 : decode cX2_append 90 = .ok (.iconst 2, 1) := by decide +kernel
theorem dX2_append_91 : decode cX2_append 91 = .ok (.laload, 1) := by decide +kernel
theorem dX2_append_92 : decode cX2_append 92 = .ok (.iload_n 2, 1) := by decide +kernel
theorem dX2_append_93 : decode cX2_append 93 = .ok (.invokevirtual 76, 3) := by decide +kernel
theorem dX2_append_96 : decode cX2_append 96 = .ok (.aload_n 0, 1) := by decide +kernel
theorem dX2_append_97 : decode cX2_append 97 = .ok (.iload_n 3, 1) := by decide +kernel
theorem dX2_append_98 : decode cX2_append 98 = .ok (.sipush 136, 3) := by decide +kernel
theorem dX2_append_101 : decode cX2_append 101 = .ok (.iadd, 1) := by decide +kernel
theorem dX2_append_102 : decode cX2_append 102 = .ok (.bipush 12, 2) := by decide +kernel
theorem dX2_append_104 : decode cX2_append 104 = .ok (.aload_n 1, 1) := by decide +kernel
theorem dX2_append_105 : decode cX2_append 105 = .ok (.getfield 64, 3) := by decide +kernel
theorem dX2_append_108 : decode cX2_append 108 = .ok (.iconst 3, 1) := by decide +kernel
theorem dX2_append_109 : decode cX2_append 109 = .ok (.laload, 1) := by decide +kernel
theorem dX2_append_110 : decode cX2_append 110 = .ok (.iload_n 2, 1) := by decide +kernel
theorem dX2_append_111 : decode cX2_append 111 = .ok (.invokevirtual 76, 3) := by decide +kernel
theorem dX2_append_114 : decode cX2_append 114 = .ok (.aload_n 0, 1) := by decide +kernel
theorem dX2_append_115 : decode cX2_append 115 = .ok (.iload_n 3, 1) := by decide +kernel
theorem dX2_append_116 : decode cX2_append 116 = .ok (.invokevirtual 80, 3) := by decide +kernel
theorem dX2_append_119 : decode cX2_append 119 = .ok (.pop, 1) := by decide +kernel
theorem dX2_append_120 : decode cX2_append 120 = .ok (.iconst 0, 1) := by decide +kernel
theorem dX2_append_121 : decode cX2_append 121 = .ok (.istore 4, 2) := by decide +kernel
theorem dX2_append_123 : decode cX2_append 123 = .ok (.iload 4, 2) := by decide +kernel
theorem dX2_append_125 : decode cX2_append 125 = .ok (.aload_n 1, 1) := by decide +kernel
theorem dX2_append_126 : decode cX2_append 126 = .ok (.getfield 26, 3) := by decide +kernel
theorem dX2_append_129 : decode cX2_append 129 = .ok (.if_icmp .ge 22, 3) := by decide +kernel
theorem dX2_append_132 : decode cX2_append 132 = .ok (.aload_n 0, 1) := by decide +kernel
theorem dX2_append_133 : decode cX2_append 133 = .ok (.getfield 23, 3) := by decide +kernel
theorem dX2_append_136 : decode cX2_append 136 = .ok (.aload_n 1, 1) := by decide +kernel
theorem dX2_append_137 : decode cX2_append 137 = .ok (.iload 4, 2) := by decide +kernel
theorem dX2_append_139 : decode cX2_append 139 = .ok (.invokevirtual 83, 3) := by decide +kernel
theorem dX2_append_142 : decode cX2_append 142 = .ok (.invokevirtual 86, 3) := by decide +kernel
theorem dX2_append_145 : decode cX2_append 145 = .ok (.iinc 4 1, 3) := by decide +kernel
theorem dX2_append_148 : decode cX2_append 148 = .ok (.goto (-25), 3) := by decide +kernel
theorem dX2_append_151 : decode cX2_append 151 = .ok (.aload_n 0, 1) := by decide +kernel
theorem dX2_append_152 : decode cX2_append 152 = .ok (.invokevirtual 89, 3) := by decide +kernel
theorem dX2_append_155 : decode cX2_append 155 = .ok (.return_, 1) := by decide +kernel
theorem dX2_seal_0 : decode cX2_seal 0 = .ok (.aload_n 0, 1) := by decide +kernel
theorem dX2_seal_1 : decode cX2_seal 1 = .ok (.getfield 23, 3) := by decide +kernel
theorem dX2_seal_4 : decode cX2_seal 4 = .ok (.iload_n 1, 1) := by decide +kernel
theorem dX2_seal_5 : decode cX2_seal 5 = .ok (.iconst 0, 1) := by decide +kernel
theorem dX2_seal_6 : decode cX2_seal 6 = .ok (.invokestatic 92, 3) := by decide +kernel
theorem dX2_seal_9 : decode cX2_seal 9 = .ok (.istore_n 2, 1) := by decide +kernel
theorem dX2_seal_10 : decode cX2_seal 10 = .ok (.aload_n 0, 1) := by decide +kernel
theorem dX2_seal_11 : decode cX2_seal 11 = .ok (.getfield 23, 3) := by decide +kernel
theorem dX2_seal_14 : decode cX2_seal 14 = .ok (.iload_n 1, 1) := by decide +kernel
theorem dX2_seal_15 : decode cX2_seal 15 = .ok (.sipush 148, 3) := by decide +kernel
theorem dX2_seal_18 : decode cX2_seal 18 = .ok (.iadd, 1) := by decide +kernel
theorem dX2_seal_19 : decode cX2_seal 19 = .ok (.bipush 6, 2) := by decide +kernel
theorem dX2_seal_21 : decode cX2_seal 21 = .ok (.iload_n 2, 1) := by decide +kernel
theorem dX2_seal_22 : decode cX2_seal 22 = .ok (.i2l, 1) := by decide +kernel
theorem dX2_seal_23 : decode cX2_seal 23 = .ok (.invokevirtual 96, 3) := by decide +kernel
theorem dX2_seal_26 : decode cX2_seal 26 = .ok (.aload_n 0, 1) := by decide +kernel
theorem dX2_seal_27 : decode cX2_seal 27 = .ok (.getfield 23, 3) := by decide +kernel
theorem dX2_seal_30 : decode cX2_seal 30 = .ok (.iload_n 1, 1) := by decide +kernel
theorem dX2_seal_31 : decode cX2_seal 31 = .ok (.sipush 148, 3) := by decide +kernel
theorem dX2_seal_34 : decode cX2_seal 34 = .ok (.iadd, 1) := by decide +kernel
theorem dX2_seal_35 : decode cX2_seal 35 = .ok (.bipush 8, 2) := by decide +kernel
theorem dX2_seal_37 : decode cX2_seal 37 = .ok (.iadd, 1) := by decide +kernel
theorem dX2_seal_38 : decode cX2_seal 38 = .ok (.iconst 2, 1) := by decide +kernel
theorem dX2_seal_39 : decode cX2_seal 39 = .ok (.isub, 1) := by decide +kernel
theorem dX2_seal_40 : decode cX2_seal 40 = .ok (.iconst 0, 1) := by decide +kernel
theorem dX2_seal_41 : decode cX2_seal 41 = .ok (.invokevirtual 100, 3) := by decide +kernel
theorem dX2_seal_44 : decode cX2_seal 44 = .ok (.aload_n 0, 1) := by decide +kernel
theorem dX2_seal_45 : decode cX2_seal 45 = .ok (.getfield 23, 3) := by decide +kernel
theorem dX2_seal_48 : decode cX2_seal 48 = .ok (.iload_n 1, 1) := by decide +kernel
theorem dX2_seal_49 : decode cX2_seal 49 = .ok (.sipush 148, 3) := by decide +kernel
theorem dX2_seal_52 : decode cX2_seal 52 = .ok (.iadd, 1) := by decide +kernel
theorem dX2_seal_53 : decode cX2_seal 53 = .ok (.bipush 8, 2) := by decide +kernel
theorem dX2_seal_55 : decode cX2_seal 55 = .ok (.iadd, 1) := by decide +kernel
theorem dX2_seal_56 : decode cX2_seal 56 = .ok (.iconst 1, 1) := by decide +kernel
theorem dX2_seal_57 : decode cX2_seal 57 = .ok (.isub, 1) := by decide +kernel
theorem dX2_seal_58 : decode cX2_seal 58 = .ok (.bipush 32, 2) := by decide +kernel
theorem dX2_seal_60 : decode cX2_seal 60 = .ok (.invokevirtual 100, 3) := by decide +kernel
theorem dX2_seal_63 : decode cX2_seal 63 = .ok (.iload_n 2, 1) := by decide +kernel
theorem dX2_seal_64 : decode cX2_seal 64 = .ok (.ireturn, 1) := by decide +kernel
theorem dX2_beginHead_0 : decode cX2_beginHead 0 = .ok (.aload_n 0, 1) := by decide +kernel
theorem dX2_beginHead_1 : decode cX2_beginHead 1 = .ok (.getfield 23, 3) := by decide +kernel
theorem dX2_beginHead_4 : decode cX2_beginHead 4 = .ok (.invokevirtual 40, 3) := by decide +kernel
theorem dX2_beginHead_7 : decode cX2_beginHead 7 = .ok (.istore 6, 2) := by decide +kernel
theorem dX2_beginHead_9 : decode cX2_beginHead 9 = .ok (.aload_n 0, 1) := by decide +kernel
theorem dX2_beginHead_10 : decode cX2_beginHead 10 = .ok (.getfield 23, 3) := by decide +kernel
theorem dX2_beginHead_13 : decode cX2_beginHead 13 = .ok (.sipush 512, 3) := by decide +kernel
theorem dX2_beginHead_16 : decode cX2_beginHead 16 = .ok (.invokevirtual 104, 3) := by decide +kernel
theorem dX2_beginHead_19 : decode cX2_beginHead 19 = .ok (.aload_n 0, 1) := by decide +kernel
theorem dX2_beginHead_20 : decode cX2_beginHead 20 = .ok (.iload 6, 2) := by decide +kernel
theorem dX2_beginHead_22 : decode cX2_beginHead 22 = .ok (.bipush 100, 2) := by decide +kernel
theorem dX2_beginHead_24 : decode cX2_beginHead 24 = .ok (.iadd, 1) := by decide +kernel
theorem dX2_beginHead_25 : decode cX2_beginHead 25 = .ok (.bipush 8, 2) := by decide +kernel
theorem dX2_beginHead_27 : decode cX2_beginHead 27 = .ok (.lload_n 2, 1) := by decide +kernel
theorem dX2_beginHead_28 : decode cX2_beginHead 28 = .ok (.invokevirtual 107, 3) := by decide +kernel
theorem dX2_beginHead_31 : decode cX2_beginHead 31 = .ok (.aload_n 0, 1) := by decide +kernel
theorem dX2_beginHead_32 : decode cX2_beginHead 32 = .ok (.iload 6, 2) := by decide +kernel
theorem dX2_beginHead_34 : decode cX2_beginHead 34 = .ok (.bipush 124, 2) := by decide +kernel
theorem dX2_beginHead_36 : decode cX2_beginHead 36 = .ok (.iadd, 1) := by decide +kernel
theorem dX2_beginHead_37 : decode cX2_beginHead 37 = .ok (.bipush 12, 2) := by decide +kernel
theorem dX2_beginHead_39 : decode cX2_beginHead 39 = .ok (.iload 4, 2) := by decide +kernel
theorem dX2_beginHead_41 : decode cX2_beginHead 41 = .ok (.i2l, 1) := by decide +kernel
theorem dX2_beginHead_42 : decode cX2_beginHead 42 = .ok (.invokevirtual 107, 3) := by decide +kernel
theorem dX2_beginHead_45 : decode cX2_beginHead 45 = .ok (.aload_n 0, 1) := by decide +kernel
theorem dX2_beginHead_46 : decode cX2_beginHead 46 = .ok (.getfield 23, 3) := by decide +kernel
theorem dX2_beginHead_49 : decode cX2_beginHead 49 = .ok (.iload 6, 2) := by decide +kernel
theorem dX2_beginHead_51 : decode cX2_beginHead 51 = .ok (.sipush 156, 3) := by decide +kernel
theorem dX2_beginHead_54 : decode cX2_beginHead 54 = .ok (.iadd, 1) := by decide +kernel
theorem dX2_beginHead_55 : decode cX2_beginHead 55 = .ok (.iload_n 1, 1) := by decide +kernel
theorem dX2_beginHead_56 : decode cX2_beginHead 56 = .ok (.invokevirtual 100, 3) := by decide +kernel
theorem dX2_beginHead_59 : decode cX2_beginHead 59 = .ok (.iload 5, 2) := by decide +kernel
theorem dX2_beginHead_61 : decode cX2_beginHead 61 = .ok (.iconst 3, 1) := by decide +kernel
theorem dX2_beginHead_62 : decode cX2_beginHead 62 = .ok (.if_icmp .ne 22, 3) := by decide +kernel
theorem dX2_beginHead_65 : decode cX2_beginHead 65 = .ok (.aload_n 0, 1) := by decide +kernel
theorem dX2_beginHead_66 : decode cX2_beginHead 66 = .ok (.getfield 23, 3) := by decide +kernel
theorem dX2_beginHead_69 : decode cX2_beginHead 69 = .ok (.iload 6, 2) := by decide +kernel
theorem dX2_beginHead_71 : decode cX2_beginHead 71 = .ok (.sipush 257, 3) := by decide +kernel
theorem dX2_beginHead_74 : decode cX2_beginHead 74 = .ok (.iadd, 1) := by decide +kernel
theorem dX2_beginHead_75 : decode cX2_beginHead 75 = .ok (.getstatic 110, 3) := by decide +kernel
theorem dX2_beginHead_78 : decode cX2_beginHead 78 = .ok (.invokevirtual 114, 3) := by decide +kernel
theorem dX2_beginHead_81 : decode cX2_beginHead 81 = .ok (.goto 24, 3) := by decide +kernel
theorem dX2_beginHead_84 : decode cX2_beginHead 84 = .ok (.iload 5, 2) := by decide +kernel
theorem dX2_beginHead_86 : decode cX2_beginHead 86 = .ok (.ifCond .eq 19, 3) := by decide +kernel
theorem dX2_beginHead_89 : decode cX2_beginHead 89 = .ok (.aload_n 0, 1) := by decide +kernel
theorem dX2_beginHead_90 : decode cX2_beginHead 90 = .ok (.getfield 23, 3) := by decide +kernel
theorem dX2_beginHead_93 : decode cX2_beginHead 93 = .ok (.iload 6, 2) := by decide +kernel
theorem dX2_beginHead_95 : decode cX2_beginHead 95 = .ok (.sipush 257, 3) := by decide +kernel
theorem dX2_beginHead_98 : decode cX2_beginHead 98 = .ok (.iadd, 1) := by decide +kernel
theorem dX2_beginHead_99 : decode cX2_beginHead 99 = .ok (.getstatic 118, 3) := by decide +kernel
theorem dX2_beginHead_102 : decode cX2_beginHead 102 = .ok (.invokevirtual 114, 3) := by decide +kernel
theorem dX2_beginHead_105 : decode cX2_beginHead 105 = .ok (.iload 6, 2) := by decide +kernel
theorem dX2_beginHead_107 : decode cX2_beginHead 107 = .ok (.ireturn, 1) := by decide +kernel
theorem dX2_setNames_0 : decode cX2_setNames 0 = .ok (.aload_n 2, 1) := by decide +kernel
theorem dX2_setNames_1 : decode cX2_setNames 1 = .ok (.getfield 51, 3) := by decide +kernel
theorem dX2_setNames_4 : decode cX2_setNames 4 = .ok (.invokevirtual 40, 3) := by decide +kernel
theorem dX2_setNames_7 : decode cX2_setNames 7 = .ok (.istore 4, 2) := by decide +kernel
theorem dX2_setNames_9 : decode cX2_setNames 9 = .ok (.iload 4, 2) := by decide +kernel
theorem dX2_setNames_11 : decode cX2_setNames 11 = .ok (.bipush 100, 2) := by decide +kernel
theorem dX2_setNames_13 : decode cX2_setNames 13 = .ok (.if_icmp .le 17, 3) := by decide +kernel
theorem dX2_setNames_16 : decode cX2_setNames 16 = .ok (.iload_n 3, 1) := by decide +kernel
theorem dX2_setNames_17 : decode cX2_setNames 17 = .ok (.iconst 1, 1) := by decide +kernel
theorem dX2_setNames_18 : decode cX2_setNames 18 = .ok (.if_icmp .eq 8, 3) := by decide +kernel
theorem dX2_setNames_21 : decode cX2_setNames 21 = .ok (.iload_n 3, 1) := by decide +kernel
theorem dX2_setNames_22 : decode cX2_setNames 22 = .ok (.iconst 2, 1) := by decide +kernel
theorem dX2_setNames_23 : decode cX2_setNames 23 = .ok (.if_icmp .ne 7, 3) := by decide +kernel
theorem dX2_setNames_26 : decode cX2_setNames 26 = .ok (.iconst 1, 1) := by decide +kernel
theorem dX2_setNames_27 : decode cX2_setNames 27 = .ok (.goto 4, 3) := by decide +kernel
theorem dX2_setNames_30 : decode cX2_setNames 30 = .ok (.iconst 0, 1) := by decide +kernel
theorem dX2_setNames_31 : decode cX2_setNames 31 = .ok (.istore 5, 2) := by decide +kernel
theorem dX2_setNames_33 : decode cX2_setNames 33 = .ok (.iload 5, 2) := by decide +kernel
theorem dX2_setNames_35 : decode cX2_setNames 35 = .ok (.ifCond .eq 10, 3) := by decide +kernel
theorem dX2_setNames_38 : decode cX2_setNames 38 = .ok (.aload_n 2, 1) := by decide +kernel
theorem dX2_setNames_39 : decode cX2_setNames 39 = .ok (.invokevirtual 121, 3) := by decide +kernel
theorem dX2_setNames_42 : decode cX2_setNames 42 = .ok (.goto 4, 3) := by decide +kernel
theorem dX2_setNames_45 : decode cX2_setNames 45 = .ok (.iconst (-1), 1) := by decide +kernel
theorem dX2_setNames_46 : decode cX2_setNames 46 = .ok (.istore 6, 2) := by decide +kernel
theorem dX2_setNames_48 : decode cX2_setNames 48 = .ok (.iload 6, 2) := by decide +kernel
theorem dX2_setNames_50 : decode cX2_setNames 50 = .ok (.ifCond .le 45, 3) := by decide +kernel
theorem dX2_setNames_53 : decode cX2_setNames 53 = .ok (.aload_n 0, 1) := by decide +kernel
theorem dX2_setNames_54 : decode cX2_setNames 54 = .ok (.getfield 23, 3) := by decide +kernel
theorem dX2_setNames_57 : decode cX2_setNames 57 = .ok (.iload_n 1, 1) := by decide +kernel
theorem dX2_setNames_58 : decode cX2_setNames 58 = .ok (.sipush 345, 3) := by decide +kernel
theorem dX2_setNames_61 : decode cX2_setNames 61 = .ok (.iadd, 1) := by decide +kernel
theorem dX2_setNames_62 : decode cX2_setNames 62 = .ok (.aload_n 2, 1) := by decide +kernel
theorem dX2_setNames_63 : decode cX2_setNames 63 = .ok (.getfield 51, 3) := by decide +kernel
theorem dX2_setNames_66 : decode cX2_setNames 66 = .ok (.iconst 0, 1) := by decide +kernel
theorem dX2_setNames_67 : decode cX2_setNames 67 = .ok (.iload 6, 2) := by decide +kernel
theorem dX2_setNames_69 : decode cX2_setNames 69 = .ok (.invokevirtual 124, 3) := by decide +kernel
theorem dX2_setNames_72 : decode cX2_setNames 72 = .ok (.aload_n 0, 1) := by decide +kernel
theorem dX2_setNames_73 : decode cX2_setNames 73 = .ok (.getfield 23, 3) := by decide +kernel
theorem dX2_setNames_76 : decode cX2_setNames 76 = .ok (.iload_n 1, 1) := by decide +kernel
theorem dX2_setNames_77 : decode cX2_setNames 77 = .ok (.iconst 0, 1) := by decide +kernel
theorem dX2_setNames_78 : decode cX2_setNames 78 = .ok (.iadd, 1) := by decide +kernel
theorem dX2_setNames_79 : decode cX2_setNames 79 = .ok (.aload_n 2, 1) := by decide +kernel
theorem dX2_setNames_80 : decode cX2_setNames 80 = .ok (.getfield 51, 3) := by decide +kernel
theorem dX2_setNames_83 : decode cX2_setNames 83 = .ok (.iload 6, 2) := by decide +kernel
theorem dX2_setNames_85 : decode cX2_setNames 85 = .ok (.iconst 1, 1) := by decide +kernel
theorem dX2_setNames_86 : decode cX2_setNames 86 = .ok (.iadd, 1) := by decide +kernel
theorem dX2_setNames_87 : decode cX2_setNames 87 = .ok (.iload 4, 2) := by decide +kernel
theorem dX2_setNames_89 : decode cX2_setNames 89 = .ok (.invokevirtual 124, 3) := by decide +kernel
theorem dX2_setNames_92 : decode cX2_setNames 92 = .ok (.goto 25, 3) := by decide +kernel
theorem dX2_setNames_95 : decode cX2_setNames 95 = .ok (.aload_n 0, 1) := by decide +kernel
theorem dX2_setNames_96 : decode cX2_setNames 96 = .ok (.getfield 23, 3) := by decide +kernel
theorem dX2_setNames_99 : decode cX2_setNames 99 = .ok (.iload_n 1, 1) := by decide +kernel
theorem dX2_setNames_100 : decode cX2_setNames 100 = .ok (.iconst 0, 1) := by decide +kernel
theorem dX2_setNames_101 : decode cX2_setNames 101 = .ok (.iadd, 1) := by decide +kernel
theorem dX2_setNames_102 : decode cX2_setNames 102 = .ok (.aload_n 2, 1) := by decide +kernel
theorem dX2_setNames_103 : decode cX2_setNames 103 = .ok (.getfield 51, 3) := by decide +kernel
theorem dX2_setNames_106 : decode cX2_setNames 106 = .ok (.iconst 0, 1) := by decide +kernel
theorem dX2_setNames_107 : decode cX2_setNames 107 = .ok (.iload 4, 2) := by decide +kernel
theorem dX2_setNames_109 : decode cX2_setNames 109 = .ok (.bipush 100, 2) := by decide +kernel
theorem dX2_setNames_111 : decode cX2_setNames 111 = .ok (.invokestatic 128, 3) := by decide +kernel
theorem dX2_setNames_114 : decode cX2_setNames 114 = .ok (.invokevirtual 124, 3) := by decide +kernel
theorem dX2_setNames_117 : decode cX2_setNames 117 = .ok (.aload_n 0, 1) := by decide +kernel
theorem dX2_setNames_118 : decode cX2_setNames 118 = .ok (.getfield 23, 3) := by decide +kernel
theorem dX2_setNames_121 : decode cX2_setNames 121 = .ok (.iload_n 1, 1) := by decide +kernel
theorem dX2_setNames_122 : decode cX2_setNames 122 = .ok (.sipush 157, 3) := by decide +kernel
theorem dX2_setNames_125 : decode cX2_setNames 125 = .ok (.iadd, 1) := by decide +kernel
theorem dX2_setNames_126 : decode cX2_setNames 126 = .ok (.aload_n 2, 1) := by decide +kernel
theorem dX2_setNames_127 : decode cX2_setNames 127 = .ok (.getfield 44, 3) := by decide +kernel
theorem dX2_setNames_130 : decode cX2_setNames 130 = .ok (.iconst 0, 1) := by decide +kernel
theorem dX2_setNames_131 : decode cX2_setNames 131 = .ok (.aload_n 2, 1) := by decide +kernel
theorem dX2_setNames_132 : decode cX2_setNames 132 = .ok (.getfield 44, 3) := by decide +kernel
theorem dX2_setNames_135 : decode cX2_setNames 135 = .ok (.invokevirtual 40, 3) := by decide +kernel
theorem dX2_setNames_138 : decode cX2_setNames 138 = .ok (.bipush 100, 2) := by decide +kernel
theorem dX2_setNames_140 : decode cX2_setNames 140 = .ok (.invokestatic 128, 3) := by decide +kernel
theorem dX2_setNames_143 : decode cX2_setNames 143 = .ok (.invokevirtual 124, 3) := by decide +kernel
theorem dX2_setNames_146 : decode cX2_setNames 146 = .ok (.return_, 1) := by decide +kernel
theorem dX2_setNumber_0 : decode cX2_setNumber 0 = .ok (.lload_n 3, 1) := by decide +kernel
theorem dX2_setNumber_1 : decode cX2_setNumber 1 = .ok (.iload_n 2, 1) := by decide +kernel
theorem dX2_setNumber_2 : decode cX2_setNumber 2 = .ok (.invokestatic 134, 3) := by decide +kernel
theorem dX2_setNumber_5 : decode cX2_setNumber 5 = .ok (.ifCond .eq 13, 3) := by decide +kernel
theorem dX2_setNumber_8 : decode cX2_setNumber 8 = .ok (.aload_n 0, 1) := by decide +kernel
theorem dX2_setNumber_9 : decode cX2_setNumber 9 = .ok (.iload_n 1, 1) := by decide +kernel
theorem dX2_setNumber_10 : decode cX2_setNumber 10 = .ok (.iload_n 2, 1) := by decide +kernel
theorem dX2_setNumber_11 : decode cX2_setNumber 11 = .ok (.lload_n 3, 1) := by decide +kernel
theorem dX2_setNumber_12 : decode cX2_setNumber 12 = .ok (.invokevirtual 107, 3) := by decide +kernel
theorem dX2_setNumber_15 : decode cX2_setNumber 15 = .ok (.goto 26, 3) := by decide +kernel
theorem dX2_setNumber_18 : decode cX2_setNumber 18 = .ok (.iload 5, 2) := by decide +kernel
theorem dX2_setNumber_20 : decode cX2_setNumber 20 = .ok (.iconst 3, 1) := by decide +kernel
theorem dX2_setNumber_21 : decode cX2_setNumber 21 = .ok (.if_icmp .ne 13, 3) := by decide +kernel
theorem dX2_setNumber_24 : decode cX2_setNumber 24 = .ok (.aload_n 0, 1) := by decide +kernel
theorem dX2_setNumber_25 : decode cX2_setNumber 25 = .ok (.iload_n 1, 1) := by decide +kernel
theorem dX2_setNumber_26 : decode cX2_setNumber 26 = .ok (.iload_n 2, 1) := by decide +kernel
theorem dX2_setNumber_27 : decode cX2_setNumber 27 = .ok (.lload_n 3, 1) := by decide +kernel
theorem dX2_setNumber_28 : decode cX2_setNumber 28 = .ok (.invokevirtual 138, 3) := by decide +kernel
theorem dX2_setNumber_31 : decode cX2_setNumber 31 = .ok (.goto 10, 3) := by decide +kernel
theorem dX2_setNumber_34 : decode cX2_setNumber 34 = .ok (.aload_n 0, 1) := by decide +kernel
theorem dX2_setNumber_35 : decode cX2_setNumber 35 = .ok (.iload_n 1, 1) := by decide +kernel
theorem dX2_setNumber_36 : decode cX2_setNumber 36 = .ok (.iload_n 2, 1) := by decide +kernel
theorem dX2_setNumber_37 : decode cX2_setNumber 37 = .ok (.lconst 0, 1) := by decide +kernel
theorem dX2_setNumber_38 : decode cX2_setNumber 38 = .ok (.invokevirtual 107, 3) := by decide +kernel
theorem dX2_setNumber_41 : decode cX2_setNumber 41 = .ok (.return_, 1) := by decide +kernel
theorem dX2_setField_0 : decode cX2_setField 0 = .ok (.aload_n 0, 1) := by decide +kernel
theorem dX2_setField_1 : decode cX2_setField 1 = .ok (.getfield 23, 3) := by decide +kernel
theorem dX2_setField_4 : decode cX2_setField 4 = .ok (.iload_n 1, 1) := by decide +kernel
theorem dX2_setField_5 : decode cX2_setField 5 = .ok (.iload_n 2, 1) := by decide +kernel
theorem dX2_setField_6 : decode cX2_setField 6 = .ok (.iconst 1, 1) := by decide +kernel
theorem dX2_setField_7 : decode cX2_setField 7 = .ok (.isub, 1) := by decide +kernel
theorem dX2_setField_8 : decode cX2_setField 8 = .ok (.lload_n 3, 1) := by decide +kernel
theorem dX2_setField_9 : decode cX2_setField 9 = .ok (.invokevirtual 96, 3) := by decide +kernel
theorem dX2_setField_12 : decode cX2_setField 12 = .ok (.return_, 1) := by decide +kernel
theorem dX2_setBy256_0 : decode cX2_setBy256 0 = .ok (.lload_n 3, 1) := by decide +kernel
theorem dX2_setBy256_1 : decode cX2_setBy256 1 = .ok (.lstore 5, 2) := by decide +kernel
theorem dX2_setBy256_3 : decode cX2_setBy256 3 = .ok (.iload_n 2, 1) := by decide +kernel
theorem dX2_setBy256_4 : decode cX2_setBy256 4 = .ok (.iconst 1, 1) := by decide +kernel
theorem dX2_setBy256_5 : decode cX2_setBy256 5 = .ok (.isub, 1) := by decide +kernel
theorem dX2_setBy256_6 : decode cX2_setBy256 6 = .ok (.istore 7, 2) := by decide +kernel
theorem dX2_setBy256_8 : decode cX2_setBy256 8 = .ok (.iload 7, 2) := by decide +kernel
theorem dX2_setBy256_10 : decode cX2_setBy256 10 = .ok (.ifCond .le 34, 3) := by decide +kernel
theorem dX2_setBy256_13 : decode cX2_setBy256 13 = .ok (.aload_n 0, 1) := by decide +kernel
theorem dX2_setBy256_14 : decode cX2_setBy256 14 = .ok (.getfield 23, 3) := by decide +kernel
theorem dX2_setBy256_17 : decode cX2_setBy256 17 = .ok (.iload_n 1, 1) := by decide +kernel
theorem dX2_setBy256_18 : decode cX2_setBy256 18 = .ok (.iload 7, 2) := by decide +kernel
theorem dX2_setBy256_20 : decode cX2_setBy256 20 = .ok (.iadd, 1) := by decide +kernel
theorem dX2_setBy256_21 : decode cX2_setBy256 21 = .ok (.lload 5, 2) := by decide +kernel
theorem dX2_setBy256_23 : decode cX2_setBy256 23 = .ok (.ldc2_w 141, 3) := by decide +kernel
theorem dX2_setBy256_26 : decode cX2_setBy256 26 = .ok (.land, 1) := by decide +kernel
theorem dX2_setBy256_27 : decode cX2_setBy256 27 = .ok (.l2i, 1) := by decide +kernel
theorem dX2_setBy256_28 : decode cX2_setBy256 28 = .ok (.invokevirtual 100, 3) := by decide +kernel
theorem dX2_setBy256_31 : decode cX2_setBy256 31 = .ok (.lload 5, 2) := by decide +kernel
theorem dX2_setBy256_33 : decode cX2_setBy256 33 = .ok (.bipush 8, 2) := by decide +kernel
theorem dX2_setBy256_35 : decode cX2_setBy256 35 = .ok (.lshr, 1) := by decide +kernel
theorem dX2_setBy256_36 : decode cX2_setBy256 36 = .ok (.lstore 5, 2) := by decide +kernel
theorem dX2_setBy256_38 : decode cX2_setBy256 38 = .ok (.iinc 7 (-1), 3) := by decide +kernel
theorem dX2_setBy256_41 : decode cX2_setBy256 41 = .ok (.goto (-33), 3) := by decide +kernel
theorem dX2_setBy256_44 : decode cX2_setBy256 44 = .ok (.aload_n 0, 1) := by decide +kernel
theorem dX2_setBy256_45 : decode cX2_setBy256 45 = .ok (.getfield 23, 3) := by decide +kernel
theorem dX2_setBy256_48 : decode cX2_setBy256 48 = .ok (.iload_n 1, 1) := by decide +kernel
theorem dX2_setBy256_49 : decode cX2_setBy256 49 = .ok (.lload_n 3, 1) := by decide +kernel
theorem dX2_setBy256_50 : decode cX2_setBy256 50 = .ok (.lconst 0, 1) := by decide +kernel
theorem dX2_setBy256_51 : decode cX2_setBy256 51 = .ok (.lcmp, 1) := by decide +kernel
theorem dX2_setBy256_52 : decode cX2_setBy256 52 = .ok (.ifCond .ge 9, 3) := by decide +kernel
theorem dX2_setBy256_55 : decode cX2_setBy256 55 = .ok (.sipush 255, 3) := by decide +kernel
theorem dX2_setBy256_58 : decode cX2_setBy256 58 = .ok (.goto 6, 3) := by decide +kernel
theorem dX2_setBy256_61 : decode cX2_setBy256 61 = .ok (.sipush 128, 3) := by decide +kernel
theorem dX2_setBy256_64 : decode cX2_setBy256 64 = .ok (.invokevirtual 100, 3) := by decide +kernel
theorem dX2_setBy256_67 : decode cX2_setBy256 67 = .ok (.return_, 1) := by decide +kernel
theorem dX2_appendRows_0 : decode cX2_appendRows 0 = .ok (.aload_n 0, 1) := by decide +kernel
theorem dX2_appendRows_1 : decode cX2_appendRows 1 = .ok (.aload_n 1, 1) := by decide +kernel
theorem dX2_appendRows_2 : decode cX2_appendRows 2 = .ok (.invokevirtual 36, 3) := by decide +kernel
theorem dX2_appendRows_5 : decode cX2_appendRows 5 = .ok (.aload_n 0, 1) := by decide +kernel
theorem dX2_appendRows_6 : decode cX2_appendRows 6 = .ok (.getfield 14, 3) := by decide +kernel
theorem dX2_appendRows_9 : decode cX2_appendRows 9 = .ok (.invokevirtual 40, 3) := by decide +kernel
theorem dX2_appendRows_12 : decode cX2_appendRows 12 = .ok (.ifCond .le 42, 3) := by decide +kernel
theorem dX2_appendRows_15 : decode cX2_appendRows 15 = .ok (.aload_n 0, 1) := by decide +kernel
theorem dX2_appendRows_16 : decode cX2_appendRows 16 = .ok (.bipush 120, 2) := by decide +kernel
theorem dX2_appendRows_18 : decode cX2_appendRows 18 = .ok (.ldc 143, 2) := by decide +kernel
theorem dX2_appendRows_20 : decode cX2_appendRows 20 = .ok (.aload_n 0, 1) := by decide +kernel
theorem dX2_appendRows_21 : decode cX2_appendRows 21 = .ok (.getfield 14, 3) := by decide +kernel
theorem dX2_appendRows_24 : decode cX2_appendRows 24 = .ok (.invokevirtual 40, 3) := by decide +kernel
theorem dX2_appendRows_27 : decode cX2_appendRows 27 = .ok (.iconst 2, 1) := by decide +kernel
theorem dX2_appendRows_28 : decode cX2_appendRows 28 = .ok (.invokevirtual 145, 3) := by decide +kernel
theorem dX2_appendRows_31 : decode cX2_appendRows 31 = .ok (.aload_n 0, 1) := by decide +kernel
theorem dX2_appendRows_32 : decode cX2_appendRows 32 = .ok (.getfield 23, 3) := by decide +kernel
theorem dX2_appendRows_35 : decode cX2_appendRows 35 = .ok (.aload_n 0, 1) := by decide +kernel
theorem dX2_appendRows_36 : decode cX2_appendRows 36 = .ok (.getfield 14, 3) := by decide +kernel
theorem dX2_appendRows_39 : decode cX2_appendRows 39 = .ok (.iconst 0, 1) := by decide +kernel
theorem dX2_appendRows_40 : decode cX2_appendRows 40 = .ok (.aload_n 0, 1) := by decide +kernel
theorem dX2_appendRows_41 : decode cX2_appendRows 41 = .ok (.getfield 14, 3) := by decide +kernel
theorem dX2_appendRows_44 : decode cX2_appendRows 44 = .ok (.invokevirtual 40, 3) := by decide +kernel
theorem dX2_appendRows_47 : decode cX2_appendRows 47 = .ok (.invokevirtual 149, 3) := by decide +kernel
theorem dX2_appendRows_50 : decode cX2_appendRows 50 = .ok (.aload_n 0, 1) := by decide +kernel
theorem dX2_appendRows_51 : decode cX2_appendRows 51 = .ok (.invokevirtual 89, 3) := by decide +kernel
theorem dX2_appendRows_54 : decode cX2_appendRows 54 = .ok (.return_, 1) := by decide +kernel
theorem dX2_appendLong_0 : decode cX2_appendLong 0 = .ok (.aload_n 2, 1) := by decide +kernel
theorem dX2_appendLong_1 : decode cX2_appendLong 1 = .ok (.invokevirtual 40, 3) := by decide +kernel
theorem dX2_appendLong_4 : decode cX2_appendLong 4 = .ok (.bipush 100, 2) := by decide +kernel
theorem dX2_appendLong_6 : decode cX2_appendLong 6 = .ok (.if_icmp .le 42, 3) := by decide +kernel
theorem dX2_appendLong_9 : decode cX2_appendLong 9 = .ok (.aload_n 0, 1) := by decide +kernel
theorem dX2_appendLong_10 : decode cX2_appendLong 10 = .ok (.iload_n 1, 1) := by decide +kernel
theorem dX2_appendLong_11 : decode cX2_appendLong 11 = .ok (.ldc 153, 2) := by decide +kernel
theorem dX2_appendLong_13 : decode cX2_appendLong 13 = .ok (.aload_n 2, 1) := by decide +kernel
theorem dX2_appendLong_14 : decode cX2_appendLong 14 = .ok (.invokevirtual 40, 3) := by decide +kernel
theorem dX2_appendLong_17 : decode cX2_appendLong 17 = .ok (.iconst 1, 1) := by decide +kernel
theorem dX2_appendLong_18 : decode cX2_appendLong 18 = .ok (.iadd, 1) := by decide +kernel
theorem dX2_appendLong_19 : decode cX2_appendLong 19 = .ok (.iconst 3, 1) := by decide +kernel
theorem dX2_appendLong_20 : decode cX2_appendLong 20 = .ok (.invokevirtual 145, 3) := by decide +kernel
theorem dX2_appendLong_23 : decode cX2_appendLong 23 = .ok (.aload_n 0, 1) := by decide +kernel
theorem dX2_appendLong_24 : decode cX2_appendLong 24 = .ok (.getfield 23, 3) := by decide +kernel
theorem dX2_appendLong_27 : decode cX2_appendLong 27 = .ok (.aload_n 2, 1) := by decide +kernel
theorem dX2_appendLong_28 : decode cX2_appendLong 28 = .ok (.iconst 0, 1) := by decide +kernel
theorem dX2_appendLong_29 : decode cX2_appendLong 29 = .ok (.aload_n 2, 1) := by decide +kernel
theorem dX2_appendLong_30 : decode cX2_appendLong 30 = .ok (.invokevirtual 40, 3) := by decide +kernel
theorem dX2_appendLong_33 : decode cX2_appendLong 33 = .ok (.invokevirtual 149, 3) := by decide +kernel
theorem dX2_appendLong_36 : decode cX2_appendLong 36 = .ok (.aload_n 0, 1) := by decide +kernel
theorem dX2_appendLong_37 : decode cX2_appendLong 37 = .ok (.getfield 23, 3) := by decide +kernel
theorem dX2_appendLong_40 : decode cX2_appendLong 40 = .ok (.iconst 0, 1) := by decide +kernel
theorem dX2_appendLong_41 : decode cX2_appendLong 41 = .ok (.invokevirtual 86, 3) := by decide +kernel
theorem dX2_appendLong_44 : decode cX2_appendLong 44 = .ok (.aload_n 0, 1) := by decide +kernel
theorem dX2_appendLong_45 : decode cX2_appendLong 45 = .ok (.invokevirtual 89, 3) := by decide +kernel
theorem dX2_appendLong_48 : decode cX2_appendLong 48 = .ok (.return_, 1) := by decide +kernel
theorem dX2_appendAheadHead_0 : decode cX2_appendAheadHead 0 = .ok (.aload_n 0, 1) := by decide +kernel
theorem dX2_appendAheadHead_1 : decode cX2_appendAheadHead 1 = .ok (.iload_n 1, 1) := by decide +kernel
theorem dX2_appendAheadHead_2 : decode cX2_appendAheadHead 2 = .ok (.ldc2_w 155, 3) := by decide +kernel
theorem dX2_appendAheadHead_5 : decode cX2_appendAheadHead 5 = .ok (.iload_n 3, 1) := by decide +kernel
theorem dX2_appendAheadHead_6 : decode cX2_appendAheadHead 6 = .ok (.iload 4, 2) := by decide +kernel
theorem dX2_appendAheadHead_8 : decode cX2_appendAheadHead 8 = .ok (.invokevirtual 68, 3) := by decide +kernel
theorem dX2_appendAheadHead_11 : decode cX2_appendAheadHead 11 = .ok (.istore 5, 2) := by decide +kernel
theorem dX2_appendAheadHead_13 : decode cX2_appendAheadHead 13 = .ok (.aload_n 0, 1) := by decide +kernel
theorem dX2_appendAheadHead_14 : decode cX2_appendAheadHead 14 = .ok (.getfield 23, 3) := by decide +kernel
theorem dX2_appendAheadHead_17 : decode cX2_appendAheadHead 17 = .ok (.iload 5, 2) := by decide +kernel
theorem dX2_appendAheadHead_19 : decode cX2_appendAheadHead 19 = .ok (.iconst 0, 1) := by decide +kernel
theorem dX2_appendAheadHead_20 : decode cX2_appendAheadHead 20 = .ok (.iadd, 1) := by decide +kernel
theorem dX2_appendAheadHead_21 : decode cX2_appendAheadHead 21 = .ok (.aload_n 2, 1) := by decide +kernel
theorem dX2_appendAheadHead_22 : decode cX2_appendAheadHead 22 = .ok (.invokevirtual 157, 3) := by decide +kernel
theorem dX2_appendAheadHead_25 : decode cX2_appendAheadHead 25 = .ok (.aload_n 0, 1) := by decide +kernel
theorem dX2_appendAheadHead_26 : decode cX2_appendAheadHead 26 = .ok (.iload 5, 2) := by decide +kernel
theorem dX2_appendAheadHead_28 : decode cX2_appendAheadHead 28 = .ok (.bipush 108, 2) := by decide +kernel
theorem dX2_appendAheadHead_30 : decode cX2_appendAheadHead 30 = .ok (.iadd, 1) := by decide +kernel
theorem dX2_appendAheadHead_31 : decode cX2_appendAheadHead 31 = .ok (.bipush 8, 2) := by decide +kernel
theorem dX2_appendAheadHead_33 : decode cX2_appendAheadHead 33 = .ok (.lconst 0, 1) := by decide +kernel
theorem dX2_appendAheadHead_34 : decode cX2_appendAheadHead 34 = .ok (.invokevirtual 107, 3) := by decide +kernel
theorem dX2_appendAheadHead_37 : decode cX2_appendAheadHead 37 = .ok (.aload_n 0, 1) := by decide +kernel
theorem dX2_appendAheadHead_38 : decode cX2_appendAheadHead 38 = .ok (.iload 5, 2) := by decide +kernel
theorem dX2_appendAheadHead_40 : decode cX2_appendAheadHead 40 = .ok (.bipush 116, 2) := by decide +kernel
theorem dX2_appendAheadHead_42 : decode cX2_appendAheadHead 42 = .ok (.iadd, 1) := by decide +kernel
theorem dX2_appendAheadHead_43 : decode cX2_appendAheadHead 43 = .ok (.bipush 8, 2) := by decide +kernel
theorem dX2_appendAheadHead_45 : decode cX2_appendAheadHead 45 = .ok (.lconst 0, 1) := by decide +kernel
theorem dX2_appendAheadHead_46 : decode cX2_appendAheadHead 46 = .ok (.invokevirtual 107, 3) := by decide +kernel
theorem dX2_appendAheadHead_49 : decode cX2_appendAheadHead 49 = .ok (.aload_n 0, 1) := by decide +kernel
theorem dX2_appendAheadHead_50 : decode cX2_appendAheadHead 50 = .ok (.iload 5, 2) := by decide +kernel
theorem dX2_appendAheadHead_52 : decode cX2_appendAheadHead 52 = .ok (.sipush 136, 3) := by decide +kernel
theorem dX2_appendAheadHead_55 : decode cX2_appendAheadHead 55 = .ok (.iadd, 1) := by decide +kernel
theorem dX2_appendAheadHead_56 : decode cX2_appendAheadHead 56 = .ok (.bipush 12, 2) := by decide +kernel
theorem dX2_appendAheadHead_58 : decode cX2_appendAheadHead 58 = .ok (.lconst 0, 1) := by decide +kernel
theorem dX2_appendAheadHead_59 : decode cX2_appendAheadHead 59 = .ok (.invokevirtual 107, 3) := by decide +kernel
theorem dX2_appendAheadHead_62 : decode cX2_appendAheadHead 62 = .ok (.aload_n 0, 1) := by decide +kernel
theorem dX2_appendAheadHead_63 : decode cX2_appendAheadHead 63 = .ok (.iload 5, 2) := by decide +kernel
theorem dX2_appendAheadHead_65 : decode cX2_appendAheadHead 65 = .ok (.invokevirtual 80, 3) := by decide +kernel
theorem dX2_appendAheadHead_68 : decode cX2_appendAheadHead 68 = .ok (.pop, 1) := by decide +kernel
theorem dX2_appendAheadHead_69 : decode cX2_appendAheadHead 69 = .ok (.return_, 1) := by decide +kernel
theorem dX2_fillBlock_0 : decode cX2_fillBlock 0 = .ok (.aload_n 0, 1) := by decide +kernel
theorem dX2_fillBlock_1 : decode cX2_fillBlock 1 = .ok (.getfield 23, 3) := by decide +kernel
theorem dX2_fillBlock_4 : decode cX2_fillBlock 4 = .ok (.aload_n 0, 1) := by decide +kernel
theorem dX2_fillBlock_5 : decode cX2_fillBlock 5 = .ok (.getfield 23, 3) := by decide +kernel
theorem dX2_fillBlock_8 : decode cX2_fillBlock 8 = .ok (.invokevirtual 40, 3) := by decide +kernel
theorem dX2_fillBlock_11 : decode cX2_fillBlock 11 = .ok (.invokestatic 32, 3) := by decide +kernel
theorem dX2_fillBlock_14 : decode cX2_fillBlock 14 = .ok (.aload_n 0, 1) := by decide +kernel
theorem dX2_fillBlock_15 : decode cX2_fillBlock 15 = .ok (.getfield 23, 3) := by decide +kernel
theorem dX2_fillBlock_18 : decode cX2_fillBlock 18 = .ok (.invokevirtual 40, 3) := by decide +kernel
theorem dX2_fillBlock_21 : decode cX2_fillBlock 21 = .ok (.isub, 1) := by decide +kernel
theorem dX2_fillBlock_22 : decode cX2_fillBlock 22 = .ok (.invokevirtual 104, 3) := by decide +kernel
theorem dX2_fillBlock_25 : decode cX2_fillBlock 25 = .ok (.return_, 1) := by decide +kernel
theorem dX2_makeRows_0 : decode cX2_makeRows 0 = .ok (.aload_n 0, 1) := by decide +kernel
theorem dX2_makeRows_1 : decode cX2_makeRows 1 = .ok (.getfield 14, 3) := by decide +kernel
theorem dX2_makeRows_4 : decode cX2_makeRows 4 = .ok (.invokevirtual 161, 3) := by decide +kernel
theorem dX2_makeRows_7 : decode cX2_makeRows 7 = .ok (.aload_n 1, 1) := by decide +kernel
theorem dX2_makeRows_8 : decode cX2_makeRows 8 = .ok (.invokevirtual 164, 3) := by decide +kernel
theorem dX2_makeRows_11 : decode cX2_makeRows 11 = .ok (.ifCond .ne 13, 3) := by decide +kernel
theorem dX2_makeRows_14 : decode cX2_makeRows 14 = .ok (.aload_n 0, 1) := by decide +kernel
theorem dX2_makeRows_15 : decode cX2_makeRows 15 = .ok (.ldc 168, 2) := by decide +kernel
theorem dX2_makeRows_17 : decode cX2_makeRows 17 = .ok (.aload_n 1, 1) := by decide +kernel
theorem dX2_makeRows_18 : decode cX2_makeRows 18 = .ok (.getfield 51, 3) := by decide +kernel
theorem dX2_makeRows_21 : decode cX2_makeRows 21 = .ok (.invokevirtual 170, 3) := by decide +kernel
theorem dX2_makeRows_24 : decode cX2_makeRows 24 = .ok (.aload_n 1, 1) := by decide +kernel
theorem dX2_makeRows_25 : decode cX2_makeRows 25 = .ok (.getfield 44, 3) := by decide +kernel
theorem dX2_makeRows_28 : decode cX2_makeRows 28 = .ok (.invokevirtual 40, 3) := by decide +kernel
theorem dX2_makeRows_31 : decode cX2_makeRows 31 = .ok (.bipush 100, 2) := by decide +kernel
theorem dX2_makeRows_33 : decode cX2_makeRows 33 = .ok (.if_icmp .le 13, 3) := by decide +kernel
theorem dX2_makeRows_36 : decode cX2_makeRows 36 = .ok (.aload_n 0, 1) := by decide +kernel
theorem dX2_makeRows_37 : decode cX2_makeRows 37 = .ok (.ldc 174, 2) := by decide +kernel
theorem dX2_makeRows_39 : decode cX2_makeRows 39 = .ok (.aload_n 1, 1) := by decide +kernel
theorem dX2_makeRows_40 : decode cX2_makeRows 40 = .ok (.getfield 44, 3) := by decide +kernel
