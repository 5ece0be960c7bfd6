theorem dX11_isOf_151 : decode cX11_isOf 151 = .ok (.iload_n 1, 1) := by decide +kernel
theorem dX11_isOf_152 : decode cX11_isOf 152 = .ok (.iaload, 1) := by decide +kernel
theorem dX11_isOf_153 : decode cX11_isOf 153 = .ok (.iadd, 1) := by decide +kernel
theorem dX11_isOf_154 : decode cX11_isOf 154 = .ok (.iconst 1, 1) := by decide +kernel
theorem dX11_isOf_155 : decode cX11_isOf 155 = .ok (.isub, 1) := by decide +kernel
theorem dX11_isOf_156 : decode cX11_isOf 156 = .ok (.iaload, 1) := by decide +kernel
theorem dX11_isOf_157 : decode cX11_isOf 157 = .ok (.bipush 47, 2) := by decide +kernel
theorem dX11_isOf_159 : decode cX11_isOf 159 = .ok (.if_icmp .ne 7, 3) := by decide +kernel
theorem dX11_isOf_162 : decode cX11_isOf 162 = .ok (.iconst 1, 1) := by decide +kernel
theorem dX11_isOf_163 : decode cX11_isOf 163 = .ok (.goto 4, 3) := by decide +kernel
theorem dX11_isOf_166 : decode cX11_isOf 166 = .ok (.iconst 0, 1) := by decide +kernel
theorem dX11_isOf_167 : decode cX11_isOf 167 = .ok (.istore 4, 2) := by decide +kernel
theorem dX11_isOf_169 : decode cX11_isOf 169 = .ok (.aload_n 0, 1) := by decide +kernel
theorem dX11_isOf_170 : decode cX11_isOf 170 = .ok (.getfield 23, 3) := by decide +kernel
theorem dX11_isOf_173 : decode cX11_isOf 173 = .ok (.iload_n 1, 1) := by decide +kernel
theorem dX11_isOf_174 : decode cX11_isOf 174 = .ok (.iaload, 1) := by decide +kernel
theorem dX11_isOf_175 : decode cX11_isOf 175 = .ok (.bipush 100, 2) := by decide +kernel
theorem dX11_isOf_177 : decode cX11_isOf 177 = .ok (.if_icmp .gt 34, 3) := by decide +kernel
theorem dX11_isOf_180 : decode cX11_isOf 180 = .ok (.aload_n 0, 1) := by decide +kernel
theorem dX11_isOf_181 : decode cX11_isOf 181 = .ok (.getfield 17, 3) := by decide +kernel
theorem dX11_isOf_184 : decode cX11_isOf 184 = .ok (.iload_n 1, 1) := by decide +kernel
theorem dX11_isOf_185 : decode cX11_isOf 185 = .ok (.iaload, 1) := by decide +kernel
theorem dX11_isOf_186 : decode cX11_isOf 186 = .ok (.bipush 53, 2) := by decide +kernel
theorem dX11_isOf_188 : decode cX11_isOf 188 = .ok (.if_icmp .eq 23, 3) := by decide +kernel
theorem dX11_isOf_191 : decode cX11_isOf 191 = .ok (.aload_n 0, 1) := by decide +kernel
theorem dX11_isOf_192 : decode cX11_isOf 192 = .ok (.getfield 17, 3) := by decide +kernel
theorem dX11_isOf_195 : decode cX11_isOf 195 = .ok (.iload_n 1, 1) := by decide +kernel
theorem dX11_isOf_196 : decode cX11_isOf 196 = .ok (.iaload, 1) := by decide +kernel
theorem dX11_isOf_197 : decode cX11_isOf 197 = .ok (.bipush 48, 2) := by decide +kernel
theorem dX11_isOf_199 : decode cX11_isOf 199 = .ok (.if_icmp .ne 8, 3) := by decide +kernel
theorem dX11_isOf_202 : decode cX11_isOf 202 = .ok (.iload 4, 2) := by decide +kernel
theorem dX11_isOf_204 : decode cX11_isOf 204 = .ok (.ifCond .ne 7, 3) := by decide +kernel
theorem dX11_isOf_207 : decode cX11_isOf 207 = .ok (.iconst 1, 1) := by decide +kernel
theorem dX11_isOf_208 : decode cX11_isOf 208 = .ok (.goto 4, 3) := by decide +kernel
theorem dX11_isOf_211 : decode cX11_isOf 211 = .ok (.iconst 0, 1) := by decide +kernel
theorem dX11_isOf_212 : decode cX11_isOf 212 = .ok (.ireturn, 1) := by decide +kernel
theorem dX11_notOf_0 : decode cX11_notOf 0 = .ok (.iconst 0, 1) := by decide +kernel
theorem dX11_notOf_1 : decode cX11_notOf 1 = .ok (.istore_n 2, 1) := by decide +kernel
theorem dX11_notOf_2 : decode cX11_notOf 2 = .ok (.iload_n 2, 1) := by decide +kernel
theorem dX11_notOf_3 : decode cX11_notOf 3 = .ok (.aload_n 0, 1) := by decide +kernel
theorem dX11_notOf_4 : decode cX11_notOf 4 = .ok (.getfield 96, 3) := by decide +kernel
theorem dX11_notOf_7 : decode cX11_notOf 7 = .ok (.if_icmp .ge 20, 3) := by decide +kernel
theorem dX11_notOf_10 : decode cX11_notOf 10 = .ok (.aload_n 0, 1) := by decide +kernel
theorem dX11_notOf_11 : decode cX11_notOf 11 = .ok (.iload_n 2, 1) := by decide +kernel
theorem dX11_notOf_12 : decode cX11_notOf 12 = .ok (.iload_n 1, 1) := by decide +kernel
theorem dX11_notOf_13 : decode cX11_notOf 13 = .ok (.invokevirtual 110, 3) := by decide +kernel
theorem dX11_notOf_16 : decode cX11_notOf 16 = .ok (.ifCond .ne 5, 3) := by decide +kernel
theorem dX11_notOf_19 : decode cX11_notOf 19 = .ok (.iload_n 2, 1) := by decide +kernel
theorem dX11_notOf_20 : decode cX11_notOf 20 = .ok (.ireturn, 1) := by decide +kernel
theorem dX11_notOf_21 : decode cX11_notOf 21 = .ok (.iinc 2 1, 3) := by decide +kernel
theorem dX11_notOf_24 : decode cX11_notOf 24 = .ok (.goto (-22), 3) := by decide +kernel
theorem dX11_notOf_27 : decode cX11_notOf 27 = .ok (.iconst (-1), 1) := by decide +kernel
theorem dX11_notOf_28 : decode cX11_notOf 28 = .ok (.ireturn, 1) := by decide +kernel
theorem dX11_best_0 : decode cX11_best 0 = .ok (.iconst 0, 1) := by decide +kernel
theorem dX11_best_1 : decode cX11_best 1 = .ok (.istore_n 1, 1) := by decide +kernel
theorem dX11_best_2 : decode cX11_best 2 = .ok (.aload_n 0, 1) := by decide +kernel
theorem dX11_best_3 : decode cX11_best 3 = .ok (.iload_n 1, 1) := by decide +kernel
theorem dX11_best_4 : decode cX11_best 4 = .ok (.invokevirtual 114, 3) := by decide +kernel
theorem dX11_best_7 : decode cX11_best 7 = .ok (.ifCond .lt 9, 3) := by decide +kernel
theorem dX11_best_10 : decode cX11_best 10 = .ok (.iinc 1 1, 3) := by decide +kernel
theorem dX11_best_13 : decode cX11_best 13 = .ok (.goto (-11), 3) := by decide +kernel
theorem dX11_best_16 : decode cX11_best 16 = .ok (.iload_n 1, 1) := by decide +kernel
theorem dX11_best_17 : decode cX11_best 17 = .ok (.ireturn, 1) := by decide +kernel
theorem dX11_octal_0 : decode cX11_octal 0 = .ok (.lload_n 3, 1) := by decide +kernel
theorem dX11_octal_1 : decode cX11_octal 1 = .ok (.lstore 5, 2) := by decide +kernel
theorem dX11_octal_3 : decode cX11_octal 3 = .ok (.iload_n 2, 1) := by decide +kernel
theorem dX11_octal_4 : decode cX11_octal 4 = .ok (.iconst 2, 1) := by decide +kernel
theorem dX11_octal_5 : decode cX11_octal 5 = .ok (.isub, 1) := by decide +kernel
theorem dX11_octal_6 : decode cX11_octal 6 = .ok (.istore 7, 2) := by decide +kernel
theorem dX11_octal_8 : decode cX11_octal 8 = .ok (.iload 7, 2) := by decide +kernel
theorem dX11_octal_10 : decode cX11_octal 10 = .ok (.ifCond .lt 34, 3) := by decide +kernel
theorem dX11_octal_13 : decode cX11_octal 13 = .ok (.aload_n 0, 1) := by decide +kernel
theorem dX11_octal_14 : decode cX11_octal 14 = .ok (.getfield 47, 3) := by decide +kernel
theorem dX11_octal_17 : decode cX11_octal 17 = .ok (.iload_n 1, 1) := by decide +kernel
theorem dX11_octal_18 : decode cX11_octal 18 = .ok (.iload 7, 2) := by decide +kernel
theorem dX11_octal_20 : decode cX11_octal 20 = .ok (.iadd, 1) := by decide +kernel
theorem dX11_octal_21 : decode cX11_octal 21 = .ok (.bipush 48, 2) := by decide +kernel
theorem dX11_octal_23 : decode cX11_octal 23 = .ok (.lload 5, 2) := by decide +kernel
theorem dX11_octal_25 : decode cX11_octal 25 = .ok (.ldc2_w 117, 3) := by decide +kernel
theorem dX11_octal_28 : decode cX11_octal 28 = .ok (.land, 1) := by decide +kernel
theorem dX11_octal_29 : decode cX11_octal 29 = .ok (.l2i, 1) := by decide +kernel
theorem dX11_octal_30 : decode cX11_octal 30 = .ok (.iadd, 1) := by decide +kernel
theorem dX11_octal_31 : decode cX11_octal 31 = .ok (.iastore, 1) := by decide +kernel
theorem dX11_octal_32 : decode cX11_octal 32 = .ok (.lload 5, 2) := by decide +kernel
theorem dX11_octal_34 : decode cX11_octal 34 = .ok (.iconst 3, 1) := by decide +kernel
theorem dX11_octal_35 : decode cX11_octal 35 = .ok (.lshr, 1) := by decide +kernel
theorem dX11_octal_36 : decode cX11_octal 36 = .ok (.lstore 5, 2) := by decide +kernel
theorem dX11_octal_38 : decode cX11_octal 38 = .ok (.iinc 7 (-1), 3) := by decide +kernel
theorem dX11_octal_41 : decode cX11_octal 41 = .ok (.goto (-33), 3) := by decide +kernel
theorem dX11_octal_44 : decode cX11_octal 44 = .ok (.aload_n 0, 1) := by decide +kernel
theorem dX11_octal_45 : decode cX11_octal 45 = .ok (.getfield 47, 3) := by decide +kernel
theorem dX11_octal_48 : decode cX11_octal 48 = .ok (.iload_n 1, 1) := by decide +kernel
theorem dX11_octal_49 : decode cX11_octal 49 = .ok (.iload_n 2, 1) := by decide +kernel
theorem dX11_octal_50 : decode cX11_octal 50 = .ok (.iadd, 1) := by decide +kernel
theorem dX11_octal_51 : decode cX11_octal 51 = .ok (.iconst 1, 1) := by decide +kernel
theorem dX11_octal_52 : decode cX11_octal 52 = .ok (.isub, 1) := by decide +kernel
theorem dX11_octal_53 : decode cX11_octal 53 = .ok (.iconst 0, 1) := by decide +kernel
theorem dX11_octal_54 : decode cX11_octal 54 = .ok (.iastore, 1) := by decide +kernel
theorem dX11_octal_55 : decode cX11_octal 55 = .ok (.return_, 1) := by decide +kernel
theorem dX11_by256_0 : decode cX11_by256 0 = .ok (.iload_n 2, 1) := by decide +kernel
theorem dX11_by256_1 : decode cX11_by256 1 = .ok (.iconst 1, 1) := by decide +kernel
theorem dX11_by256_2 : decode cX11_by256 2 = .ok (.isub, 1) := by decide +kernel
theorem dX11_by256_3 : decode cX11_by256 3 = .ok (.istore 5, 2) := by decide +kernel
theorem dX11_by256_5 : decode cX11_by256 5 = .ok (.iload 5, 2) := by decide +kernel
theorem dX11_by256_7 : decode cX11_by256 7 = .ok (.ifCond .le 61, 3) := by decide +kernel
theorem dX11_by256_10 : decode cX11_by256 10 = .ok (.bipush 8, 2) := by decide +kernel
theorem dX11_by256_12 : decode cX11_by256 12 = .ok (.iload_n 2, 1) := by decide +kernel
theorem dX11_by256_13 : decode cX11_by256 13 = .ok (.iconst 1, 1) := by decide +kernel
theorem dX11_by256_14 : decode cX11_by256 14 = .ok (.isub, 1) := by decide +kernel
theorem dX11_by256_15 : decode cX11_by256 15 = .ok (.iload 5, 2) := by decide +kernel
theorem dX11_by256_17 : decode cX11_by256 17 = .ok (.isub, 1) := by decide +kernel
theorem dX11_by256_18 : decode cX11_by256 18 = .ok (.imul, 1) := by decide +kernel
theorem dX11_by256_19 : decode cX11_by256 19 = .ok (.istore 6, 2) := by decide +kernel
theorem dX11_by256_21 : decode cX11_by256 21 = .ok (.aload_n 0, 1) := by decide +kernel
theorem dX11_by256_22 : decode cX11_by256 22 = .ok (.getfield 47, 3) := by decide +kernel
theorem dX11_by256_25 : decode cX11_by256 25 = .ok (.iload_n 1, 1) := by decide +kernel
theorem dX11_by256_26 : decode cX11_by256 26 = .ok (.iload 5, 2) := by decide +kernel
theorem dX11_by256_28 : decode cX11_by256 28 = .ok (.iadd, 1) := by decide +kernel
theorem dX11_by256_29 : decode cX11_by256 29 = .ok (.iload 6, 2) := by decide +kernel
theorem dX11_by256_31 : decode cX11_by256 31 = .ok (.bipush 56, 2) := by decide +kernel
theorem dX11_by256_33 : decode cX11_by256 33 = .ok (.if_icmp .le 19, 3) := by decide +kernel
theorem dX11_by256_36 : decode cX11_by256 36 = .ok (.lload_n 3, 1) := by decide +kernel
theorem dX11_by256_37 : decode cX11_by256 37 = .ok (.lconst 0, 1) := by decide +kernel
theorem dX11_by256_38 : decode cX11_by256 38 = .ok (.lcmp, 1) := by decide +kernel
theorem dX11_by256_39 : decode cX11_by256 39 = .ok (.ifCond .ge 9, 3) := by decide +kernel
theorem dX11_by256_42 : decode cX11_by256 42 = .ok (.sipush 255, 3) := by decide +kernel
theorem dX11_by256_45 : decode cX11_by256 45 = .ok (.goto 16, 3) := by decide +kernel
theorem dX11_by256_48 : decode cX11_by256 48 = .ok (.iconst 0, 1) := by decide +kernel
theorem dX11_by256_49 : decode cX11_by256 49 = .ok (.goto 12, 3) := by decide +kernel
theorem dX11_by256_52 : decode cX11_by256 52 = .ok (.lload_n 3, 1) := by decide +kernel
theorem dX11_by256_53 : decode cX11_by256 53 = .ok (.iload 6, 2) := by decide +kernel
theorem dX11_by256_55 : decode cX11_by256 55 = .ok (.lshr, 1) := by decide +kernel
theorem dX11_by256_56 : decode cX11_by256 56 = .ok (.ldc2_w 119, 3) := by decide +kernel
theorem dX11_by256_59 : decode cX11_by256 59 = .ok (.land, 1) := by decide +kernel
theorem dX11_by256_60 : decode cX11_by256 60 = .ok (.l2i, 1) := by decide +kernel
theorem dX11_by256_61 : decode cX11_by256 61 = .ok (.iastore, 1) := by decide +kernel
theorem dX11_by256_62 : decode cX11_by256 62 = .ok (.iinc 5 (-1), 3) := by decide +kernel
theorem dX11_by256_65 : decode cX11_by256 65 = .ok (.goto (-60), 3) := by decide +kernel
theorem dX11_by256_68 : decode cX11_by256 68 = .ok (.aload_n 0, 1) := by decide +kernel
theorem dX11_by256_69 : decode cX11_by256 69 = .ok (.getfield 47, 3) := by decide +kernel
theorem dX11_by256_72 : decode cX11_by256 72 = .ok (.iload_n 1, 1) := by decide +kernel
theorem dX11_by256_73 : decode cX11_by256 73 = .ok (.lload_n 3, 1) := by decide +kernel
theorem dX11_by256_74 : decode cX11_by256 74 = .ok (.lconst 0, 1) := by decide +kernel
theorem dX11_by256_75 : decode cX11_by256 75 = .ok (.lcmp, 1) := by decide +kernel
theorem dX11_by256_76 : decode cX11_by256 76 = .ok (.ifCond .ge 9, 3) := by decide +kernel
theorem dX11_by256_79 : decode cX11_by256 79 = .ok (.sipush 255, 3) := by decide +kernel
theorem dX11_by256_82 : decode cX11_by256 82 = .ok (.goto 6, 3) := by decide +kernel
theorem dX11_by256_85 : decode cX11_by256 85 = .ok (.sipush 128, 3) := by decide +kernel
theorem dX11_by256_88 : decode cX11_by256 88 = .ok (.iastore, 1) := by decide +kernel
theorem dX11_by256_89 : decode cX11_by256 89 = .ok (.return_, 1) := by decide +kernel
theorem dX11_number__0 : decode cX11_number_ 0 = .ok (.lload_n 3, 1) := by decide +kernel
theorem dX11_number__1 : decode cX11_number_ 1 = .ok (.iload_n 2, 1) := by decide +kernel
theorem dX11_number__2 : decode cX11_number_ 2 = .ok (.invokestatic 102, 3) := by decide +kernel
theorem dX11_number__5 : decode cX11_number_ 5 = .ok (.ifCond .eq 13, 3) := by decide +kernel
theorem dX11_number__8 : decode cX11_number_ 8 = .ok (.aload_n 0, 1) := by decide +kernel
theorem dX11_number__9 : decode cX11_number_ 9 = .ok (.iload_n 1, 1) := by decide +kernel
theorem dX11_number__10 : decode cX11_number_ 10 = .ok (.iload_n 2, 1) := by decide +kernel
theorem dX11_number__11 : decode cX11_number_ 11 = .ok (.lload_n 3, 1) := by decide +kernel
theorem dX11_number__12 : decode cX11_number_ 12 = .ok (.invokevirtual 121, 3) := by decide +kernel
theorem dX11_number__15 : decode cX11_number_ 15 = .ok (.goto 26, 3) := by decide +kernel
theorem dX11_number__18 : decode cX11_number_ 18 = .ok (.iload 5, 2) := by decide +kernel
theorem dX11_number__20 : decode cX11_number_ 20 = .ok (.iconst 3, 1) := by decide +kernel
theorem dX11_number__21 : decode cX11_number_ 21 = .ok (.if_icmp .ne 13, 3) := by decide +kernel
theorem dX11_number__24 : decode cX11_number_ 24 = .ok (.aload_n 0, 1) := by decide +kernel
theorem dX11_number__25 : decode cX11_number_ 25 = .ok (.iload_n 1, 1) := by decide +kernel
theorem dX11_number__26 : decode cX11_number_ 26 = .ok (.iload_n 2, 1) := by decide +kernel
theorem dX11_number__27 : decode cX11_number_ 27 = .ok (.lload_n 3, 1) := by decide +kernel
theorem dX11_number__28 : decode cX11_number_ 28 = .ok (.invokevirtual 125, 3) := by decide +kernel
theorem dX11_number__31 : decode cX11_number_ 31 = .ok (.goto 10, 3) := by decide +kernel
theorem dX11_number__34 : decode cX11_number_ 34 = .ok (.aload_n 0, 1) := by decide +kernel
theorem dX11_number__35 : decode cX11_number_ 35 = .ok (.iload_n 1, 1) := by decide +kernel
theorem dX11_number__36 : decode cX11_number_ 36 = .ok (.iload_n 2, 1) := by decide +kernel
theorem dX11_number__37 : decode cX11_number_ 37 = .ok (.lconst 0, 1) := by decide +kernel
theorem dX11_number__38 : decode cX11_number_ 38 = .ok (.invokevirtual 121, 3) := by decide +kernel
theorem dX11_number__41 : decode cX11_number_ 41 = .ok (.return_, 1) := by decide +kernel
theorem dX11_head_0 : decode cX11_head 0 = .ok (.aload_n 0, 1) := by decide +kernel
theorem dX11_head_1 : decode cX11_head 1 = .ok (.getfield 128, 3) := by decide +kernel
theorem dX11_head_4 : decode cX11_head 4 = .ok (.istore 7, 2) := by decide +kernel
theorem dX11_head_6 : decode cX11_head 6 = .ok (.iconst 0, 1) := by decide +kernel
theorem dX11_head_7 : decode cX11_head 7 = .ok (.istore 8, 2) := by decide +kernel
theorem dX11_head_9 : decode cX11_head 9 = .ok (.iload 8, 2) := by decide +kernel
theorem dX11_head_11 : decode cX11_head 11 = .ok (.sipush 512, 3) := by decide +kernel
theorem dX11_head_14 : decode cX11_head 14 = .ok (.if_icmp .ge 20, 3) := by decide +kernel
theorem dX11_head_17 : decode cX11_head 17 = .ok (.aload_n 0, 1) := by decide +kernel
theorem dX11_head_18 : decode cX11_head 18 = .ok (.getfield 47, 3) := by decide +kernel
theorem dX11_head_21 : decode cX11_head 21 = .ok (.iload 7, 2) := by decide +kernel
theorem dX11_head_23 : decode cX11_head 23 = .ok (.iload 8, 2) := by decide +kernel
theorem dX11_head_25 : decode cX11_head 25 = .ok (.iadd, 1) := by decide +kernel
theorem dX11_head_26 : decode cX11_head 26 = .ok (.iconst 0, 1) := by decide +kernel
theorem dX11_head_27 : decode cX11_head 27 = .ok (.iastore, 1) := by decide +kernel
theorem dX11_head_28 : decode cX11_head 28 = .ok (.iinc 8 1, 3) := by decide +kernel
theorem dX11_head_31 : decode cX11_head 31 = .ok (.goto (-22), 3) := by decide +kernel
theorem dX11_head_34 : decode cX11_head 34 = .ok (.aload_n 0, 1) := by decide +kernel
theorem dX11_head_35 : decode cX11_head 35 = .ok (.dup, 1) := by decide +kernel
theorem dX11_head_36 : decode cX11_head 36 = .ok (.getfield 128, 3) := by decide +kernel
theorem dX11_head_39 : decode cX11_head 39 = .ok (.sipush 512, 3) := by decide +kernel
theorem dX11_head_42 : decode cX11_head 42 = .ok (.iadd, 1) := by decide +kernel
theorem dX11_head_43 : decode cX11_head 43 = .ok (.putfield 128, 3) := by decide +kernel
theorem dX11_head_46 : decode cX11_head 46 = .ok (.aload_n 0, 1) := by decide +kernel
theorem dX11_head_47 : decode cX11_head 47 = .ok (.iload 7, 2) := by decide +kernel
theorem dX11_head_49 : decode cX11_head 49 = .ok (.bipush 100, 2) := by decide +kernel
theorem dX11_head_51 : decode cX11_head 51 = .ok (.iadd, 1) := by decide +kernel
theorem dX11_head_52 : decode cX11_head 52 = .ok (.bipush 8, 2) := by decide +kernel
theorem dX11_head_54 : decode cX11_head 54 = .ok (.lload_n 3, 1) := by decide +kernel
theorem dX11_head_55 : decode cX11_head 55 = .ok (.invokevirtual 121, 3) := by decide +kernel
theorem dX11_head_58 : decode cX11_head 58 = .ok (.aload_n 0, 1) := by decide +kernel
theorem dX11_head_59 : decode cX11_head 59 = .ok (.iload 7, 2) := by decide +kernel
theorem dX11_head_61 : decode cX11_head 61 = .ok (.bipush 108, 2) := by decide +kernel
theorem dX11_head_63 : decode cX11_head 63 = .ok (.iadd, 1) := by decide +kernel
theorem dX11_head_64 : decode cX11_head 64 = .ok (.bipush 8, 2) := by decide +kernel
theorem dX11_head_66 : decode cX11_head 66 = .ok (.lconst 0, 1) := by decide +kernel
theorem dX11_head_67 : decode cX11_head 67 = .ok (.invokevirtual 121, 3) := by decide +kernel
theorem dX11_head_70 : decode cX11_head 70 = .ok (.aload_n 0, 1) := by decide +kernel
theorem dX11_head_71 : decode cX11_head 71 = .ok (.iload 7, 2) := by decide +kernel
theorem dX11_head_73 : decode cX11_head 73 = .ok (.bipush 116, 2) := by decide +kernel
theorem dX11_head_75 : decode cX11_head 75 = .ok (.iadd, 1) := by decide +kernel
theorem dX11_head_76 : decode cX11_head 76 = .ok (.bipush 8, 2) := by decide +kernel
theorem dX11_head_78 : decode cX11_head 78 = .ok (.lconst 0, 1) := by decide +kernel
theorem dX11_head_79 : decode cX11_head 79 = .ok (.invokevirtual 121, 3) := by decide +kernel
theorem dX11_head_82 : decode cX11_head 82 = .ok (.aload_n 0, 1) := by decide +kernel
theorem dX11_head_83 : decode cX11_head 83 = .ok (.iload 7, 2) := by decide +kernel
theorem dX11_head_85 : decode cX11_head 85 = .ok (.bipush 124, 2) := by decide +kernel
theorem dX11_head_87 : decode cX11_head 87 = .ok (.iadd, 1) := by decide +kernel
theorem dX11_head_88 : decode cX11_head 88 = .ok (.bipush 12, 2) := by decide +kernel
theorem dX11_head_90 : decode cX11_head 90 = .ok (.lload 5, 2) := by decide +kernel
theorem dX11_head_92 : decode cX11_head 92 = .ok (.invokevirtual 121, 3) := by decide +kernel
theorem dX11_head_95 : decode cX11_head 95 = .ok (.aload_n 0, 1) := by decide +kernel
theorem dX11_head_96 : decode cX11_head 96 = .ok (.iload 7, 2) := by decide +kernel
theorem dX11_head_98 : decode cX11_head 98 = .ok (.sipush 136, 3) := by decide +kernel
theorem dX11_head_101 : decode cX11_head 101 = .ok (.iadd, 1) := by decide +kernel
theorem dX11_head_102 : decode cX11_head 102 = .ok (.bipush 12, 2) := by decide +kernel
theorem dX11_head_104 : decode cX11_head 104 = .ok (.lconst 0, 1) := by decide +kernel
theorem dX11_head_105 : decode cX11_head 105 = .ok (.invokevirtual 121, 3) := by decide +kernel
theorem dX11_head_108 : decode cX11_head 108 = .ok (.aload_n 0, 1) := by decide +kernel
theorem dX11_head_109 : decode cX11_head 109 = .ok (.getfield 47, 3) := by decide +kernel
theorem dX11_head_112 : decode cX11_head 112 = .ok (.iload 7, 2) := by decide +kernel
theorem dX11_head_114 : decode cX11_head 114 = .ok (.sipush 156, 3) := by decide +kernel
theorem dX11_head_117 : decode cX11_head 117 = .ok (.iadd, 1) := by decide +kernel
theorem dX11_head_118 : decode cX11_head 118 = .ok (.iload_n 2, 1) := by decide +kernel
theorem dX11_head_119 : decode cX11_head 119 = .ok (.iastore, 1) := by decide +kernel
theorem dX11_head_120 : decode cX11_head 120 = .ok (.iload_n 1, 1) := by decide +kernel
theorem dX11_head_121 : decode cX11_head 121 = .ok (.ifCond .le 135, 3) := by decide +kernel
theorem dX11_head_124 : decode cX11_head 124 = .ok (.aload_n 0, 1) := by decide +kernel
theorem dX11_head_125 : decode cX11_head 125 = .ok (.getfield 47, 3) := by decide +kernel
theorem dX11_head_128 : decode cX11_head 128 = .ok (.iload 7, 2) := by decide +kernel
theorem dX11_head_130 : decode cX11_head 130 = .ok (.sipush 257, 3) := by decide +kernel
theorem dX11_head_133 : decode cX11_head 133 = .ok (.iadd, 1) := by decide +kernel
theorem dX11_head_134 : decode cX11_head 134 = .ok (.bipush 117, 2) := by decide +kernel
theorem dX11_head_136 : decode cX11_head 136 = .ok (.iastore, 1) := by decide +kernel
theorem dX11_head_137 : decode cX11_head 137 = .ok (.aload_n 0, 1) := by decide +kernel
theorem dX11_head_138 : decode cX11_head 138 = .ok (.getfield 47, 3) := by decide +kernel
theorem dX11_head_141 : decode cX11_head 141 = .ok (.iload 7, 2) := by decide +kernel
theorem dX11_head_143 : decode cX11_head 143 = .ok (.sipush 258, 3) := by decide +kernel
theorem dX11_head_146 : decode cX11_head 146 = .ok (.iadd, 1) := by decide +kernel
theorem dX11_head_147 : decode cX11_head 147 = .ok (.bipush 115, 2) := by decide +kernel
theorem dX11_head_149 : decode cX11_head 149 = .ok (.iastore, 1) := by decide +kernel
theorem dX11_head_150 : decode cX11_head 150 = .ok (.aload_n 0, 1) := by decide +kernel
theorem dX11_head_151 : decode cX11_head 151 = .ok (.getfield 47, 3) := by decide +kernel
theorem dX11_head_154 : decode cX11_head 154 = .ok (.iload 7, 2) := by decide +kernel
theorem dX11_head_156 : decode cX11_head 156 = .ok (.sipush 259, 3) := by decide +kernel
theorem dX11_head_159 : decode cX11_head 159 = .ok (.iadd, 1) := by decide +kernel
theorem dX11_head_160 : decode cX11_head 160 = .ok (.bipush 116, 2) := by decide +kernel
theorem dX11_head_162 : decode cX11_head 162 = .ok (.iastore, 1) := by decide +kernel
theorem dX11_head_163 : decode cX11_head 163 = .ok (.aload_n 0, 1) := by decide +kernel
theorem dX11_head_164 : decode cX11_head 164 = .ok (.getfield 47, 3) := by decide +kernel
theorem dX11_head_167 : decode cX11_head 167 = .ok (.iload 7, 2) := by decide +kernel
theorem dX11_head_169 : decode cX11_head 169 = .ok (.sipush 260, 3) := by decide +kernel
theorem dX11_head_172 : decode cX11_head 172 = .ok (.iadd, 1) := by decide +kernel
theorem dX11_head_173 : decode cX11_head 173 = .ok (.bipush 97, 2) := by decide +kernel
theorem dX11_head_175 : decode cX11_head 175 = .ok (.iastore, 1) := by decide +kernel
theorem dX11_head_176 : decode cX11_head 176 = .ok (.aload_n 0, 1) := by decide +kernel
theorem dX11_head_177 : decode cX11_head 177 = .ok (.getfield 47, 3) := by decide +kernel
theorem dX11_head_180 : decode cX11_head 180 = .ok (.iload 7, 2) := by decide +kernel
theorem dX11_head_182 : decode cX11_head 182 = .ok (.sipush 261, 3) := by decide +kernel
theorem dX11_head_185 : decode cX11_head 185 = .ok (.iadd, 1) := by decide +kernel
theorem dX11_head_186 : decode cX11_head 186 = .ok (.bipush 114, 2) := by decide +kernel
theorem dX11_head_188 : decode cX11_head 188 = .ok (.iastore, 1) := by decide +kernel
theorem dX11_head_189 : decode cX11_head 189 = .ok (.aload_n 0, 1) := by decide +kernel
theorem dX11_head_190 : decode cX11_head 190 = .ok (.getfield 47, 3) := by decide +kernel
theorem dX11_head_193 : decode cX11_head 193 = .ok (.iload 7, 2) := by decide +kernel
theorem dX11_head_195 : decode cX11_head 195 = .ok (.sipush 262, 3) := by decide +kernel
theorem dX11_head_198 : decode cX11_head 198 = .ok (.iadd, 1) := by decide +kernel
theorem dX11_head_199 : decode cX11_head 199 = .ok (.iload_n 1, 1) := by decide +kernel
theorem dX11_head_200 : decode cX11_head 200 = .ok (.iconst 3, 1) := by decide +kernel
theorem dX11_head_201 : decode cX11_head 201 = .ok (.if_icmp .ne 8, 3) := by decide +kernel
theorem dX11_head_204 : decode cX11_head 204 = .ok (.bipush 32, 2) := by decide +kernel
theorem dX11_head_206 : decode cX11_head 206 = .ok (.goto 4, 3) := by decide +kernel
theorem dX11_head_209 : decode cX11_head 209 = .ok (.iconst 0, 1) := by decide +kernel
theorem dX11_head_210 : decode cX11_head 210 = .ok (.iastore, 1) := by decide +kernel
theorem dX11_head_211 : decode cX11_head 211 = .ok (.aload_n 0, 1) := by decide +kernel
theorem dX11_head_212 : decode cX11_head 212 = .ok (.getfield 47, 3) := by decide +kernel
theorem dX11_head_215 : decode cX11_head 215 = .ok (.iload 7, 2) := by decide +kernel
theorem dX11_head_217 : decode cX11_head 217 = .ok (.sipush 263, 3) := by decide +kernel
theorem dX11_head_220 : decode cX11_head 220 = .ok (.iadd, 1) := by decide +kernel
theorem dX11_head_221 : decode cX11_head 221 = .ok (.iload_n 1, 1) := by decide +kernel
theorem dX11_head_222 : decode cX11_head 222 = .ok (.iconst 3, 1) := by decide +kernel
theorem dX11_head_223 : decode cX11_head 223 = .ok (.if_icmp .ne 8, 3) := by decide +kernel
theorem dX11_head_226 : decode cX11_head 226 = .ok (.bipush 32, 2) := by decide +kernel
theorem dX11_head_228 : decode cX11_head 228 = .ok (.goto 5, 3) := by decide +kernel
theorem dX11_head_231 : decode cX11_head 231 = .ok (.bipush 48, 2) := by decide +kernel
theorem dX11_head_233 : decode cX11_head 233 = .ok (.iastore, 1) := by decide +kernel
theorem dX11_head_234 : decode cX11_head 234 = .ok (.aload_n 0, 1) := by decide +kernel
theorem dX11_head_235 : decode cX11_head 235 = .ok (.getfield 47, 3) := by decide +kernel
theorem dX11_head_238 : decode cX11_head 238 = .ok (.iload 7, 2) := by decide +kernel
theorem dX11_head_240 : decode cX11_head 240 = .ok (.sipush 264, 3) := by decide +kernel
theorem dX11_head_243 : decode cX11_head 243 = .ok (.iadd, 1) := by decide +kernel
theorem dX11_head_244 : decode cX11_head 244 = .ok (.iload_n 1, 1) := by decide +kernel
theorem dX11_head_245 : decode cX11_head 245 = .ok (.iconst 3, 1) := by decide +kernel
theorem dX11_head_246 : decode cX11_head 246 = .ok (.if_icmp .ne 7, 3) := by decide +kernel
theorem dX11_head_249 : decode cX11_head 249 = .ok (.iconst 0, 1) := by decide +kernel
theorem dX11_head_250 : decode cX11_head 250 = .ok (.goto 5, 3) := by decide +kernel
theorem dX11_head_253 : decode cX11_head 253 = .ok (.bipush 48, 2) := by decide +kernel
theorem dX11_head_255 : decode cX11_head 255 = .ok (.iastore, 1) := by decide +kernel
theorem dX11_head_256 : decode cX11_head 256 = .ok (.iload 7, 2) := by decide +kernel
theorem dX11_head_258 : decode cX11_head 258 = .ok (.ireturn, 1) := by decide +kernel
theorem dX11_sumOf_0 : decode cX11_sumOf 0 = .ok (.iconst 0, 1) := by decide +kernel
theorem dX11_sumOf_1 : decode cX11_sumOf 1 = .ok (.istore 4, 2) := by decide +kernel
theorem dX11_sumOf_3 : decode cX11_sumOf 3 = .ok (.iconst 0, 1) := by decide +kernel
theorem dX11_sumOf_4 : decode cX11_sumOf 4 = .ok (.istore 5, 2) := by decide +kernel
theorem dX11_sumOf_6 : decode cX11_sumOf 6 = .ok (.iload 5, 2) := by decide +kernel
theorem dX11_sumOf_8 : decode cX11_sumOf 8 = .ok (.sipush 512, 3) := by decide +kernel
theorem dX11_sumOf_11 : decode cX11_sumOf 11 = .ok (.if_icmp .ge 65, 3) := by decide +kernel
theorem dX11_sumOf_14 : decode cX11_sumOf 14 = .ok (.iload 5, 2) := by decide +kernel
theorem dX11_sumOf_16 : decode cX11_sumOf 16 = .ok (.sipush 148, 3) := by decide +kernel
theorem dX11_sumOf_19 : decode cX11_sumOf 19 = .ok (.if_icmp .lt 16, 3) := by decide +kernel
theorem dX11_sumOf_22 : decode cX11_sumOf 22 = .ok (.iload 5, 2) := by decide +kernel
theorem dX11_sumOf_24 : decode cX11_sumOf 24 = .ok (.sipush 156, 3) := by decide +kernel
theorem dX11_sumOf_27 : decode cX11_sumOf 27 = .ok (.if_icmp .ge 8, 3) := by decide +kernel
theorem dX11_sumOf_30 : decode cX11_sumOf 30 = .ok (.bipush 32, 2) := by decide +kernel
theorem dX11_sumOf_32 : decode cX11_sumOf 32 = .ok (.goto 9, 3) := by decide +kernel
theorem dX11_sumOf_35 : decode cX11_sumOf 35 = .ok (.aload_n 1, 1) := by decide +kernel
theorem dX11_sumOf_36 : decode cX11_sumOf 36 = .ok (.iload_n 2, 1) := by decide +kernel
theorem dX11_sumOf_37 : decode cX11_sumOf 37 = .ok (.iload 5, 2) := by decide +kernel
theorem dX11_sumOf_39 : decode cX11_sumOf 39 = .ok (.iadd, 1) := by decide +kernel
theorem dX11_sumOf_40 : decode cX11_sumOf 40 = .ok (.iaload, 1) := by decide +kernel
theorem dX11_sumOf_41 : decode cX11_sumOf 41 = .ok (.istore 6, 2) := by decide +kernel
theorem dX11_sumOf_43 : decode cX11_sumOf 43 = .ok (.iload 4, 2) := by decide +kernel
theorem dX11_sumOf_45 : decode cX11_sumOf 45 = .ok (.iload_n 3, 1) := by decide +kernel
theorem dX11_sumOf_46 : decode cX11_sumOf 46 = .ok (.ifCond .eq 19, 3) := by decide +kernel
theorem dX11_sumOf_49 : decode cX11_sumOf 49 = .ok (.iload 6, 2) := by decide +kernel
theorem dX11_sumOf_51 : decode cX11_sumOf 51 = .ok (.bipush 127, 2) := by decide +kernel
theorem dX11_sumOf_53 : decode cX11_sumOf 53 = .ok (.if_icmp .le 12, 3) := by decide +kernel
theorem dX11_sumOf_56 : decode cX11_sumOf 56 = .ok (.iload 6, 2) := by decide +kernel
theorem dX11_sumOf_58 : decode cX11_sumOf 58 = .ok (.sipush 256, 3) := by decide +kernel
theorem dX11_sumOf_61 : decode cX11_sumOf 61 = .ok (.isub, 1) := by decide +kernel
theorem dX11_sumOf_62 : decode cX11_sumOf 62 = .ok (.goto 5, 3) := by decide +kernel
theorem dX11_sumOf_65 : decode cX11_sumOf 65 = .ok (.iload 6, 2) := by decide +kernel
theorem dX11_sumOf_67 : decode cX11_sumOf 67 = .ok (.iadd, 1) := by decide +kernel
theorem dX11_sumOf_68 : decode cX11_sumOf 68 = .ok (.istore 4, 2) := by decide +kernel
theorem dX11_sumOf_70 : decode cX11_sumOf 70 = .ok (.iinc 5 1, 3) := by decide +kernel
theorem dX11_sumOf_73 : decode cX11_sumOf 73 = .ok (.goto (-67), 3) := by decide +kernel
theorem dX11_sumOf_76 : decode cX11_sumOf 76 = .ok (.iload 4, 2) := by decide +kernel
theorem dX11_sumOf_78 : decode cX11_sumOf 78 = .ok (.ireturn, 1) := by decide +kernel
theorem dX11_putSum_0 : decode cX11_putSum 0 = .ok (.iconst 0, 1) := by decide +kernel
theorem dX11_putSum_1 : decode cX11_putSum 1 = .ok (.istore_n 3, 1) := by decide +kernel
theorem dX11_putSum_2 : decode cX11_putSum 2 = .ok (.iload_n 3, 1) := by decide +kernel
theorem dX11_putSum_3 : decode cX11_putSum 3 = .ok (.bipush 6, 2) := by decide +kernel
theorem dX11_putSum_5 : decode cX11_putSum 5 = .ok (.if_icmp .ge 31, 3) := by decide +kernel
theorem dX11_putSum_8 : decode cX11_putSum 8 = .ok (.aload_n 0, 1) := by decide +kernel
theorem dX11_putSum_9 : decode cX11_putSum 9 = .ok (.iload_n 1, 1) := by decide +kernel
theorem dX11_putSum_10 : decode cX11_putSum 10 = .ok (.sipush 148, 3) := by decide +kernel
theorem dX11_putSum_13 : decode cX11_putSum 13 = .ok (.iadd, 1) := by decide +kernel
theorem dX11_putSum_14 : decode cX11_putSum 14 = .ok (.iload_n 3, 1) := by decide +kernel
theorem dX11_putSum_15 : decode cX11_putSum 15 = .ok (.iadd, 1) := by decide +kernel
theorem dX11_putSum_16 : decode cX11_putSum 16 = .ok (.bipush 48, 2) := by decide +kernel
theorem dX11_putSum_18 : decode cX11_putSum 18 = .ok (.iload_n 2, 1) := by decide +kernel
theorem dX11_putSum_19 : decode cX11_putSum 19 = .ok (.iconst 3, 1) := by decide +kernel
theorem dX11_putSum_20 : decode cX11_putSum 20 = .ok (.iconst 5, 1) := by decide +kernel
theorem dX11_putSum_21 : decode cX11_putSum 21 = .ok (.iload_n 3, 1) := by decide +kernel
theorem dX11_putSum_22 : decode cX11_putSum 22 = .ok (.isub, 1) := by decide +kernel
theorem dX11_putSum_23 : decode cX11_putSum 23 = .ok (.imul, 1) := by decide +kernel
theorem dX11_putSum_24 : decode cX11_putSum 24 = .ok (.ishr, 1) := by decide +kernel
theorem dX11_putSum_25 : decode cX11_putSum 25 = .ok (.bipush 7, 2) := by decide +kernel
theorem dX11_putSum_27 : decode cX11_putSum 27 = .ok (.iand, 1) := by decide +kernel
theorem dX11_putSum_28 : decode cX11_putSum 28 = .ok (.iadd, 1) := by decide +kernel
theorem dX11_putSum_29 : decode cX11_putSum 29 = .ok (.iastore, 1) := by decide +kernel
theorem dX11_putSum_30 : decode cX11_putSum 30 = .ok (.iinc 3 1, 3) := by decide +kernel
theorem dX11_putSum_33 : decode cX11_putSum 33 = .ok (.goto (-31), 3) := by decide +kernel
theorem dX11_putSum_36 : decode cX11_putSum 36 = .ok (.aload_n 0, 1) := by decide +kernel
theorem dX11_putSum_37 : decode cX11_putSum 37 = .ok (.iload_n 1, 1) := by decide +kernel
theorem dX11_putSum_38 : decode cX11_putSum 38 = .ok (.sipush 154, 3) := by decide +kernel
theorem dX11_putSum_41 : decode cX11_putSum 41 = .ok (.iadd, 1) := by decide +kernel
theorem dX11_putSum_42 : decode cX11_putSum 42 = .ok (.iconst 0, 1) := by decide +kernel
theorem dX11_putSum_43 : decode cX11_putSum 43 = .ok (.iastore, 1) := by decide +kernel
theorem dX11_putSum_44 : decode cX11_putSum 44 = .ok (.aload_n 0, 1) := by decide +kernel
theorem dX11_putSum_45 : decode cX11_putSum 45 = .ok (.iload_n 1, 1) := by decide +kernel
theorem dX11_putSum_46 : decode cX11_putSum 46 = .ok (.sipush 155, 3) := by decide +kernel
theorem dX11_putSum_49 : decode cX11_putSum 49 = .ok (.iadd, 1) := by decide +kernel
theorem dX11_putSum_50 : decode cX11_putSum 50 = .ok (.bipush 32, 2) := by decide +kernel
theorem dX11_putSum_52 : decode cX11_putSum 52 = .ok (.iastore, 1) := by decide +kernel
theorem dX11_putSum_53 : decode cX11_putSum 53 = .ok (.return_, 1) := by decide +kernel
theorem dX11_endHead_0 : decode cX11_endHead 0 = .ok (.aload_n 0, 1) := by decide +kernel
theorem dX11_endHead_1 : decode cX11_endHead 1 = .ok (.getfield 47, 3) := by decide +kernel
theorem dX11_endHead_4 : decode cX11_endHead 4 = .ok (.iload_n 1, 1) := by decide +kernel
theorem dX11_endHead_5 : decode cX11_endHead 5 = .ok (.aload_n 0, 1) := by decide +kernel
theorem dX11_endHead_6 : decode cX11_endHead 6 = .ok (.aload_n 0, 1) := by decide +kernel
theorem dX11_endHead_7 : decode cX11_endHead 7 = .ok (.getfield 47, 3) := by decide +kernel
theorem dX11_endHead_10 : decode cX11_endHead 10 = .ok (.iload_n 1, 1) := by decide +kernel
theorem dX11_endHead_11 : decode cX11_endHead 11 = .ok (.iconst 0, 1) := by decide +kernel
theorem dX11_endHead_12 : decode cX11_endHead 12 = .ok (.invokevirtual 131, 3) := by decide +kernel
theorem dX11_endHead_15 : decode cX11_endHead 15 = .ok (.invokestatic 135, 3) := by decide +kernel
theorem dX11_endHead_18 : decode cX11_endHead 18 = .ok (.return_, 1) := by decide +kernel
theorem dX11_fill_0 : decode cX11_fill 0 = .ok (.aload_n 0, 1) := by decide +kernel
theorem dX11_fill_1 : decode cX11_fill 1 = .ok (.getfield 128, 3) := by decide +kernel
theorem dX11_fill_4 : decode cX11_fill 4 = .ok (.sipush 512, 3) := by decide +kernel
theorem dX11_fill_7 : decode cX11_fill 7 = .ok (.irem, 1) := by decide +kernel
theorem dX11_fill_8 : decode cX11_fill 8 = .ok (.ifCond .eq 23, 3) := by decide +kernel
theorem dX11_fill_11 : decode cX11_fill 11 = .ok (.aload_n 0, 1) := by decide +kernel
theorem dX11_fill_12 : decode cX11_fill 12 = .ok (.getfield 47, 3) := by decide +kernel
theorem dX11_fill_15 : decode cX11_fill 15 = .ok (.aload_n 0, 1) := by decide +kernel
theorem dX11_fill_16 : decode cX11_fill 16 = .ok (.dup, 1) := by decide +kernel
theorem dX11_fill_17 : decode cX11_fill 17 = .ok (.getfield 128, 3) := by decide +kernel
theorem dX11_fill_20 : decode cX11_fill 20 = .ok (.dup_x1, 1) := by decide +kernel
theorem dX11_fill_21 : decode cX11_fill 21 = .ok (.iconst 1, 1) := by decide +kernel
theorem dX11_fill_22 : decode cX11_fill 22 = .ok (.iadd, 1) := by decide +kernel
theorem dX11_fill_23 : decode cX11_fill 23 = .ok (.putfield 128, 3) := by decide +kernel
theorem dX11_fill_26 : decode cX11_fill 26 = .ok (.iconst 0, 1) := by decide +kernel
theorem dX11_fill_27 : decode cX11_fill 27 = .ok (.iastore, 1) := by decide +kernel
theorem dX11_fill_28 : decode cX11_fill 28 = .ok (.goto (-28), 3) := by decide +kernel
theorem dX11_fill_31 : decode cX11_fill 31 = .ok (.return_, 1) := by decide +kernel
theorem dX11_say_0 : decode cX11_say 0 = .ok (.aload_n 0, 1) := by decide +kernel
theorem dX11_say_1 : decode cX11_say 1 = .ok (.getfield 50, 3) := by decide +kernel
theorem dX11_say_4 : decode cX11_say 4 = .ok (.aload_n 0, 1) := by decide +kernel
theorem dX11_say_5 : decode cX11_say 5 = .ok (.dup, 1) := by decide +kernel
theorem dX11_say_6 : decode cX11_say 6 = .ok (.getfield 139, 3) := by decide +kernel
theorem dX11_say_9 : decode cX11_say 9 = .ok (.dup_x1, 1) := by decide +kernel
theorem dX11_say_10 : decode cX11_say 10 = .ok (.iconst 1, 1) := by decide +kernel
theorem dX11_say_11 : decode cX11_say 11 = .ok (.iadd, 1) := by decide +kernel
theorem dX11_say_12 : decode cX11_say 12 = .ok (.putfield 139, 3) := by decide +kernel
theorem dX11_say_15 : decode cX11_say 15 = .ok (.iload_n 1, 1) := by decide +kernel
theorem dX11_say_16 : decode cX11_say 16 = .ok (.iastore, 1) := by decide +kernel
theorem dX11_say_17 : decode cX11_say 17 = .ok (.return_, 1) := by decide +kernel
theorem dX11_sayNumber_0 : decode cX11_sayNumber 0 = .ok (.lconst 1, 1) := by decide +kernel
theorem dX11_sayNumber_1 : decode cX11_sayNumber 1 = .ok (.lstore_n 3, 1) := by decide +kernel
theorem dX11_sayNumber_2 : decode cX11_sayNumber 2 = .ok (.lload_n 1, 1) := by decide +kernel
theorem dX11_sayNumber_3 : decode cX11_sayNumber 3 = .ok (.lload_n 3, 1) := by decide +kernel
theorem dX11_sayNumber_4 : decode cX11_sayNumber 4 = .ok (.ldiv, 1) := by decide +kernel
theorem dX11_sayNumber_5 : decode cX11_sayNumber 5 = .ok (.ldc2_w 142, 3) := by decide +kernel
theorem dX11_sayNumber_8 : decode cX11_sayNumber 8 = .ok (.lcmp, 1) := by decide +kernel
theorem dX11_sayNumber_9 : decode cX11_sayNumber 9 = .ok (.ifCond .le 12, 3) := by decide +kernel
theorem dX11_sayNumber_12 : decode cX11_sayNumber 12 = .ok (.lload_n 3, 1) := by decide +kernel
theorem dX11_sayNumber_13 : decode cX11_sayNumber 13 = .ok (.ldc2_w 144, 3) := by decide +kernel
theorem dX11_sayNumber_16 : decode cX11_sayNumber 16 = .ok (.lmul, 1) := by decide +kernel
theorem dX11_sayNumber_17 : decode cX11_sayNumber 17 = .ok (.lstore_n 3, 1) := by decide +kernel
theorem dX11_sayNumber_18 : decode cX11_sayNumber 18 = .ok (.goto (-16), 3) := by decide +kernel
theorem dX11_sayNumber_21 : decode cX11_sayNumber 21 = .ok (.lload_n 3, 1) := by decide +kernel
theorem dX11_sayNumber_22 : decode cX11_sayNumber 22 = .ok (.lconst 0, 1) := by decide +kernel
theorem dX11_sayNumber_23 : decode cX11_sayNumber 23 = .ok (.lcmp, 1) := by decide +kernel
theorem dX11_sayNumber_24 : decode cX11_sayNumber 24 = .ok (.ifCond .le 27, 3) := by decide +kernel
theorem dX11_sayNumber_27 : decode cX11_sayNumber 27 = .ok (.aload_n 0, 1) := by decide +kernel
theorem dX11_sayNumber_28 : decode cX11_sayNumber 28 = .ok (.bipush 48, 2) := by decide +kernel
theorem dX11_sayNumber_30 : decode cX11_sayNumber 30 = .ok (.lload_n 1, 1) := by decide +kernel
theorem dX11_sayNumber_31 : decode cX11_sayNumber 31 = .ok (.lload_n 3, 1) := by decide +kernel
theorem dX11_sayNumber_32 : decode cX11_sayNumber 32 = .ok (.ldiv, 1) := by decide +kernel
theorem dX11_sayNumber_33 : decode cX11_sayNumber 33 = .ok (.ldc2_w 144, 3) := by decide +kernel
theorem dX11_sayNumber_36 : decode cX11_sayNumber 36 = .ok (.lrem, 1) := by decide +kernel
theorem dX11_sayNumber_37 : decode cX11_sayNumber 37 = .ok (.l2i, 1) := by decide +kernel
theorem dX11_sayNumber_38 : decode cX11_sayNumber 38 = .ok (.iadd, 1) := by decide +kernel
theorem dX11_sayNumber_39 : decode cX11_sayNumber 39 = .ok (.invokevirtual 146, 3) := by decide +kernel
theorem dX11_sayNumber_42 : decode cX11_sayNumber 42 = .ok (.lload_n 3, 1) := by decide +kernel
theorem dX11_sayNumber_43 : decode cX11_sayNumber 43 = .ok (.ldc2_w 144, 3) := by decide +kernel
theorem dX11_sayNumber_46 : decode cX11_sayNumber 46 = .ok (.ldiv, 1) := by decide +kernel
theorem dX11_sayNumber_47 : decode cX11_sayNumber 47 = .ok (.lstore_n 3, 1) := by decide +kernel
theorem dX11_sayNumber_48 : decode cX11_sayNumber 48 = .ok (.goto (-27), 3) := by decide +kernel
theorem dX11_sayNumber_51 : decode cX11_sayNumber 51 = .ok (.return_, 1) := by decide +kernel
theorem dX11_sayTime_0 : decode cX11_sayTime 0 = .ok (.lload_n 1, 1) := by decide +kernel
theorem dX11_sayTime_1 : decode cX11_sayTime 1 = .ok (.lstore 5, 2) := by decide +kernel
theorem dX11_sayTime_3 : decode cX11_sayTime 3 = .ok (.lload_n 3, 1) := by decide +kernel
theorem dX11_sayTime_4 : decode cX11_sayTime 4 = .ok (.lstore 7, 2) := by decide +kernel
theorem dX11_sayTime_6 : decode cX11_sayTime 6 = .ok (.lload_n 1, 1) := by decide +kernel
theorem dX11_sayTime_7 : decode cX11_sayTime 7 = .ok (.lconst 0, 1) := by decide +kernel
theorem dX11_sayTime_8 : decode cX11_sayTime 8 = .ok (.lcmp, 1) := by decide +kernel
theorem dX11_sayTime_9 : decode cX11_sayTime 9 = .ok (.ifCond .ge 46, 3) := by decide +kernel
theorem dX11_sayTime_12 : decode cX11_sayTime 12 = .ok (.aload_n 0, 1) := by decide +kernel
theorem dX11_sayTime_13 : decode cX11_sayTime 13 = .ok (.bipush 45, 2) := by decide +kernel
theorem dX11_sayTime_15 : decode cX11_sayTime 15 = .ok (.invokevirtual 146, 3) := by decide +kernel
theorem dX11_sayTime_18 : decode cX11_sayTime 18 = .ok (.lload 7, 2) := by decide +kernel
theorem dX11_sayTime_20 : decode cX11_sayTime 20 = .ok (.lconst 0, 1) := by decide +kernel
theorem dX11_sayTime_21 : decode cX11_sayTime 21 = .ok (.lcmp, 1) := by decide +kernel
theorem dX11_sayTime_22 : decode cX11_sayTime 22 = .ok (.ifCond .le 10, 3) := by decide +kernel
theorem dX11_sayTime_25 : decode cX11_sayTime 25 = .ok (.lload_n 1, 1) := by decide +kernel
theorem dX11_sayTime_26 : decode cX11_sayTime 26 = .ok (.lneg, 1) := by decide +kernel
theorem dX11_sayTime_27 : decode cX11_sayTime 27 = .ok (.lconst 1, 1) := by decide +kernel
theorem dX11_sayTime_28 : decode cX11_sayTime 28 = .ok (.lsub, 1) := by decide +kernel
theorem dX11_sayTime_29 : decode cX11_sayTime 29 = .ok (.goto 5, 3) := by decide +kernel
theorem dX11_sayTime_32 : decode cX11_sayTime 32 = .ok (.lload_n 1, 1) := by decide +kernel
theorem dX11_sayTime_33 : decode cX11_sayTime 33 = .ok (.lneg, 1) := by decide +kernel
theorem dX11_sayTime_34 : decode cX11_sayTime 34 = .ok (.lstore 5, 2) := by decide +kernel
theorem dX11_sayTime_36 : decode cX11_sayTime 36 = .ok (.lload 7, 2) := by decide +kernel
theorem dX11_sayTime_38 : decode cX11_sayTime 38 = .ok (.lconst 0, 1) := by decide +kernel
theorem dX11_sayTime_39 : decode cX11_sayTime 39 = .ok (.lcmp, 1) := by decide +kernel
theorem dX11_sayTime_40 : decode cX11_sayTime 40 = .ok (.ifCond .le 12, 3) := by decide +kernel
theorem dX11_sayTime_43 : decode cX11_sayTime 43 = .ok (.ldc2_w 150, 3) := by decide +kernel
theorem dX11_sayTime_46 : decode cX11_sayTime 46 = .ok (.lload 7, 2) := by decide +kernel
theorem dX11_sayTime_48 : decode cX11_sayTime 48 = .ok (.lsub, 1) := by decide +kernel
theorem dX11_sayTime_49 : decode cX11_sayTime 49 = .ok (.goto 4, 3) := by decide +kernel
theorem dX11_sayTime_52 : decode cX11_sayTime 52 = .ok (.lconst 0, 1) := by decide +kernel
theorem dX11_sayTime_53 : decode cX11_sayTime 53 = .ok (.lstore 7, 2) := by decide +kernel
theorem dX11_sayTime_55 : decode cX11_sayTime 55 = .ok (.aload_n 0, 1) := by decide +kernel
theorem dX11_sayTime_56 : decode cX11_sayTime 56 = .ok (.lload 5, 2) := by decide +kernel
theorem dX11_sayTime_58 : decode cX11_sayTime 58 = .ok (.invokevirtual 152, 3) := by decide +kernel
theorem dX11_sayTime_61 : decode cX11_sayTime 61 = .ok (.lload 7, 2) := by decide +kernel
theorem dX11_sayTime_63 : decode cX11_sayTime 63 = .ok (.lconst 0, 1) := by decide +kernel
theorem dX11_sayTime_64 : decode cX11_sayTime 64 = .ok (.lcmp, 1) := by decide +kernel
theorem dX11_sayTime_65 : decode cX11_sayTime 65 = .ok (.ifCond .le 52, 3) := by decide +kernel
theorem dX11_sayTime_68 : decode cX11_sayTime 68 = .ok (.aload_n 0, 1) := by decide +kernel
theorem dX11_sayTime_69 : decode cX11_sayTime 69 = .ok (.bipush 46, 2) := by decide +kernel
theorem dX11_sayTime_71 : decode cX11_sayTime 71 = .ok (.invokevirtual 146, 3) := by decide +kernel
theorem dX11_sayTime_74 : decode cX11_sayTime 74 = .ok (.ldc2_w 156, 3) := by decide +kernel
theorem dX11_sayTime_77 : decode cX11_sayTime 77 = .ok (.lstore 9, 2) := by decide +kernel
theorem dX11_sayTime_79 : decode cX11_sayTime 79 = .ok (.lload 7, 2) := by decide +kernel
theorem dX11_sayTime_81 : decode cX11_sayTime 81 = .ok (.lconst 0, 1) := by decide +kernel
theorem dX11_sayTime_82 : decode cX11_sayTime 82 = .ok (.lcmp, 1) := by decide +kernel
theorem dX11_sayTime_83 : decode cX11_sayTime 83 = .ok (.ifCond .le 34, 3) := by decide +kernel
theorem dX11_sayTime_86 : decode cX11_sayTime 86 = .ok (.aload_n 0, 1) := by decide +kernel
theorem dX11_sayTime_87 : decode cX11_sayTime 87 = .ok (.bipush 48, 2) := by decide +kernel
theorem dX11_sayTime_89 : decode cX11_sayTime 89 = .ok (.lload 7, 2) := by decide +kernel
theorem dX11_sayTime_91 : decode cX11_sayTime 91 = .ok (.lload 9, 2) := by decide +kernel
theorem dX11_sayTime_93 : decode cX11_sayTime 93 = .ok (.ldiv, 1) := by decide +kernel
theorem dX11_sayTime_94 : decode cX11_sayTime 94 = .ok (.l2i, 1) := by decide +kernel
theorem dX11_sayTime_95 : decode cX11_sayTime 95 = .ok (.iadd, 1) := by decide +kernel
theorem dX11_sayTime_96 : decode cX11_sayTime 96 = .ok (.invokevirtual 146, 3) := by decide +kernel
theorem dX11_sayTime_99 : decode cX11_sayTime 99 = .ok (.lload 7, 2) := by decide +kernel
theorem dX11_sayTime_101 : decode cX11_sayTime 101 = .ok (.lload 9, 2) := by decide +kernel
theorem dX11_sayTime_103 : decode cX11_sayTime 103 = .ok (.lrem, 1) := by decide +kernel
theorem dX11_sayTime_104 : decode cX11_sayTime 104 = .ok (.lstore 7, 2) := by decide +kernel
theorem dX11_sayTime_106 : decode cX11_sayTime 106 = .ok (.lload 9, 2) := by decide +kernel
theorem dX11_sayTime_108 : decode cX11_sayTime 108 = .ok (.ldc2_w 144, 3) := by decide +kernel
theorem dX11_sayTime_111 : decode cX11_sayTime 111 = .ok (.ldiv, 1) := by decide +kernel
theorem dX11_sayTime_112 : decode cX11_sayTime 112 = .ok (.lstore 9, 2) := by decide +kernel
theorem dX11_sayTime_114 : decode cX11_sayTime 114 = .ok (.goto (-35), 3) := by decide +kernel
theorem dX11_sayTime_117 : decode cX11_sayTime 117 = .ok (.return_, 1) := by decide +kernel
theorem dX11_digits_0 : decode cX11_digits 0 = .ok (.iload_n 0, 1) := by decide +kernel
theorem dX11_digits_1 : decode cX11_digits 1 = .ok (.bipush 10, 2) := by decide +kernel
theorem dX11_digits_3 : decode cX11_digits 3 = .ok (.if_icmp .ge 7, 3) := by decide +kernel
theorem dX11_digits_6 : decode cX11_digits 6 = .ok (.iconst 1, 1) := by decide +kernel
theorem dX11_digits_7 : decode cX11_digits 7 = .ok (.goto 25, 3) := by decide +kernel
theorem dX11_digits_10 : decode cX11_digits 10 = .ok (.iload_n 0, 1) := by decide +kernel
theorem dX11_digits_11 : decode cX11_digits 11 = .ok (.bipush 100, 2) := by decide +kernel
theorem dX11_digits_13 : decode cX11_digits 13 = .ok (.if_icmp .ge 7, 3) := by decide +kernel
theorem dX11_digits_16 : decode cX11_digits 16 = .ok (.iconst 2, 1) := by decide +kernel
theorem dX11_digits_17 : decode cX11_digits 17 = .ok (.goto 15, 3) := by decide +kernel
theorem dX11_digits_20 : decode cX11_digits 20 = .ok (.iload_n 0, 1) := by decide +kernel
theorem dX11_digits_21 : decode cX11_digits 21 = .ok (.sipush 1000, 3) := by decide +kernel
theorem dX11_digits_24 : decode cX11_digits 24 = .ok (.if_icmp .ge 7, 3) := by decide +kernel
theorem dX11_digits_27 : decode cX11_digits 27 = .ok (.iconst 3, 1) := by decide +kernel
theorem dX11_digits_28 : decode cX11_digits 28 = .ok (.goto 4, 3) := by decide +kernel
theorem dX11_digits_31 : decode cX11_digits 31 = .ok (.iconst 4, 1) := by decide +kernel
theorem dX11_digits_32 : decode cX11_digits 32 = .ok (.ireturn, 1) := by decide +kernel
theorem dX11_putWord_0 : decode cX11_putWord 0 = .ok (.iconst 0, 1) := by decide +kernel
theorem dX11_putWord_1 : decode cX11_putWord 1 = .ok (.istore_n 1, 1) := by decide +kernel
theorem dX11_putWord_2 : decode cX11_putWord 2 = .ok (.iload_n 1, 1) := by decide +kernel
theorem dX11_putWord_3 : decode cX11_putWord 3 = .ok (.aload_n 0, 1) := by decide +kernel
theorem dX11_putWord_4 : decode cX11_putWord 4 = .ok (.getfield 139, 3) := by decide +kernel
theorem dX11_putWord_7 : decode cX11_putWord 7 = .ok (.if_icmp .ge 31, 3) := by decide +kernel
theorem dX11_putWord_10 : decode cX11_putWord 10 = .ok (.aload_n 0, 1) := by decide +kernel
theorem dX11_putWord_11 : decode cX11_putWord 11 = .ok (.getfield 47, 3) := by decide +kernel
theorem dX11_putWord_14 : decode cX11_putWord 14 = .ok (.aload_n 0, 1) := by decide +kernel
theorem dX11_putWord_15 : decode cX11_putWord 15 = .ok (.dup, 1) := by decide +kernel
theorem dX11_putWord_16 : decode cX11_putWord 16 = .ok (.getfield 128, 3) := by decide +kernel
theorem dX11_putWord_19 : decode cX11_putWord 19 = .ok (.dup_x1, 1) := by decide +kernel
theorem dX11_putWord_20 : decode cX11_putWord 20 = .ok (.iconst 1, 1) := by decide +kernel
theorem dX11_putWord_21 : decode cX11_putWord 21 = .ok (.iadd, 1) := by decide +kernel
theorem dX11_putWord_22 : decode cX11_putWord 22 = .ok (.putfield 128, 3) := by decide +kernel
theorem dX11_putWord_25 : decode cX11_putWord 25 = .ok (.aload_n 0, 1) := by decide +kernel
theorem dX11_putWord_26 : decode cX11_putWord 26 = .ok (.getfield 50, 3) := by decide +kernel
theorem dX11_putWord_29 : decode cX11_putWord 29 = .ok (.iload_n 1, 1) := by decide +kernel
theorem dX11_putWord_30 : decode cX11_putWord 30 = .ok (.iaload, 1) := by decide +kernel
theorem dX11_putWord_31 : decode cX11_putWord 31 = .ok (.iastore, 1) := by decide +kernel
theorem dX11_putWord_32 : decode cX11_putWord 32 = .ok (.iinc 1 1, 3) := by decide +kernel
theorem dX11_putWord_35 : decode cX11_putWord 35 = .ok (.goto (-33), 3) := by decide +kernel
theorem dX11_putWord_38 : decode cX11_putWord 38 = .ok (.aload_n 0, 1) := by decide +kernel
theorem dX11_putWord_39 : decode cX11_putWord 39 = .ok (.iconst 0, 1) := by decide +kernel
theorem dX11_putWord_40 : decode cX11_putWord 40 = .ok (.putfield 139, 3) := by decide +kernel
theorem dX11_putWord_43 : decode cX11_putWord 43 = .ok (.return_, 1) := by decide +kernel
theorem dX11_row_0 : decode cX11_row 0 = .ok (.iconst 0, 1) := by decide +kernel
theorem dX11_row_1 : decode cX11_row 1 = .ok (.istore_n 3, 1) := by decide +kernel
theorem dX11_row_2 : decode cX11_row 2 = .ok (.iload_n 3, 1) := by decide +kernel
theorem dX11_row_3 : decode cX11_row 3 = .ok (.bipush 8, 2) := by decide +kernel
theorem dX11_row_5 : decode cX11_row 5 = .ok (.if_icmp .ge 20, 3) := by decide +kernel
theorem dX11_row_8 : decode cX11_row 8 = .ok (.lload_n 1, 1) := by decide +kernel
theorem dX11_row_9 : decode cX11_row 9 = .ok (.bipush 8, 2) := by decide +kernel
theorem dX11_row_11 : decode cX11_row 11 = .ok (.iload_n 3, 1) := by decide +kernel
theorem dX11_row_12 : decode cX11_row 12 = .ok (.imul, 1) := by decide +kernel
theorem dX11_row_13 : decode cX11_row 13 = .ok (.lushr, 1) := by decide +kernel
theorem dX11_row_14 : decode cX11_row 14 = .ok (.lconst 0, 1) := by decide +kernel
theorem dX11_row_15 : decode cX11_row 15 = .ok (.lcmp, 1) := by decide +kernel
theorem dX11_row_16 : decode cX11_row 16 = .ok (.ifCond .eq 9, 3) := by decide +kernel
theorem dX11_row_19 : decode cX11_row 19 = .ok (.iinc 3 1, 3) := by decide +kernel
theorem dX11_row_22 : decode cX11_row 22 = .ok (.goto (-20), 3) := by decide +kernel
theorem dX11_row_25 : decode cX11_row 25 = .ok (.iconst 1, 1) := by decide +kernel
theorem dX11_row_26 : decode cX11_row 26 = .ok (.iload_n 3, 1) := by decide +kernel
theorem dX11_row_27 : decode cX11_row 27 = .ok (.iadd, 1) := by decide +kernel
theorem dX11_row_28 : decode cX11_row 28 = .ok (.iconst 1, 1) := by decide +kernel
theorem dX11_row_29 : decode cX11_row 29 = .ok (.iadd, 1) := by decide +kernel
theorem dX11_row_30 : decode cX11_row 30 = .ok (.aload_n 0, 1) := by decide +kernel
theorem dX11_row_31 : decode cX11_row 31 = .ok (.getfield 139, 3) := by decide +kernel
theorem dX11_row_34 : decode cX11_row 34 = .ok (.iadd, 1) := by decide +kernel
theorem dX11_row_35 : decode cX11_row 35 = .ok (.iconst 1, 1) := by decide +kernel
theorem dX11_row_36 : decode cX11_row 36 = .ok (.iadd, 1) := by decide +kernel
theorem dX11_row_37 : decode cX11_row 37 = .ok (.istore 4, 2) := by decide +kernel
theorem dX11_row_39 : decode cX11_row 39 = .ok (.iload 4, 2) := by decide +kernel
theorem dX11_row_41 : decode cX11_row 41 = .ok (.iconst 1, 1) := by decide +kernel
theorem dX11_row_42 : decode cX11_row 42 = .ok (.iadd, 1) := by decide +kernel
theorem dX11_row_43 : decode cX11_row 43 = .ok (.istore 5, 2) := by decide +kernel
theorem dX11_row_45 : decode cX11_row 45 = .ok (.iload 5, 2) := by decide +kernel
theorem dX11_row_47 : decode cX11_row 47 = .ok (.iload 4, 2) := by decide +kernel
theorem dX11_row_49 : decode cX11_row 49 = .ok (.iload 5, 2) := by decide +kernel
theorem dX11_row_51 : decode cX11_row 51 = .ok (.invokestatic 158, 3) := by decide +kernel
theorem dX11_row_54 : decode cX11_row 54 = .ok (.iadd, 1) := by decide +kernel
theorem dX11_row_55 : decode cX11_row 55 = .ok (.if_icmp .eq 9, 3) := by decide +kernel
theorem dX11_row_58 : decode cX11_row 58 = .ok (.iinc 5 1, 3) := by decide +kernel
theorem dX11_row_61 : decode cX11_row 61 = .ok (.goto (-16), 3) := by decide +kernel
theorem dX11_row_64 : decode cX11_row 64 = .ok (.iload 5, 2) := by decide +kernel
theorem dX11_row_66 : decode cX11_row 66 = .ok (.invokestatic 158, 3) := by decide +kernel
theorem dX11_row_69 : decode cX11_row 69 = .ok (.iconst 1, 1) := by decide +kernel
theorem dX11_row_70 : decode cX11_row 70 = .ok (.isub, 1) := by decide +kernel
theorem dX11_row_71 : decode cX11_row 71 = .ok (.istore 6, 2) := by decide +kernel
theorem dX11_row_73 : decode cX11_row 73 = .ok (.iload 6, 2) := by decide +kernel
theorem dX11_row_75 : decode cX11_row 75 = .ok (.ifCond .lt 73, 3) := by decide +kernel
theorem dX11_row_78 : decode cX11_row 78 = .ok (.iload 6, 2) := by decide +kernel
theorem dX11_row_80 : decode cX11_row 80 = .ok (.iconst 3, 1) := by decide +kernel
theorem dX11_row_81 : decode cX11_row 81 = .ok (.if_icmp .ne 9, 3) := by decide +kernel
theorem dX11_row_84 : decode cX11_row 84 = .ok (.sipush 1000, 3) := by decide +kernel
theorem dX11_row_87 : decode cX11_row 87 = .ok (.goto 26, 3) := by decide +kernel
theorem dX11_row_90 : decode cX11_row 90 = .ok (.iload 6, 2) := by decide +kernel
theorem dX11_row_92 : decode cX11_row 92 = .ok (.iconst 2, 1) := by decide +kernel
theorem dX11_row_93 : decode cX11_row 93 = .ok (.if_icmp .ne 8, 3) := by decide +kernel
theorem dX11_row_96 : decode cX11_row 96 = .ok (.bipush 100, 2) := by decide +kernel
theorem dX11_row_98 : decode cX11_row 98 = .ok (.goto 15, 3) := by decide +kernel
theorem dX11_row_101 : decode cX11_row 101 = .ok (.iload 6, 2) := by decide +kernel
theorem dX11_row_103 : decode cX11_row 103 = .ok (.iconst 1, 1) := by decide +kernel
theorem dX11_row_104 : decode cX11_row 104 = .ok (.if_icmp .ne 8, 3) := by decide +kernel
theorem dX11_row_107 : decode cX11_row 107 = .ok (.bipush 10, 2) := by decide +kernel
theorem dX11_row_109 : decode cX11_row 109 = .ok (.goto 4, 3) := by decide +kernel
theorem dX11_row_112 : decode cX11_row 112 = .ok (.iconst 1, 1) := by decide +kernel
theorem dX11_row_113 : decode cX11_row 113 = .ok (.istore 7, 2) := by decide +kernel
theorem dX11_row_115 : decode cX11_row 115 = .ok (.aload_n 0, 1) := by decide +kernel
theorem dX11_row_116 : decode cX11_row 116 = .ok (.getfield 47, 3) := by decide +kernel
theorem dX11_row_119 : decode cX11_row 119 = .ok (.aload_n 0, 1) := by decide +kernel
theorem dX11_row_120 : decode cX11_row 120 = .ok (.dup, 1) := by decide +kernel
theorem dX11_row_121 : decode cX11_row 121 = .ok (.getfield 128, 3) := by decide +kernel
theorem dX11_row_124 : decode cX11_row 124 = .ok (.dup_x1, 1) := by decide +kernel
theorem dX11_row_125 : decode cX11_row 125 = .ok (.iconst 1, 1) := by decide +kernel
theorem dX11_row_126 : decode cX11_row 126 = .ok (.iadd, 1) := by decide +kernel
theorem dX11_row_127 : decode cX11_row 127 = .ok (.putfield 128, 3) := by decide +kernel
theorem dX11_row_130 : decode cX11_row 130 = .ok (.bipush 48, 2) := by decide +kernel
theorem dX11_row_132 : decode cX11_row 132 = .ok (.iload 5, 2) := by decide +kernel
theorem dX11_row_134 : decode cX11_row 134 = .ok (.iload 7, 2) := by decide +kernel
theorem dX11_row_136 : decode cX11_row 136 = .ok (.idiv, 1) := by decide +kernel
theorem dX11_row_137 : decode cX11_row 137 = .ok (.bipush 10, 2) := by decide +kernel
theorem dX11_row_139 : decode cX11_row 139 = .ok (.irem, 1) := by decide +kernel
theorem dX11_row_140 : decode cX11_row 140 = .ok (.iadd, 1) := by decide +kernel
theorem dX11_row_141 : decode cX11_row 141 = .ok (.iastore, 1) := by decide +kernel
theorem dX11_row_142 : decode cX11_row 142 = .ok (.iinc 6 (-1), 3) := by decide +kernel
theorem dX11_row_145 : decode cX11_row 145 = .ok (.goto (-72), 3) := by decide +kernel
theorem dX11_row_148 : decode cX11_row 148 = .ok (.aload_n 0, 1) := by decide +kernel
theorem dX11_row_149 : decode cX11_row 149 = .ok (.getfield 47, 3) := by decide +kernel
theorem dX11_row_152 : decode cX11_row 152 = .ok (.aload_n 0, 1) := by decide +kernel
theorem dX11_row_153 : decode cX11_row 153 = .ok (.dup, 1) := by decide +kernel
theorem dX11_row_154 : decode cX11_row 154 = .ok (.getfield 128, 3) := by decide +kernel
theorem dX11_row_157 : decode cX11_row 157 = .ok (.dup_x1, 1) := by decide +kernel
theorem dX11_row_158 : decode cX11_row 158 = .ok (.iconst 1, 1) := by decide +kernel
theorem dX11_row_159 : decode cX11_row 159 = .ok (.iadd, 1) := by decide +kernel
theorem dX11_row_160 : decode cX11_row 160 = .ok (.putfield 128, 3) := by decide +kernel
theorem dX11_row_163 : decode cX11_row 163 = .ok (.bipush 32, 2) := by decide +kernel
theorem dX11_row_165 : decode cX11_row 165 = .ok (.iastore, 1) := by decide +kernel
theorem dX11_row_166 : decode cX11_row 166 = .ok (.iload_n 3, 1) := by decide +kernel
theorem dX11_row_167 : decode cX11_row 167 = .ok (.iconst 1, 1) := by decide +kernel
theorem dX11_row_168 : decode cX11_row 168 = .ok (.isub, 1) := by decide +kernel
theorem dX11_row_169 : decode cX11_row 169 = .ok (.istore 6, 2) := by decide +kernel
theorem dX11_row_171 : decode cX11_row 171 = .ok (.iload 6, 2) := by decide +kernel
theorem dX11_row_173 : decode cX11_row 173 = .ok (.ifCond .lt 37, 3) := by decide +kernel
theorem dX11_row_176 : decode cX11_row 176 = .ok (.aload_n 0, 1) := by decide +kernel
theorem dX11_row_177 : decode cX11_row 177 = .ok (.getfield 47, 3) := by decide +kernel
theorem dX11_row_180 : decode cX11_row 180 = .ok (.aload_n 0, 1) := by decide +kernel
theorem dX11_row_181 : decode cX11_row 181 = .ok (.dup, 1) := by decide +kernel
theorem dX11_row_182 : decode cX11_row 182 = .ok (.getfield 128, 3) := by decide +kernel
theorem dX11_row_185 : decode cX11_row 185 = .ok (.dup_x1, 1) := by decide +kernel
theorem dX11_row_186 : decode cX11_row 186 = .ok (.iconst 1, 1) := by decide +kernel
theorem dX11_row_187 : decode cX11_row 187 = .ok (.iadd, 1) := by decide +kernel
theorem dX11_row_188 : decode cX11_row 188 = .ok (.putfield 128, 3) := by decide +kernel
theorem dX11_row_191 : decode cX11_row 191 = .ok (.lload_n 1, 1) := by decide +kernel
theorem dX11_row_192 : decode cX11_row 192 = .ok (.bipush 8, 2) := by decide +kernel
theorem dX11_row_194 : decode cX11_row 194 = .ok (.iload 6, 2) := by decide +kernel
theorem dX11_row_196 : decode cX11_row 196 = .ok (.imul, 1) := by decide +kernel
theorem dX11_row_197 : decode cX11_row 197 = .ok (.lushr, 1) := by decide +kernel
theorem dX11_row_198 : decode cX11_row 198 = .ok (.ldc2_w 119, 3) := by decide +kernel
theorem dX11_row_201 : decode cX11_row 201 = .ok (.land, 1) := by decide +kernel
theorem dX11_row_202 : decode cX11_row 202 = .ok (.l2i, 1) := by decide +kernel
theorem dX11_row_203 : decode cX11_row 203 = .ok (.iastore, 1) := by decide +kernel
theorem dX11_row_204 : decode cX11_row 204 = .ok (.iinc 6 (-1), 3) := by decide +kernel
theorem dX11_row_207 : decode cX11_row 207 = .ok (.goto (-36), 3) := by decide +kernel
theorem dX11_row_210 : decode cX11_row 210 = .ok (.aload_n 0, 1) := by decide +kernel
theorem dX11_row_211 : decode cX11_row 211 = .ok (.getfield 47, 3) := by decide +kernel
theorem dX11_row_214 : decode cX11_row 214 = .ok (.aload_n 0, 1) := by decide +kernel
theorem dX11_row_215 : decode cX11_row 215 = .ok (.dup, 1) := by decide +kernel
theorem dX11_row_216 : decode cX11_row 216 = .ok (.getfield 128, 3) := by decide +kernel
theorem dX11_row_219 : decode cX11_row 219 = .ok (.dup_x1, 1) := by decide +kernel
theorem dX11_row_220 : decode cX11_row 220 = .ok (.iconst 1, 1) := by decide +kernel
theorem dX11_row_221 : decode cX11_row 221 = .ok (.iadd, 1) := by decide +kernel
theorem dX11_row_222 : decode cX11_row 222 = .ok (.putfield 128, 3) := by decide +kernel
theorem dX11_row_225 : decode cX11_row 225 = .ok (.bipush 61, 2) := by decide +kernel
theorem dX11_row_227 : decode cX11_row 227 = .ok (.iastore, 1) := by decide +kernel
theorem dX11_row_228 : decode cX11_row 228 = .ok (.aload_n 0, 1) := by decide +kernel
theorem dX11_row_229 : decode cX11_row 229 = .ok (.invokevirtual 161, 3) := by decide +kernel
theorem dX11_row_232 : decode cX11_row 232 = .ok (.aload_n 0, 1) := by decide +kernel
theorem dX11_row_233 : decode cX11_row 233 = .ok (.getfield 47, 3) := by decide +kernel
theorem dX11_row_236 : decode cX11_row 236 = .ok (.aload_n 0, 1) := by decide +kernel
theorem dX11_row_237 : decode cX11_row 237 = .ok (.dup, 1) := by decide +kernel
theorem dX11_row_238 : decode cX11_row 238 = .ok (.getfield 128, 3) := by decide +kernel
theorem dX11_row_241 : decode cX11_row 241 = .ok (.dup_x1, 1) := by decide +kernel
theorem dX11_row_242 : decode cX11_row 242 = .ok (.iconst 1, 1) := by decide +kernel
theorem dX11_row_243 : decode cX11_row 243 = .ok (.iadd, 1) := by decide +kernel
theorem dX11_row_244 : decode cX11_row 244 = .ok (.putfield 128, 3) := by decide +kernel
theorem dX11_row_247 : decode cX11_row 247 = .ok (.bipush 10, 2) := by decide +kernel
theorem dX11_row_249 : decode cX11_row 249 = .ok (.iastore, 1) := by decide +kernel
theorem dX11_row_250 : decode cX11_row 250 = .ok (.return_, 1) := by decide +kernel
theorem dX11_isWhole_0 : decode cX11_isWhole 0 = .ok (.aload_n 0, 1) := by decide +kernel
theorem dX11_isWhole_1 : decode cX11_isWhole 1 = .ok (.getfield 23, 3) := by decide +kernel
theorem dX11_isWhole_4 : decode cX11_isWhole 4 = .ok (.iload_n 1, 1) := by decide +kernel
theorem dX11_isWhole_5 : decode cX11_isWhole 5 = .ok (.iaload, 1) := by decide +kernel
theorem dX11_isWhole_6 : decode cX11_isWhole 6 = .ok (.bipush 100, 2) := by decide +kernel
theorem dX11_isWhole_8 : decode cX11_isWhole 8 = .ok (.if_icmp .le 16, 3) := by decide +kernel
theorem dX11_isWhole_11 : decode cX11_isWhole 11 = .ok (.iload_n 2, 1) := by decide +kernel
theorem dX11_isWhole_12 : decode cX11_isWhole 12 = .ok (.iconst 3, 1) := by decide +kernel
theorem dX11_isWhole_13 : decode cX11_isWhole 13 = .ok (.if_icmp .ge 15, 3) := by decide +kernel
theorem dX11_isWhole_16 : decode cX11_isWhole 16 = .ok (.aload_n 0, 1) := by decide +kernel
theorem dX11_isWhole_17 : decode cX11_isWhole 17 = .ok (.iload_n 1, 1) := by decide +kernel
theorem dX11_isWhole_18 : decode cX11_isWhole 18 = .ok (.invokevirtual 106, 3) := by decide +kernel
theorem dX11_isWhole_21 : decode cX11_isWhole 21 = .ok (.ifCond .le 7, 3) := by decide +kernel
theorem dX11_isWhole_24 : decode cX11_isWhole 24 = .ok (.iconst 1, 1) := by decide +kernel
theorem dX11_isWhole_25 : decode cX11_isWhole 25 = .ok (.goto 4, 3) := by decide +kernel
theorem dX11_isWhole_28 : decode cX11_isWhole 28 = .ok (.iconst 0, 1) := by decide +kernel
theorem dX11_isWhole_29 : decode cX11_isWhole 29 = .ok (.ireturn, 1) := by decide +kernel
theorem dX11_extended_0 : decode cX11_extended 0 = .ok (.aload_n 0, 1) := by decide +kernel
theorem dX11_extended_1 : decode cX11_extended 1 = .ok (.iload_n 1, 1) := by decide +kernel
theorem dX11_extended_2 : decode cX11_extended 2 = .ok (.iconst 2, 1) := by decide +kernel
theorem dX11_extended_3 : decode cX11_extended 3 = .ok (.invokevirtual 164, 3) := by decide +kernel
theorem dX11_extended_6 : decode cX11_extended 6 = .ok (.ifCond .ne 7, 3) := by decide +kernel
theorem dX11_extended_9 : decode cX11_extended 9 = .ok (.iconst 1, 1) := by decide +kernel
theorem dX11_extended_10 : decode cX11_extended 10 = .ok (.goto 4, 3) := by decide +kernel
theorem dX11_extended_13 : decode cX11_extended 13 = .ok (.iconst 0, 1) := by decide +kernel
theorem dX11_extended_14 : decode cX11_extended 14 = .ok (.istore_n 2, 1) := by decide +kernel
theorem dX11_extended_15 : decode cX11_extended 15 = .ok (.aload_n 0, 1) := by decide +kernel
theorem dX11_extended_16 : decode cX11_extended 16 = .ok (.getfield 29, 3) := by decide +kernel
theorem dX11_extended_19 : decode cX11_extended 19 = .ok (.iload_n 1, 1) := by decide +kernel
theorem dX11_extended_20 : decode cX11_extended 20 = .ok (.iaload, 1) := by decide +kernel
theorem dX11_extended_21 : decode cX11_extended 21 = .ok (.bipush 100, 2) := by decide +kernel
theorem dX11_extended_23 : decode cX11_extended 23 = .ok (.if_icmp .le 7, 3) := by decide +kernel
theorem dX11_extended_26 : decode cX11_extended 26 = .ok (.iconst 1, 1) := by decide +kernel
theorem dX11_extended_27 : decode cX11_extended 27 = .ok (.goto 4, 3) := by decide +kernel
theorem dX11_extended_30 : decode cX11_extended 30 = .ok (.iconst 0, 1) := by decide +kernel
theorem dX11_extended_31 : decode cX11_extended 31 = .ok (.istore_n 3, 1) := by decide +kernel
theorem dX11_extended_32 : decode cX11_extended 32 = .ok (.aload_n 0, 1) := by decide +kernel
theorem dX11_extended_33 : decode cX11_extended 33 = .ok (.getfield 32, 3) := by decide +kernel
theorem dX11_extended_36 : decode cX11_extended 36 = .ok (.iconst 5, 1) := by decide +kernel
theorem dX11_extended_37 : decode cX11_extended 37 = .ok (.iload_n 1, 1) := by decide +kernel
theorem dX11_extended_38 : decode cX11_extended 38 = .ok (.imul, 1) := by decide +kernel
theorem dX11_extended_39 : decode cX11_extended 39 = .ok (.iconst 1, 1) := by decide +kernel
theorem dX11_extended_40 : decode cX11_extended 40 = .ok (.iadd, 1) := by decide +kernel
theorem dX11_extended_41 : decode cX11_extended 41 = .ok (.laload, 1) := by decide +kernel
theorem dX11_extended_42 : decode cX11_extended 42 = .ok (.bipush 8, 2) := by decide +kernel
theorem dX11_extended_44 : decode cX11_extended 44 = .ok (.invokestatic 102, 3) := by decide +kernel
theorem dX11_extended_47 : decode cX11_extended 47 = .ok (.ifCond .ne 7, 3) := by decide +kernel
theorem dX11_extended_50 : decode cX11_extended 50 = .ok (.iconst 1, 1) := by decide +kernel
theorem dX11_extended_51 : decode cX11_extended 51 = .ok (.goto 4, 3) := by decide +kernel
theorem dX11_extended_54 : decode cX11_extended 54 = .ok (.iconst 0, 1) := by decide +kernel
theorem dX11_extended_55 : decode cX11_extended 55 = .ok (.istore 4, 2) := by decide +kernel
theorem dX11_extended_57 : decode cX11_extended 57 = .ok (.aload_n 0, 1) := by decide +kernel
theorem dX11_extended_58 : decode cX11_extended 58 = .ok (.getfield 32, 3) := by decide +kernel
theorem dX11_extended_61 : decode cX11_extended 61 = .ok (.iconst 5, 1) := by decide +kernel
theorem dX11_extended_62 : decode cX11_extended 62 = .ok (.iload_n 1, 1) := by decide +kernel
theorem dX11_extended_63 : decode cX11_extended 63 = .ok (.imul, 1) := by decide +kernel
theorem dX11_extended_64 : decode cX11_extended 64 = .ok (.iconst 2, 1) := by decide +kernel
theorem dX11_extended_65 : decode cX11_extended 65 = .ok (.iadd, 1) := by decide +kernel
theorem dX11_extended_66 : decode cX11_extended 66 = .ok (.laload, 1) := by decide +kernel
theorem dX11_extended_67 : decode cX11_extended 67 = .ok (.bipush 8, 2) := by decide +kernel
theorem dX11_extended_69 : decode cX11_extended 69 = .ok (.invokestatic 102, 3) := by decide +kernel
theorem dX11_extended_72 : decode cX11_extended 72 = .ok (.ifCond .ne 7, 3) := by decide +kernel
theorem dX11_extended_75 : decode cX11_extended 75 = .ok (.iconst 1, 1) := by decide +kernel
theorem dX11_extended_76 : decode cX11_extended 76 = .ok (.goto 4, 3) := by decide +kernel
theorem dX11_extended_79 : decode cX11_extended 79 = .ok (.iconst 0, 1) := by decide +kernel
theorem dX11_extended_80 : decode cX11_extended 80 = .ok (.istore 5, 2) := by decide +kernel
theorem dX11_extended_82 : decode cX11_extended 82 = .ok (.aload_n 0, 1) := by decide +kernel
theorem dX11_extended_83 : decode cX11_extended 83 = .ok (.getfield 32, 3) := by decide +kernel
theorem dX11_extended_86 : decode cX11_extended 86 = .ok (.iconst 5, 1) := by decide +kernel
theorem dX11_extended_87 : decode cX11_extended 87 = .ok (.iload_n 1, 1) := by decide +kernel
theorem dX11_extended_88 : decode cX11_extended 88 = .ok (.imul, 1) := by decide +kernel
theorem dX11_extended_89 : decode cX11_extended 89 = .ok (.iconst 3, 1) := by decide +kernel
theorem dX11_extended_90 : decode cX11_extended 90 = .ok (.iadd, 1) := by decide +kernel
theorem dX11_extended_91 : decode cX11_extended 91 = .ok (.laload, 1) := by decide +kernel
theorem dX11_extended_92 : decode cX11_extended 92 = .ok (.bipush 12, 2) := by decide +kernel
theorem dX11_extended_94 : decode cX11_extended 94 = .ok (.invokestatic 102, 3) := by decide +kernel
theorem dX11_extended_97 : decode cX11_extended 97 = .ok (.ifCond .eq 18, 3) := by decide +kernel
theorem dX11_extended_100 : decode cX11_extended 100 = .ok (.aload_n 0, 1) := by decide +kernel
theorem dX11_extended_101 : decode cX11_extended 101 = .ok (.getfield 32, 3) := by decide +kernel
theorem dX11_extended_104 : decode cX11_extended 104 = .ok (.iconst 5, 1) := by decide +kernel
theorem dX11_extended_105 : decode cX11_extended 105 = .ok (.iload_n 1, 1) := by decide +kernel
theorem dX11_extended_106 : decode cX11_extended 106 = .ok (.imul, 1) := by decide +kernel
theorem dX11_extended_107 : decode cX11_extended 107 = .ok (.iconst 4, 1) := by decide +kernel
theorem dX11_extended_108 : decode cX11_extended 108 = .ok (.iadd, 1) := by decide +kernel
theorem dX11_extended_109 : decode cX11_extended 109 = .ok (.laload, 1) := by decide +kernel
theorem dX11_extended_110 : decode cX11_extended 110 = .ok (.lconst 0, 1) := by decide +kernel
theorem dX11_extended_111 : decode cX11_extended 111 = .ok (.lcmp, 1) := by decide +kernel
theorem dX11_extended_112 : decode cX11_extended 112 = .ok (.ifCond .eq 7, 3) := by decide +kernel
theorem dX11_extended_115 : decode cX11_extended 115 = .ok (.iconst 1, 1) := by decide +kernel
theorem dX11_extended_116 : decode cX11_extended 116 = .ok (.goto 4, 3) := by decide +kernel
theorem dX11_extended_119 : decode cX11_extended 119 = .ok (.iconst 0, 1) := by decide +kernel
theorem dX11_extended_120 : decode cX11_extended 120 = .ok (.istore 6, 2) := by decide +kernel
theorem dX11_extended_122 : decode cX11_extended 122 = .ok (.iload_n 2, 1) := by decide +kernel
theorem dX11_extended_123 : decode cX11_extended 123 = .ok (.ifCond .ne 23, 3) := by decide +kernel
theorem dX11_extended_126 : decode cX11_extended 126 = .ok (.iload_n 3, 1) := by decide +kernel
theorem dX11_extended_127 : decode cX11_extended 127 = .ok (.ifCond .ne 19, 3) := by decide +kernel
theorem dX11_extended_130 : decode cX11_extended 130 = .ok (.iload 4, 2) := by decide +kernel
theorem dX11_extended_132 : decode cX11_extended 132 = .ok (.ifCond .ne 14, 3) := by decide +kernel
theorem dX11_extended_135 : decode cX11_extended 135 = .ok (.iload 5, 2) := by decide +kernel
theorem dX11_extended_137 : decode cX11_extended 137 = .ok (.ifCond .ne 9, 3) := by decide +kernel
theorem dX11_extended_140 : decode cX11_extended 140 = .ok (.iload 6, 2) := by decide +kernel
theorem dX11_extended_142 : decode cX11_extended 142 = .ok (.ifCond .ne 4, 3) := by decide +kernel
theorem dX11_extended_145 : decode cX11_extended 145 = .ok (.return_, 1) := by decide +kernel
theorem dX11_extended_146 : decode cX11_extended 146 = .ok (.aload_n 0, 1) := by decide +kernel
theorem dX11_extended_147 : decode cX11_extended 147 = .ok (.iconst 2, 1) := by decide +kernel
theorem dX11_extended_148 : decode cX11_extended 148 = .ok (.bipush 120, 2) := by decide +kernel
theorem dX11_extended_150 : decode cX11_extended 150 = .ok (.ldc2_w 84, 3) := by decide +kernel
theorem dX11_extended_153 : decode cX11_extended 153 = .ok (.lconst 0, 1) := by decide +kernel
theorem dX11_extended_154 : decode cX11_extended 154 = .ok (.invokevirtual 167, 3) := by decide +kernel
theorem dX11_extended_157 : decode cX11_extended 157 = .ok (.istore 7, 2) := by decide +kernel
theorem dX11_extended_159 : decode cX11_extended 159 = .ok (.iconst 0, 1) := by decide +kernel
theorem dX11_extended_160 : decode cX11_extended 160 = .ok (.istore 8, 2) := by decide +kernel
theorem dX11_extended_162 : decode cX11_extended 162 = .ok (.iload 8, 2) := by decide +kernel
theorem dX11_extended_164 : decode cX11_extended 164 = .ok (.bipush 8, 2) := by decide +kernel
theorem dX11_extended_166 : decode cX11_extended 166 = .ok (.if_icmp .ge 36, 3) := by decide +kernel
theorem dX11_extended_169 : decode cX11_extended 169 = .ok (.aload_n 0, 1) := by decide +kernel
theorem dX11_extended_170 : decode cX11_extended 170 = .ok (.getfield 47, 3) := by decide +kernel
theorem dX11_extended_173 : decode cX11_extended 173 = .ok (.iload 7, 2) := by decide +kernel
theorem dX11_extended_175 : decode cX11_extended 175 = .ok (.iload 8, 2) := by decide +kernel
theorem dX11_extended_177 : decode cX11_extended 177 = .ok (.iadd, 1) := by decide +kernel
theorem dX11_extended_178 : decode cX11_extended 178 = .ok (.ldc2_w 171, 3) := by decide +kernel
theorem dX11_extended_181 : decode cX11_extended 181 = .ok (.bipush 56, 2) := by decide +kernel
theorem dX11_extended_183 : decode cX11_extended 183 = .ok (.bipush 8, 2) := by decide +kernel
theorem dX11_extended_185 : decode cX11_extended 185 = .ok (.iload 8, 2) := by decide +kernel
theorem dX11_extended_187 : decode cX11_extended 187 = .ok (.imul, 1) := by decide +kernel
theorem dX11_extended_188 : decode cX11_extended 188 = .ok (.isub, 1) := by decide +kernel
theorem dX11_extended_189 : decode cX11_extended 189 = .ok (.lushr, 1) := by decide +kernel
theorem dX11_extended_190 : decode cX11_extended 190 = .ok (.ldc2_w 119, 3) := by decide +kernel
theorem dX11_extended_193 : decode cX11_extended 193 = .ok (.land, 1) := by decide +kernel
theorem dX11_extended_194 : decode cX11_extended 194 = .ok (.l2i, 1) := by decide +kernel
theorem dX11_extended_195 : decode cX11_extended 195 = .ok (.iastore, 1) := by decide +kernel
theorem dX11_extended_196 : decode cX11_extended 196 = .ok (.iinc 8 1, 3) := by decide +kernel
theorem dX11_extended_199 : decode cX11_extended 199 = .ok (.goto (-37), 3) := by decide +kernel
theorem dX11_extended_202 : decode cX11_extended 202 = .ok (.aload_n 0, 1) := by decide +kernel
theorem dX11_extended_203 : decode cX11_extended 203 = .ok (.getfield 47, 3) := by decide +kernel
theorem dX11_extended_206 : decode cX11_extended 206 = .ok (.iload 7, 2) := by decide +kernel
theorem dX11_extended_208 : decode cX11_extended 208 = .ok (.bipush 8, 2) := by decide +kernel
theorem dX11_extended_210 : decode cX11_extended 210 = .ok (.iadd, 1) := by decide +kernel
theorem dX11_extended_211 : decode cX11_extended 211 = .ok (.bipush 114, 2) := by decide +kernel
theorem dX11_extended_213 : decode cX11_extended 213 = .ok (.iastore, 1) := by decide +kernel
theorem dX11_extended_214 : decode cX11_extended 214 = .ok (.aload_n 0, 1) := by decide +kernel
theorem dX11_extended_215 : decode cX11_extended 215 = .ok (.getfield 128, 3) := by decide +kernel
theorem dX11_extended_218 : decode cX11_extended 218 = .ok (.istore 8, 2) := by decide +kernel
theorem dX11_extended_220 : decode cX11_extended 220 = .ok (.iload_n 2, 1) := by decide +kernel
theorem dX11_extended_221 : decode cX11_extended 221 = .ok (.ifCond .eq 47, 3) := by decide +kernel
theorem dX11_extended_224 : decode cX11_extended 224 = .ok (.iconst 0, 1) := by decide +kernel
theorem dX11_extended_225 : decode cX11_extended 225 = .ok (.istore 9, 2) := by decide +kernel
theorem dX11_extended_227 : decode cX11_extended 227 = .ok (.iload 9, 2) := by decide +kernel
theorem dX11_extended_229 : decode cX11_extended 229 = .ok (.aload_n 0, 1) := by decide +kernel
theorem dX11_extended_230 : decode cX11_extended 230 = .ok (.getfield 23, 3) := by decide +kernel
theorem dX11_extended_233 : decode cX11_extended 233 = .ok (.iload_n 1, 1) := by decide +kernel
theorem dX11_extended_234 : decode cX11_extended 234 = .ok (.iaload, 1) := by decide +kernel
theorem dX11_extended_235 : decode cX11_extended 235 = .ok (.if_icmp .ge 26, 3) := by decide +kernel
theorem dX11_extended_238 : decode cX11_extended 238 = .ok (.aload_n 0, 1) := by decide +kernel
theorem dX11_extended_239 : decode cX11_extended 239 = .ok (.aload_n 0, 1) := by decide +kernel
theorem dX11_extended_240 : decode cX11_extended 240 = .ok (.getfield 20, 3) := by decide +kernel
theorem dX11_extended_243 : decode cX11_extended 243 = .ok (.sipush 400, 3) := by decide +kernel
theorem dX11_extended_246 : decode cX11_extended 246 = .ok (.iload_n 1, 1) := by decide +kernel
theorem dX11_extended_247 : decode cX11_extended 247 = .ok (.imul, 1) := by decide +kernel
theorem dX11_extended_248 : decode cX11_extended 248 = .ok (.iload 9, 2) := by decide +kernel
theorem dX11_extended_250 : decode cX11_extended 250 = .ok (.iadd, 1) := by decide +kernel
theorem dX11_extended_251 : decode cX11_extended 251 = .ok (.iaload, 1) := by decide +kernel
theorem dX11_extended_252 : decode cX11_extended 252 = .ok (.invokevirtual 146, 3) := by decide +kernel
theorem dX11_extended_255 : decode cX11_extended 255 = .ok (.iinc 9 1, 3) := by decide +kernel
theorem dX11_extended_258 : decode cX11_extended 258 = .ok (.goto (-31), 3) := by decide +kernel
theorem dX11_extended_261 : decode cX11_extended 261 = .ok (.aload_n 0, 1) := by decide +kernel
theorem dX11_extended_262 : decode cX11_extended 262 = .ok (.ldc2_w 173, 3) := by decide +kernel
theorem dX11_extended_265 : decode cX11_extended 265 = .ok (.invokevirtual 175, 3) := by decide +kernel
theorem dX11_extended_268 : decode cX11_extended 268 = .ok (.iload_n 3, 1) := by decide +kernel
theorem dX11_extended_269 : decode cX11_extended 269 = .ok (.ifCond .eq 47, 3) := by decide +kernel
theorem dX11_extended_272 : decode cX11_extended 272 = .ok (.iconst 0, 1) := by decide +kernel
theorem dX11_extended_273 : decode cX11_extended 273 = .ok (.istore 9, 2) := by decide +kernel
theorem dX11_extended_275 : decode cX11_extended 275 = .ok (.iload 9, 2) := by decide +kernel
theorem dX11_extended_277 : decode cX11_extended 277 = .ok (.aload_n 0, 1) := by decide +kernel
theorem dX11_extended_278 : decode cX11_extended 278 = .ok (.getfield 29, 3) := by decide +kernel
theorem dX11_extended_281 : decode cX11_extended 281 = .ok (.iload_n 1, 1) := by decide +kernel
theorem dX11_extended_282 : decode cX11_extended 282 = .ok (.iaload, 1) := by decide +kernel
theorem dX11_extended_283 : decode cX11_extended 283 = .ok (.if_icmp .ge 26, 3) := by decide +kernel
theorem dX11_extended_286 : decode cX11_extended 286 = .ok (.aload_n 0, 1) := by decide +kernel
theorem dX11_extended_287 : decode cX11_extended 287 = .ok (.aload_n 0, 1) := by decide +kernel
theorem dX11_extended_288 : decode cX11_extended 288 = .ok (.getfield 26, 3) := by decide +kernel
theorem dX11_extended_291 : decode cX11_extended 291 = .ok (.sipush 400, 3) := by decide +kernel
theorem dX11_extended_294 : decode cX11_extended 294 = .ok (.iload_n 1, 1) := by decide +kernel
theorem dX11_extended_295 : decode cX11_extended 295 = .ok (.imul, 1) := by decide +kernel
theorem dX11_extended_296 : decode cX11_extended 296 = .ok (.iload 9, 2) := by decide +kernel
theorem dX11_extended_298 : decode cX11_extended 298 = .ok (.iadd, 1) := by decide +kernel
theorem dX11_extended_299 : decode cX11_extended 299 = .ok (.iaload, 1) := by decide +kernel
theorem dX11_extended_300 : decode cX11_extended 300 = .ok (.invokevirtual 146, 3) := by decide +kernel
theorem dX11_extended_303 : decode cX11_extended 303 = .ok (.iinc 9 1, 3) := by decide +kernel
theorem dX11_extended_306 : decode cX11_extended 306 = .ok (.goto (-31), 3) := by decide +kernel
theorem dX11_extended_309 : decode cX11_extended 309 = .ok (.aload_n 0, 1) := by decide +kernel
theorem dX11_extended_310 : decode cX11_extended 310 = .ok (.ldc2_w 178, 3) := by decide +kernel
theorem dX11_extended_313 : decode cX11_extended 313 = .ok (.invokevirtual 175, 3) := by decide +kernel
theorem dX11_extended_316 : decode cX11_extended 316 = .ok (.iload 4, 2) := by decide +kernel
theorem dX11_extended_318 : decode cX11_extended 318 = .ok (.ifCond .eq 24, 3) := by decide +kernel
theorem dX11_extended_321 : decode cX11_extended 321 = .ok (.aload_n 0, 1) := by decide +kernel
theorem dX11_extended_322 : decode cX11_extended 322 = .ok (.aload_n 0, 1) := by decide +kernel
theorem dX11_extended_323 : decode cX11_extended 323 = .ok (.getfield 32, 3) := by decide +kernel
theorem dX11_extended_326 : decode cX11_extended 326 = .ok (.iconst 5, 1) := by decide +kernel
theorem dX11_extended_327 : decode cX11_extended 327 = .ok (.iload_n 1, 1) := by decide +kernel
theorem dX11_extended_328 : decode cX11_extended 328 = .ok (.imul, 1) := by decide +kernel
theorem dX11_extended_329 : decode cX11_extended 329 = .ok (.iconst 1, 1) := by decide +kernel
theorem dX11_extended_330 : decode cX11_extended 330 = .ok (.iadd, 1) := by decide +kernel
theorem dX11_extended_331 : decode cX11_extended 331 = .ok (.laload, 1) := by decide +kernel
theorem dX11_extended_332 : decode cX11_extended 332 = .ok (.invokevirtual 152, 3) := by decide +kernel
theorem dX11_extended_335 : decode cX11_extended 335 = .ok (.aload_n 0, 1) := by decide +kernel
theorem dX11_extended_336 : decode cX11_extended 336 = .ok (.ldc2_w 180, 3) := by decide +kernel
theorem dX11_extended_339 : decode cX11_extended 339 = .ok (.invokevirtual 175, 3) := by decide +kernel
theorem dX11_extended_342 : decode cX11_extended 342 = .ok (.iload 5, 2) := by decide +kernel
theorem dX11_extended_344 : decode cX11_extended 344 = .ok (.ifCond .eq 24, 3) := by decide +kernel
theorem dX11_extended_347 : decode cX11_extended 347 = .ok (.aload_n 0, 1) := by decide +kernel
theorem dX11_extended_348 : decode cX11_extended 348 = .ok (.aload_n 0, 1) := by decide +kernel
theorem dX11_extended_349 : decode cX11_extended 349 = .ok (.getfield 32, 3) := by decide +kernel
theorem dX11_extended_352 : decode cX11_extended 352 = .ok (.iconst 5, 1) := by decide +kernel
theorem dX11_extended_353 : decode cX11_extended 353 = .ok (.iload_n 1, 1) := by decide +kernel
theorem dX11_extended_354 : decode cX11_extended 354 = .ok (.imul, 1) := by decide +kernel
theorem dX11_extended_355 : decode cX11_extended 355 = .ok (.iconst 2, 1) := by decide +kernel
theorem dX11_extended_356 : decode cX11_extended 356 = .ok (.iadd, 1) := by decide +kernel
theorem dX11_extended_357 : decode cX11_extended 357 = .ok (.laload, 1) := by decide +kernel
theorem dX11_extended_358 : decode cX11_extended 358 = .ok (.invokevirtual 152, 3) := by decide +kernel
theorem dX11_extended_361 : decode cX11_extended 361 = .ok (.aload_n 0, 1) := by decide +kernel
theorem dX11_extended_362 : decode cX11_extended 362 = .ok (.ldc2_w 182, 3) := by decide +kernel
theorem dX11_extended_365 : decode cX11_extended 365 = .ok (.invokevirtual 175, 3) := by decide +kernel
theorem dX11_extended_368 : decode cX11_extended 368 = .ok (.iload 6, 2) := by decide +kernel
theorem dX11_extended_370 : decode cX11_extended 370 = .ok (.ifCond .eq 34, 3) := by decide +kernel
theorem dX11_extended_373 : decode cX11_extended 373 = .ok (.aload_n 0, 1) := by decide +kernel
theorem dX11_extended_374 : decode cX11_extended 374 = .ok (.aload_n 0, 1) := by decide +kernel
theorem dX11_extended_375 : decode cX11_extended 375 = .ok (.getfield 32, 3) := by decide +kernel
theorem dX11_extended_378 : decode cX11_extended 378 = .ok (.iconst 5, 1) := by decide +kernel
theorem dX11_extended_379 : decode cX11_extended 379 = .ok (.iload_n 1, 1) := by decide +kernel
theorem dX11_extended_380 : decode cX11_extended 380 = .ok (.imul, 1) := by decide +kernel
theorem dX11_extended_381 : decode cX11_extended 381 = .ok (.iconst 3, 1) := by decide +kernel
theorem dX11_extended_382 : decode cX11_extended 382 = .ok (.iadd, 1) := by decide +kernel
theorem dX11_extended_383 : decode cX11_extended 383 = .ok (.laload, 1) := by decide +kernel
theorem dX11_extended_384 : decode cX11_extended 384 = .ok (.aload_n 0, 1) := by decide +kernel
theorem dX11_extended_385 : decode cX11_extended 385 = .ok (.getfield 32, 3) := by decide +kernel
theorem dX11_extended_388 : decode cX11_extended 388 = .ok (.iconst 5, 1) := by decide +kernel
theorem dX11_extended_389 : decode cX11_extended 389 = .ok (.iload_n 1, 1) := by decide +kernel
theorem dX11_extended_390 : decode cX11_extended 390 = .ok (.imul, 1) := by decide +kernel
theorem dX11_extended_391 : decode cX11_extended 391 = .ok (.iconst 4, 1) := by decide +kernel
theorem dX11_extended_392 : decode cX11_extended 392 = .ok (.iadd, 1) := by decide +kernel
theorem dX11_extended_393 : decode cX11_extended 393 = .ok (.laload, 1) := by decide +kernel
theorem dX11_extended_394 : decode cX11_extended 394 = .ok (.invokevirtual 184, 3) := by decide +kernel
theorem dX11_extended_397 : decode cX11_extended 397 = .ok (.aload_n 0, 1) := by decide +kernel
theorem dX11_extended_398 : decode cX11_extended 398 = .ok (.ldc2_w 188, 3) := by decide +kernel
theorem dX11_extended_401 : decode cX11_extended 401 = .ok (.invokevirtual 175, 3) := by decide +kernel
theorem dX11_extended_404 : decode cX11_extended 404 = .ok (.aload_n 0, 1) := by decide +kernel
theorem dX11_extended_405 : decode cX11_extended 405 = .ok (.iload 7, 2) := by decide +kernel
theorem dX11_extended_407 : decode cX11_extended 407 = .ok (.bipush 124, 2) := by decide +kernel
theorem dX11_extended_409 : decode cX11_extended 409 = .ok (.iadd, 1) := by decide +kernel
theorem dX11_extended_410 : decode cX11_extended 410 = .ok (.bipush 12, 2) := by decide +kernel
theorem dX11_extended_412 : decode cX11_extended 412 = .ok (.aload_n 0, 1) := by decide +kernel
theorem dX11_extended_413 : decode cX11_extended 413 = .ok (.getfield 128, 3) := by decide +kernel
theorem dX11_extended_416 : decode cX11_extended 416 = .ok (.iload 8, 2) := by decide +kernel
theorem dX11_extended_418 : decode cX11_extended 418 = .ok (.isub, 1) := by decide +kernel
theorem dX11_extended_419 : decode cX11_extended 419 = .ok (.i2l, 1) := by decide +kernel
theorem dX11_extended_420 : decode cX11_extended 420 = .ok (.invokevirtual 121, 3) := by decide +kernel
theorem dX11_extended_423 : decode cX11_extended 423 = .ok (.aload_n 0, 1) := by decide +kernel
theorem dX11_extended_424 : decode cX11_extended 424 = .ok (.invokevirtual 190, 3) := by decide +kernel
theorem dX11_extended_427 : decode cX11_extended 427 = .ok (.aload_n 0, 1) := by decide +kernel
theorem dX11_extended_428 : decode cX11_extended 428 = .ok (.iload 7, 2) := by decide +kernel
theorem dX11_extended_430 : decode cX11_extended 430 = .ok (.invokevirtual 193, 3) := by decide +kernel
theorem dX11_extended_433 : decode cX11_extended 433 = .ok (.return_, 1) := by decide +kernel
theorem dX11_long__0 : decode cX11_long_ 0 = .ok (.aload_n 0, 1) := by decide +kernel
theorem dX11_long__1 : decode cX11_long_ 1 = .ok (.iconst 3, 1) := by decide +kernel
theorem dX11_long__2 : decode cX11_long_ 2 = .ok (.iload_n 1, 1) := by decide +kernel
theorem dX11_long__3 : decode cX11_long_ 3 = .ok (.ldc2_w 84, 3) := by decide +kernel
theorem dX11_long__6 : decode cX11_long_ 6 = .ok (.iload 4, 2) := by decide +kernel
theorem dX11_long__8 : decode cX11_long_ 8 = .ok (.iconst 1, 1) := by decide +kernel
theorem dX11_long__9 : decode cX11_long_ 9 = .ok (.iadd, 1) := by decide +kernel
theorem dX11_long__10 : decode cX11_long_ 10 = .ok (.i2l, 1) := by decide +kernel
theorem dX11_long__11 : decode cX11_long_ 11 = .ok (.invokevirtual 167, 3) := by decide +kernel
theorem dX11_long__14 : decode cX11_long_ 14 = .ok (.istore 5, 2) := by decide +kernel
theorem dX11_long__16 : decode cX11_long_ 16 = .ok (.iconst 0, 1) := by decide +kernel
theorem dX11_long__17 : decode cX11_long_ 17 = .ok (.istore 6, 2) := by decide +kernel
theorem dX11_long__19 : decode cX11_long_ 19 = .ok (.iload 6, 2) := by decide +kernel
theorem dX11_long__21 : decode cX11_long_ 21 = .ok (.bipush 8, 2) := by decide +kernel
theorem dX11_long__23 : decode cX11_long_ 23 = .ok (.if_icmp .ge 36, 3) := by decide +kernel
theorem dX11_long__26 : decode cX11_long_ 26 = .ok (.aload_n 0, 1) := by decide +kernel
theorem dX11_long__27 : decode cX11_long_ 27 = .ok (.getfield 47, 3) := by decide +kernel
theorem dX11_long__30 : decode cX11_long_ 30 = .ok (.iload 5, 2) := by decide +kernel
theorem dX11_long__32 : decode cX11_long_ 32 = .ok (.iload 6, 2) := by decide +kernel
theorem dX11_long__34 : decode cX11_long_ 34 = .ok (.iadd, 1) := by decide +kernel
theorem dX11_long__35 : decode cX11_long_ 35 = .ok (.ldc2_w 196, 3) := by decide +kernel
theorem dX11_long__38 : decode cX11_long_ 38 = .ok (.bipush 56, 2) := by decide +kernel
theorem dX11_long__40 : decode cX11_long_ 40 = .ok (.bipush 8, 2) := by decide +kernel
theorem dX11_long__42 : decode cX11_long_ 42 = .ok (.iload 6, 2) := by decide +kernel
theorem dX11_long__44 : decode cX11_long_ 44 = .ok (.imul, 1) := by decide +kernel
theorem dX11_long__45 : decode cX11_long_ 45 = .ok (.isub, 1) := by decide +kernel
theorem dX11_long__46 : decode cX11_long_ 46 = .ok (.lushr, 1) := by decide +kernel
theorem dX11_long__47 : decode cX11_long_ 47 = .ok (.ldc2_w 119, 3) := by decide +kernel
theorem dX11_long__50 : decode cX11_long_ 50 = .ok (.land, 1) := by decide +kernel
theorem dX11_long__51 : decode cX11_long_ 51 = .ok (.l2i, 1) := by decide +kernel
theorem dX11_long__52 : decode cX11_long_ 52 = .ok (.iastore, 1) := by decide +kernel
theorem dX11_long__53 : decode cX11_long_ 53 = .ok (.iinc 6 1, 3) := by decide +kernel
theorem dX11_long__56 : decode cX11_long_ 56 = .ok (.goto (-37), 3) := by decide +kernel
theorem dX11_long__59 : decode cX11_long_ 59 = .ok (.iconst 0, 1) := by decide +kernel
theorem dX11_long__60 : decode cX11_long_ 60 = .ok (.istore 6, 2) := by decide +kernel
theorem dX11_long__62 : decode cX11_long_ 62 = .ok (.iload 6, 2) := by decide +kernel
theorem dX11_long__64 : decode cX11_long_ 64 = .ok (.iconst 5, 1) := by decide +kernel
theorem dX11_long__65 : decode cX11_long_ 65 = .ok (.if_icmp .ge 39, 3) := by decide +kernel
theorem dX11_long__68 : decode cX11_long_ 68 = .ok (.aload_n 0, 1) := by decide +kernel
theorem dX11_long__69 : decode cX11_long_ 69 = .ok (.getfield 47, 3) := by decide +kernel
theorem dX11_long__72 : decode cX11_long_ 72 = .ok (.iload 5, 2) := by decide +kernel
theorem dX11_long__74 : decode cX11_long_ 74 = .ok (.bipush 8, 2) := by decide +kernel
theorem dX11_long__76 : decode cX11_long_ 76 = .ok (.iadd, 1) := by decide +kernel
theorem dX11_long__77 : decode cX11_long_ 77 = .ok (.iload 6, 2) := by decide +kernel
theorem dX11_long__79 : decode cX11_long_ 79 = .ok (.iadd, 1) := by decide +kernel
theorem dX11_long__80 : decode cX11_long_ 80 = .ok (.ldc2_w 198, 3) := by decide +kernel
theorem dX11_long__83 : decode cX11_long_ 83 = .ok (.bipush 32, 2) := by decide +kernel
theorem dX11_long__85 : decode cX11_long_ 85 = .ok (.bipush 8, 2) := by decide +kernel
theorem dX11_long__87 : decode cX11_long_ 87 = .ok (.iload 6, 2) := by decide +kernel
theorem dX11_long__89 : decode cX11_long_ 89 = .ok (.imul, 1) := by decide +kernel
theorem dX11_long__90 : decode cX11_long_ 90 = .ok (.isub, 1) := by decide +kernel
theorem dX11_long__91 : decode cX11_long_ 91 = .ok (.lushr, 1) := by decide +kernel
theorem dX11_long__92 : decode cX11_long_ 92 = .ok (.ldc2_w 119, 3) := by decide +kernel
theorem dX11_long__95 : decode cX11_long_ 95 = .ok (.land, 1) := by decide +kernel
theorem dX11_long__96 : decode cX11_long_ 96 = .ok (.l2i, 1) := by decide +kernel
theorem dX11_long__97 : decode cX11_long_ 97 = .ok (.iastore, 1) := by decide +kernel
theorem dX11_long__98 : decode cX11_long_ 98 = .ok (.iinc 6 1, 3) := by decide +kernel
theorem dX11_long__101 : decode cX11_long_ 101 = .ok (.goto (-39), 3) := by decide +kernel
theorem dX11_long__104 : decode cX11_long_ 104 = .ok (.iconst 0, 1) := by decide +kernel
theorem dX11_long__105 : decode cX11_long_ 105 = .ok (.istore 6, 2) := by decide +kernel
theorem dX11_long__107 : decode cX11_long_ 107 = .ok (.iload 6, 2) := by decide +kernel
theorem dX11_long__109 : decode cX11_long_ 109 = .ok (.iload 4, 2) := by decide +kernel
theorem dX11_long__111 : decode cX11_long_ 111 = .ok (.if_icmp .ge 31, 3) := by decide +kernel
theorem dX11_long__114 : decode cX11_long_ 114 = .ok (.aload_n 0, 1) := by decide +kernel
theorem dX11_long__115 : decode cX11_long_ 115 = .ok (.getfield 47, 3) := by decide +kernel
theorem dX11_long__118 : decode cX11_long_ 118 = .ok (.aload_n 0, 1) := by decide +kernel
theorem dX11_long__119 : decode cX11_long_ 119 = .ok (.dup, 1) := by decide +kernel
theorem dX11_long__120 : decode cX11_long_ 120 = .ok (.getfield 128, 3) := by decide +kernel
theorem dX11_long__123 : decode cX11_long_ 123 = .ok (.dup_x1, 1) := by decide +kernel
theorem dX11_long__124 : decode cX11_long_ 124 = .ok (.iconst 1, 1) := by decide +kernel
theorem dX11_long__125 : decode cX11_long_ 125 = .ok (.iadd, 1) := by decide +kernel
theorem dX11_long__126 : decode cX11_long_ 126 = .ok (.putfield 128, 3) := by decide +kernel
theorem dX11_long__129 : decode cX11_long_ 129 = .ok (.aload_n 2, 1) := by decide +kernel
theorem dX11_long__130 : decode cX11_long_ 130 = .ok (.iload_n 3, 1) := by decide +kernel
theorem dX11_long__131 : decode cX11_long_ 131 = .ok (.iload 6, 2) := by decide +kernel
theorem dX11_long__133 : decode cX11_long_ 133 = .ok (.iadd, 1) := by decide +kernel
theorem dX11_long__134 : decode cX11_long_ 134 = .ok (.iaload, 1) := by decide +kernel
theorem dX11_long__135 : decode cX11_long_ 135 = .ok (.iastore, 1) := by decide +kernel
theorem dX11_long__136 : decode cX11_long_ 136 = .ok (.iinc 6 1, 3) := by decide +kernel
theorem dX11_long__139 : decode cX11_long_ 139 = .ok (.goto (-32), 3) := by decide +kernel
theorem dX11_long__142 : decode cX11_long_ 142 = .ok (.aload_n 0, 1) := by decide +kernel
theorem dX11_long__143 : decode cX11_long_ 143 = .ok (.getfield 47, 3) := by decide +kernel
theorem dX11_long__146 : decode cX11_long_ 146 = .ok (.aload_n 0, 1) := by decide +kernel
theorem dX11_long__147 : decode cX11_long_ 147 = .ok (.dup, 1) := by decide +kernel
theorem dX11_long__148 : decode cX11_long_ 148 = .ok (.getfield 128, 3) := by decide +kernel
theorem dX11_long__151 : decode cX11_long_ 151 = .ok (.dup_x1, 1) := by decide +kernel
theorem dX11_long__152 : decode cX11_long_ 152 = .ok (.iconst 1, 1) := by decide +kernel
theorem dX11_long__153 : decode cX11_long_ 153 = .ok (.iadd, 1) := by decide +kernel
theorem dX11_long__154 : decode cX11_long_ 154 = .ok (.putfield 128, 3) := by decide +kernel
theorem dX11_long__157 : decode cX11_long_ 157 = .ok (.iconst 0, 1) := by decide +kernel
theorem dX11_long__158 : decode cX11_long_ 158 = .ok (.iastore, 1) := by decide +kernel
theorem dX11_long__159 : decode cX11_long_ 159 = .ok (.aload_n 0, 1) := by decide +kernel
theorem dX11_long__160 : decode cX11_long_ 160 = .ok (.invokevirtual 190, 3) := by decide +kernel
theorem dX11_long__163 : decode cX11_long_ 163 = .ok (.aload_n 0, 1) := by decide +kernel
theorem dX11_long__164 : decode cX11_long_ 164 = .ok (.iload 5, 2) := by decide +kernel
theorem dX11_long__166 : decode cX11_long_ 166 = .ok (.invokevirtual 193, 3) := by decide +kernel
theorem dX11_long__169 : decode cX11_long_ 169 = .ok (.return_, 1) := by decide +kernel
theorem dX11_put_0 : decode cX11_put 0 = .ok (.iload_n 2, 1) := by decide +kernel
theorem dX11_put_1 : decode cX11_put 1 = .ok (.iconst 2, 1) := by decide +kernel
theorem dX11_put_2 : decode cX11_put 2 = .ok (.if_icmp .ne 8, 3) := by decide +kernel
theorem dX11_put_5 : decode cX11_put 5 = .ok (.aload_n 0, 1) := by decide +kernel
theorem dX11_put_6 : decode cX11_put 6 = .ok (.iload_n 1, 1) := by decide +kernel
theorem dX11_put_7 : decode cX11_put 7 = .ok (.invokevirtual 200, 3) := by decide +kernel
theorem dX11_put_10 : decode cX11_put 10 = .ok (.iload_n 2, 1) := by decide +kernel
theorem dX11_put_11 : decode cX11_put 11 = .ok (.iconst 3, 1) := by decide +kernel
theorem dX11_put_12 : decode cX11_put 12 = .ok (.if_icmp .ne 35, 3) := by decide +kernel
theorem dX11_put_15 : decode cX11_put 15 = .ok (.aload_n 0, 1) := by decide +kernel
theorem dX11_put_16 : decode cX11_put 16 = .ok (.getfield 29, 3) := by decide +kernel
theorem dX11_put_19 : decode cX11_put 19 = .ok (.iload_n 1, 1) := by decide +kernel
theorem dX11_put_20 : decode cX11_put 20 = .ok (.iaload, 1) := by decide +kernel
theorem dX11_put_21 : decode cX11_put 21 = .ok (.bipush 100, 2) := by decide +kernel
theorem dX11_put_23 : decode cX11_put 23 = .ok (.if_icmp .le 24, 3) := by decide +kernel
theorem dX11_put_26 : decode cX11_put 26 = .ok (.aload_n 0, 1) := by decide +kernel
theorem dX11_put_27 : decode cX11_put 27 = .ok (.bipush 75, 2) := by decide +kernel
theorem dX11_put_29 : decode cX11_put 29 = .ok (.aload_n 0, 1) := by decide +kernel
theorem dX11_put_30 : decode cX11_put 30 = .ok (.getfield 26, 3) := by decide +kernel
theorem dX11_put_33 : decode cX11_put 33 = .ok (.sipush 400, 3) := by decide +kernel
theorem dX11_put_36 : decode cX11_put 36 = .ok (.iload_n 1, 1) := by decide +kernel
theorem dX11_put_37 : decode cX11_put 37 = .ok (.imul, 1) := by decide +kernel
theorem dX11_put_38 : decode cX11_put 38 = .ok (.aload_n 0, 1) := by decide +kernel
theorem dX11_put_39 : decode cX11_put 39 = .ok (.getfield 29, 3) := by decide +kernel
theorem dX11_put_42 : decode cX11_put 42 = .ok (.iload_n 1, 1) := by decide +kernel
theorem dX11_put_43 : decode cX11_put 43 = .ok (.iaload, 1) := by decide +kernel
theorem dX11_put_44 : decode cX11_put 44 = .ok (.invokevirtual 203, 3) := by decide +kernel
theorem dX11_put_47 : decode cX11_put 47 = .ok (.iload_n 2, 1) := by decide +kernel
theorem dX11_put_48 : decode cX11_put 48 = .ok (.iconst 3, 1) := by decide +kernel
theorem dX11_put_49 : decode cX11_put 49 = .ok (.if_icmp .ne 35, 3) := by decide +kernel
theorem dX11_put_52 : decode cX11_put 52 = .ok (.aload_n 0, 1) := by decide +kernel
theorem dX11_put_53 : decode cX11_put 53 = .ok (.getfield 23, 3) := by decide +kernel
theorem dX11_put_56 : decode cX11_put 56 = .ok (.iload_n 1, 1) := by decide +kernel
theorem dX11_put_57 : decode cX11_put 57 = .ok (.iaload, 1) := by decide +kernel
theorem dX11_put_58 : decode cX11_put 58 = .ok (.bipush 100, 2) := by decide +kernel
theorem dX11_put_60 : decode cX11_put 60 = .ok (.if_icmp .le 24, 3) := by decide +kernel
theorem dX11_put_63 : decode cX11_put 63 = .ok (.aload_n 0, 1) := by decide +kernel
theorem dX11_put_64 : decode cX11_put 64 = .ok (.bipush 76, 2) := by decide +kernel
theorem dX11_put_66 : decode cX11_put 66 = .ok (.aload_n 0, 1) := by decide +kernel
theorem dX11_put_67 : decode cX11_put 67 = .ok (.getfield 20, 3) := by decide +kernel
theorem dX11_put_70 : decode cX11_put 70 = .ok (.sipush 400, 3) := by decide +kernel
theorem dX11_put_73 : decode cX11_put 73 = .ok (.iload_n 1, 1) := by decide +kernel
theorem dX11_put_74 : decode cX11_put 74 = .ok (.imul, 1) := by decide +kernel
theorem dX11_put_75 : decode cX11_put 75 = .ok (.aload_n 0, 1) := by decide +kernel
theorem dX11_put_76 : decode cX11_put 76 = .ok (.getfield 23, 3) := by decide +kernel
theorem dX11_put_79 : decode cX11_put 79 = .ok (.iload_n 1, 1) := by decide +kernel
theorem dX11_put_80 : decode cX11_put 80 = .ok (.iaload, 1) := by decide +kernel
theorem dX11_put_81 : decode cX11_put 81 = .ok (.invokevirtual 203, 3) := by decide +kernel
theorem dX11_put_84 : decode cX11_put 84 = .ok (.aload_n 0, 1) := by decide +kernel
theorem dX11_put_85 : decode cX11_put 85 = .ok (.iload_n 2, 1) := by decide +kernel
theorem dX11_put_86 : decode cX11_put 86 = .ok (.aload_n 0, 1) := by decide +kernel
theorem dX11_put_87 : decode cX11_put 87 = .ok (.getfield 17, 3) := by decide +kernel
theorem dX11_put_90 : decode cX11_put 90 = .ok (.iload_n 1, 1) := by decide +kernel
theorem dX11_put_91 : decode cX11_put 91 = .ok (.iaload, 1) := by decide +kernel
theorem dX11_put_92 : decode cX11_put 92 = .ok (.aload_n 0, 1) := by decide +kernel
theorem dX11_put_93 : decode cX11_put 93 = .ok (.getfield 32, 3) := by decide +kernel
theorem dX11_put_96 : decode cX11_put 96 = .ok (.iconst 5, 1) := by decide +kernel
theorem dX11_put_97 : decode cX11_put 97 = .ok (.iload_n 1, 1) := by decide +kernel
theorem dX11_put_98 : decode cX11_put 98 = .ok (.imul, 1) := by decide +kernel
theorem dX11_put_99 : decode cX11_put 99 = .ok (.laload, 1) := by decide +kernel
theorem dX11_put_100 : decode cX11_put 100 = .ok (.aload_n 0, 1) := by decide +kernel
theorem dX11_put_101 : decode cX11_put 101 = .ok (.getfield 36, 3) := by decide +kernel
theorem dX11_put_104 : decode cX11_put 104 = .ok (.iload_n 1, 1) := by decide +kernel
theorem dX11_put_105 : decode cX11_put 105 = .ok (.iaload, 1) := by decide +kernel
theorem dX11_put_106 : decode cX11_put 106 = .ok (.i2l, 1) := by decide +kernel
theorem dX11_put_107 : decode cX11_put 107 = .ok (.invokevirtual 167, 3) := by decide +kernel
theorem dX11_put_110 : decode cX11_put 110 = .ok (.istore_n 3, 1) := by decide +kernel
theorem dX11_put_111 : decode cX11_put 111 = .ok (.aload_n 0, 1) := by decide +kernel
theorem dX11_put_112 : decode cX11_put 112 = .ok (.iload_n 3, 1) := by decide +kernel
theorem dX11_put_113 : decode cX11_put 113 = .ok (.bipush 108, 2) := by decide +kernel
theorem dX11_put_115 : decode cX11_put 115 = .ok (.iadd, 1) := by decide +kernel
theorem dX11_put_116 : decode cX11_put 116 = .ok (.bipush 8, 2) := by decide +kernel
theorem dX11_put_118 : decode cX11_put 118 = .ok (.aload_n 0, 1) := by decide +kernel
theorem dX11_put_119 : decode cX11_put 119 = .ok (.getfield 32, 3) := by decide +kernel
theorem dX11_put_122 : decode cX11_put 122 = .ok (.iconst 5, 1) := by decide +kernel
theorem dX11_put_123 : decode cX11_put 123 = .ok (.iload_n 1, 1) := by decide +kernel
theorem dX11_put_124 : decode cX11_put 124 = .ok (.imul, 1) := by decide +kernel
theorem dX11_put_125 : decode cX11_put 125 = .ok (.iconst 1, 1) := by decide +kernel
theorem dX11_put_126 : decode cX11_put 126 = .ok (.iadd, 1) := by decide +kernel
theorem dX11_put_127 : decode cX11_put 127 = .ok (.laload, 1) := by decide +kernel
theorem dX11_put_128 : decode cX11_put 128 = .ok (.iload_n 2, 1) := by decide +kernel
theorem dX11_put_129 : decode cX11_put 129 = .ok (.invokevirtual 207, 3) := by decide +kernel
theorem dX11_put_132 : decode cX11_put 132 = .ok (.aload_n 0, 1) := by decide +kernel
theorem dX11_put_133 : decode cX11_put 133 = .ok (.iload_n 3, 1) := by decide +kernel
theorem dX11_put_134 : decode cX11_put 134 = .ok (.bipush 116, 2) := by decide +kernel
theorem dX11_put_136 : decode cX11_put 136 = .ok (.iadd, 1) := by decide +kernel
theorem dX11_put_137 : decode cX11_put 137 = .ok (.bipush 8, 2) := by decide +kernel
theorem dX11_put_139 : decode cX11_put 139 = .ok (.aload_n 0, 1) := by decide +kernel
theorem dX11_put_140 : decode cX11_put 140 = .ok (.getfield 32, 3) := by decide +kernel
theorem dX11_put_143 : decode cX11_put 143 = .ok (.iconst 5, 1) := by decide +kernel
theorem dX11_put_144 : decode cX11_put 144 = .ok (.iload_n 1, 1) := by decide +kernel
theorem dX11_put_145 : decode cX11_put 145 = .ok (.imul, 1) := by decide +kernel
theorem dX11_put_146 : decode cX11_put 146 = .ok (.iconst 2, 1) := by decide +kernel
theorem dX11_put_147 : decode cX11_put 147 = .ok (.iadd, 1) := by decide +kernel
theorem dX11_put_148 : decode cX11_put 148 = .ok (.laload, 1) := by decide +kernel
theorem dX11_put_149 : decode cX11_put 149 = .ok (.iload_n 2, 1) := by decide +kernel
theorem dX11_put_150 : decode cX11_put 150 = .ok (.invokevirtual 207, 3) := by decide +kernel
theorem dX11_put_153 : decode cX11_put 153 = .ok (.aload_n 0, 1) := by decide +kernel
theorem dX11_put_154 : decode cX11_put 154 = .ok (.iload_n 3, 1) := by decide +kernel
theorem dX11_put_155 : decode cX11_put 155 = .ok (.sipush 136, 3) := by decide +kernel
theorem dX11_put_158 : decode cX11_put 158 = .ok (.iadd, 1) := by decide +kernel
theorem dX11_put_159 : decode cX11_put 159 = .ok (.bipush 12, 2) := by decide +kernel
theorem dX11_put_161 : decode cX11_put 161 = .ok (.aload_n 0, 1) := by decide +kernel
theorem dX11_put_162 : decode cX11_put 162 = .ok (.getfield 32, 3) := by decide +kernel
theorem dX11_put_165 : decode cX11_put 165 = .ok (.iconst 5, 1) := by decide +kernel
theorem dX11_put_166 : decode cX11_put 166 = .ok (.iload_n 1, 1) := by decide +kernel
theorem dX11_put_167 : decode cX11_put 167 = .ok (.imul, 1) := by decide +kernel
theorem dX11_put_168 : decode cX11_put 168 = .ok (.iconst 3, 1) := by decide +kernel
theorem dX11_put_169 : decode cX11_put 169 = .ok (.iadd, 1) := by decide +kernel
theorem dX11_put_170 : decode cX11_put 170 = .ok (.laload, 1) := by decide +kernel
theorem dX11_put_171 : decode cX11_put 171 = .ok (.iload_n 2, 1) := by decide +kernel
theorem dX11_put_172 : decode cX11_put 172 = .ok (.invokevirtual 207, 3) := by decide +kernel
theorem dX11_put_175 : decode cX11_put 175 = .ok (.aload_n 0, 1) := by decide +kernel
theorem dX11_put_176 : decode cX11_put 176 = .ok (.getfield 23, 3) := by decide +kernel
theorem dX11_put_179 : decode cX11_put 179 = .ok (.iload_n 1, 1) := by decide +kernel
theorem dX11_put_180 : decode cX11_put 180 = .ok (.iaload, 1) := by decide +kernel
theorem dX11_put_181 : decode cX11_put 181 = .ok (.bipush 100, 2) := by decide +kernel
theorem dX11_put_183 : decode cX11_put 183 = .ok (.if_icmp .le 21, 3) := by decide +kernel
theorem dX11_put_186 : decode cX11_put 186 = .ok (.iload_n 2, 1) := by decide +kernel
theorem dX11_put_187 : decode cX11_put 187 = .ok (.iconst 1, 1) := by decide +kernel
theorem dX11_put_188 : decode cX11_put 188 = .ok (.if_icmp .eq 8, 3) := by decide +kernel
theorem dX11_put_191 : decode cX11_put 191 = .ok (.iload_n 2, 1) := by decide +kernel
theorem dX11_put_192 : decode cX11_put 192 = .ok (.iconst 2, 1) := by decide +kernel
theorem dX11_put_193 : decode cX11_put 193 = .ok (.if_icmp .ne 11, 3) := by decide +kernel
theorem dX11_put_196 : decode cX11_put 196 = .ok (.aload_n 0, 1) := by decide +kernel
theorem dX11_put_197 : decode cX11_put 197 = .ok (.iload_n 1, 1) := by decide +kernel
theorem dX11_put_198 : decode cX11_put 198 = .ok (.invokevirtual 106, 3) := by decide +kernel
theorem dX11_put_201 : decode cX11_put 201 = .ok (.goto 4, 3) := by decide +kernel
theorem dX11_put_204 : decode cX11_put 204 = .ok (.iconst (-1), 1) := by decide +kernel
theorem dX11_put_205 : decode cX11_put 205 = .ok (.istore 4, 2) := by decide +kernel
theorem dX11_put_207 : decode cX11_put 207 = .ok (.iload 4, 2) := by decide +kernel
theorem dX11_put_209 : decode cX11_put 209 = .ok (.iconst 1, 1) := by decide +kernel
theorem dX11_put_210 : decode cX11_put 210 = .ok (.iadd, 1) := by decide +kernel
theorem dX11_put_211 : decode cX11_put 211 = .ok (.istore 5, 2) := by decide +kernel
theorem dX11_put_213 : decode cX11_put 213 = .ok (.iload 5, 2) := by decide +kernel
theorem dX11_put_215 : decode cX11_put 215 = .ok (.istore 6, 2) := by decide +kernel
theorem dX11_put_217 : decode cX11_put 217 = .ok (.iload 6, 2) := by decide +kernel
theorem dX11_put_219 : decode cX11_put 219 = .ok (.aload_n 0, 1) := by decide +kernel
theorem dX11_put_220 : decode cX11_put 220 = .ok (.getfield 23, 3) := by decide +kernel
theorem dX11_put_223 : decode cX11_put 223 = .ok (.iload_n 1, 1) := by decide +kernel
theorem dX11_put_224 : decode cX11_put 224 = .ok (.iaload, 1) := by decide +kernel
theorem dX11_put_225 : decode cX11_put 225 = .ok (.if_icmp .ge 44, 3) := by decide +kernel
theorem dX11_put_228 : decode cX11_put 228 = .ok (.iload 6, 2) := by decide +kernel
theorem dX11_put_230 : decode cX11_put 230 = .ok (.iload 5, 2) := by decide +kernel
theorem dX11_put_232 : decode cX11_put 232 = .ok (.bipush 100, 2) := by decide +kernel
theorem dX11_put_234 : decode cX11_put 234 = .ok (.iadd, 1) := by decide +kernel
theorem dX11_put_235 : decode cX11_put 235 = .ok (.if_icmp .ge 34, 3) := by decide +kernel
theorem dX11_put_238 : decode cX11_put 238 = .ok (.aload_n 0, 1) := by decide +kernel
theorem dX11_put_239 : decode cX11_put 239 = .ok (.getfield 47, 3) := by decide +kernel
theorem dX11_put_242 : decode cX11_put 242 = .ok (.iload_n 3, 1) := by decide +kernel
theorem dX11_put_243 : decode cX11_put 243 = .ok (.iload 6, 2) := by decide +kernel
theorem dX11_put_245 : decode cX11_put 245 = .ok (.iadd, 1) := by decide +kernel
theorem dX11_put_246 : decode cX11_put 246 = .ok (.iload 5, 2) := by decide +kernel
theorem dX11_put_248 : decode cX11_put 248 = .ok (.isub, 1) := by decide +kernel
theorem dX11_put_249 : decode cX11_put 249 = .ok (.aload_n 0, 1) := by decide +kernel
theorem dX11_put_250 : decode cX11_put 250 = .ok (.getfield 20, 3) := by decide +kernel
theorem dX11_put_253 : decode cX11_put 253 = .ok (.sipush 400, 3) := by decide +kernel
theorem dX11_put_256 : decode cX11_put 256 = .ok (.iload_n 1, 1) := by decide +kernel
theorem dX11_put_257 : decode cX11_put 257 = .ok (.imul, 1) := by decide +kernel
theorem dX11_put_258 : decode cX11_put 258 = .ok (.iload 6, 2) := by decide +kernel
theorem dX11_put_260 : decode cX11_put 260 = .ok (.iadd, 1) := by decide +kernel
theorem dX11_put_261 : decode cX11_put 261 = .ok (.iaload, 1) := by decide +kernel
theorem dX11_put_262 : decode cX11_put 262 = .ok (.iastore, 1) := by decide +kernel
theorem dX11_put_263 : decode cX11_put 263 = .ok (.iinc 6 1, 3) := by decide +kernel
theorem dX11_put_266 : decode cX11_put 266 = .ok (.goto (-49), 3) := by decide +kernel
theorem dX11_put_269 : decode cX11_put 269 = .ok (.iconst 0, 1) := by decide +kernel
theorem dX11_put_270 : decode cX11_put 270 = .ok (.istore 6, 2) := by decide +kernel
theorem dX11_put_272 : decode cX11_put 272 = .ok (.iload 6, 2) := by decide +kernel
theorem dX11_put_274 : decode cX11_put 274 = .ok (.iload 4, 2) := by decide +kernel
theorem dX11_put_276 : decode cX11_put 276 = .ok (.if_icmp .ge 35, 3) := by decide +kernel
theorem dX11_put_279 : decode cX11_put 279 = .ok (.aload_n 0, 1) := by decide +kernel
theorem dX11_put_280 : decode cX11_put 280 = .ok (.getfield 47, 3) := by decide +kernel
theorem dX11_put_283 : decode cX11_put 283 = .ok (.iload_n 3, 1) := by decide +kernel
theorem dX11_put_284 : decode cX11_put 284 = .ok (.sipush 345, 3) := by decide +kernel
theorem dX11_put_287 : decode cX11_put 287 = .ok (.iadd, 1) := by decide +kernel
theorem dX11_put_288 : decode cX11_put 288 = .ok (.iload 6, 2) := by decide +kernel
theorem dX11_put_290 : decode cX11_put 290 = .ok (.iadd, 1) := by decide +kernel
theorem dX11_put_291 : decode cX11_put 291 = .ok (.aload_n 0, 1) := by decide +kernel
theorem dX11_put_292 : decode cX11_put 292 = .ok (.getfield 20, 3) := by decide +kernel
theorem dX11_put_295 : decode cX11_put 295 = .ok (.sipush 400, 3) := by decide +kernel
theorem dX11_put_298 : decode cX11_put 298 = .ok (.iload_n 1, 1) := by decide +kernel
theorem dX11_put_299 : decode cX11_put 299 = .ok (.imul, 1) := by decide +kernel
theorem dX11_put_300 : decode cX11_put 300 = .ok (.iload 6, 2) := by decide +kernel
theorem dX11_put_302 : decode cX11_put 302 = .ok (.iadd, 1) := by decide +kernel
theorem dX11_put_303 : decode cX11_put 303 = .ok (.iaload, 1) := by decide +kernel
theorem dX11_put_304 : decode cX11_put 304 = .ok (.iastore, 1) := by decide +kernel
theorem dX11_put_305 : decode cX11_put 305 = .ok (.iinc 6 1, 3) := by decide +kernel
theorem dX11_put_308 : decode cX11_put 308 = .ok (.goto (-36), 3) := by decide +kernel
theorem dX11_put_311 : decode cX11_put 311 = .ok (.iconst 0, 1) := by decide +kernel
theorem dX11_put_312 : decode cX11_put 312 = .ok (.istore 6, 2) := by decide +kernel
theorem dX11_put_314 : decode cX11_put 314 = .ok (.iload 6, 2) := by decide +kernel
theorem dX11_put_316 : decode cX11_put 316 = .ok (.aload_n 0, 1) := by decide +kernel
theorem dX11_put_317 : decode cX11_put 317 = .ok (.getfield 29, 3) := by decide +kernel
theorem dX11_put_320 : decode cX11_put 320 = .ok (.iload_n 1, 1) := by decide +kernel
theorem dX11_put_321 : decode cX11_put 321 = .ok (.iaload, 1) := by decide +kernel
theorem dX11_put_322 : decode cX11_put 322 = .ok (.if_icmp .ge 42, 3) := by decide +kernel
theorem dX11_put_325 : decode cX11_put 325 = .ok (.iload 6, 2) := by decide +kernel
theorem dX11_put_327 : decode cX11_put 327 = .ok (.bipush 100, 2) := by decide +kernel
theorem dX11_put_329 : decode cX11_put 329 = .ok (.if_icmp .ge 35, 3) := by decide +kernel
theorem dX11_put_332 : decode cX11_put 332 = .ok (.aload_n 0, 1) := by decide +kernel
theorem dX11_put_333 : decode cX11_put 333 = .ok (.getfield 47, 3) := by decide +kernel
theorem dX11_put_336 : decode cX11_put 336 = .ok (.iload_n 3, 1) := by decide +kernel
theorem dX11_put_337 : decode cX11_put 337 = .ok (.sipush 157, 3) := by decide +kernel
theorem dX11_put_340 : decode cX11_put 340 = .ok (.iadd, 1) := by decide +kernel
theorem dX11_put_341 : decode cX11_put 341 = .ok (.iload 6, 2) := by decide +kernel
theorem dX11_put_343 : decode cX11_put 343 = .ok (.iadd, 1) := by decide +kernel
theorem dX11_put_344 : decode cX11_put 344 = .ok (.aload_n 0, 1) := by decide +kernel
theorem dX11_put_345 : decode cX11_put 345 = .ok (.getfield 26, 3) := by decide +kernel
theorem dX11_put_348 : decode cX11_put 348 = .ok (.sipush 400, 3) := by decide +kernel
theorem dX11_put_351 : decode cX11_put 351 = .ok (.iload_n 1, 1) := by decide +kernel
theorem dX11_put_352 : decode cX11_put 352 = .ok (.imul, 1) := by decide +kernel
theorem dX11_put_353 : decode cX11_put 353 = .ok (.iload 6, 2) := by decide +kernel
theorem dX11_put_355 : decode cX11_put 355 = .ok (.iadd, 1) := by decide +kernel
theorem dX11_put_356 : decode cX11_put 356 = .ok (.iaload, 1) := by decide +kernel
theorem dX11_put_357 : decode cX11_put 357 = .ok (.iastore, 1) := by decide +kernel
theorem dX11_put_358 : decode cX11_put 358 = .ok (.iinc 6 1, 3) := by decide +kernel
theorem dX11_put_361 : decode cX11_put 361 = .ok (.goto (-47), 3) := by decide +kernel
theorem dX11_put_364 : decode cX11_put 364 = .ok (.aload_n 0, 1) := by decide +kernel
theorem dX11_put_365 : decode cX11_put 365 = .ok (.iload_n 3, 1) := by decide +kernel
theorem dX11_put_366 : decode cX11_put 366 = .ok (.invokevirtual 193, 3) := by decide +kernel
theorem dX11_put_369 : decode cX11_put 369 = .ok (.iconst 0, 1) := by decide +kernel
theorem dX11_put_370 : decode cX11_put 370 = .ok (.istore 6, 2) := by decide +kernel
theorem dX11_put_372 : decode cX11_put 372 = .ok (.iload 6, 2) := by decide +kernel
theorem dX11_put_374 : decode cX11_put 374 = .ok (.aload_n 0, 1) := by decide +kernel
theorem dX11_put_375 : decode cX11_put 375 = .ok (.getfield 36, 3) := by decide +kernel
theorem dX11_put_378 : decode cX11_put 378 = .ok (.iload_n 1, 1) := by decide +kernel
theorem dX11_put_379 : decode cX11_put 379 = .ok (.iaload, 1) := by decide +kernel
theorem dX11_put_380 : decode cX11_put 380 = .ok (.if_icmp .ge 51, 3) := by decide +kernel
theorem dX11_put_383 : decode cX11_put 383 = .ok (.aload_n 0, 1) := by decide +kernel
theorem dX11_put_384 : decode cX11_put 384 = .ok (.getfield 39, 3) := by decide +kernel
theorem dX11_put_387 : decode cX11_put 387 = .ok (.iload_n 1, 1) := by decide +kernel
theorem dX11_put_388 : decode cX11_put 388 = .ok (.iaload, 1) := by decide +kernel
theorem dX11_put_389 : decode cX11_put 389 = .ok (.iload 6, 2) := by decide +kernel
theorem dX11_put_391 : decode cX11_put 391 = .ok (.iadd, 1) := by decide +kernel
theorem dX11_put_392 : decode cX11_put 392 = .ok (.ldc 211, 2) := by decide +kernel
theorem dX11_put_394 : decode cX11_put 394 = .ok (.imul, 1) := by decide +kernel
theorem dX11_put_395 : decode cX11_put 395 = .ok (.istore 7, 2) := by decide +kernel
theorem dX11_put_397 : decode cX11_put 397 = .ok (.aload_n 0, 1) := by decide +kernel
theorem dX11_put_398 : decode cX11_put 398 = .ok (.getfield 47, 3) := by decide +kernel
theorem dX11_put_401 : decode cX11_put 401 = .ok (.aload_n 0, 1) := by decide +kernel
theorem dX11_put_402 : decode cX11_put 402 = .ok (.dup, 1) := by decide +kernel
theorem dX11_put_403 : decode cX11_put 403 = .ok (.getfield 128, 3) := by decide +kernel
theorem dX11_put_406 : decode cX11_put 406 = .ok (.dup_x1, 1) := by decide +kernel
theorem dX11_put_407 : decode cX11_put 407 = .ok (.iconst 1, 1) := by decide +kernel
theorem dX11_put_408 : decode cX11_put 408 = .ok (.iadd, 1) := by decide +kernel
theorem dX11_put_409 : decode cX11_put 409 = .ok (.putfield 128, 3) := by decide +kernel
theorem dX11_put_412 : decode cX11_put 412 = .ok (.iload 7, 2) := by decide +kernel
theorem dX11_put_414 : decode cX11_put 414 = .ok (.iload 7, 2) := by decide +kernel
theorem dX11_put_416 : decode cX11_put 416 = .ok (.bipush 15, 2) := by decide +kernel
theorem dX11_put_418 : decode cX11_put 418 = .ok (.iushr, 1) := by decide +kernel
theorem dX11_put_419 : decode cX11_put 419 = .ok (.ixor, 1) := by decide +kernel
theorem dX11_put_420 : decode cX11_put 420 = .ok (.sipush 255, 3) := by decide +kernel
theorem dX11_put_423 : decode cX11_put 423 = .ok (.iand, 1) := by decide +kernel
theorem dX11_put_424 : decode cX11_put 424 = .ok (.iastore, 1) := by decide +kernel
theorem dX11_put_425 : decode cX11_put 425 = .ok (.iinc 6 1, 3) := by decide +kernel
theorem dX11_put_428 : decode cX11_put 428 = .ok (.goto (-56), 3) := by decide +kernel
theorem dX11_put_431 : decode cX11_put 431 = .ok (.aload_n 0, 1) := by decide +kernel
theorem dX11_put_432 : decode cX11_put 432 = .ok (.invokevirtual 190, 3) := by decide +kernel
theorem dX11_put_435 : decode cX11_put 435 = .ok (.return_, 1) := by decide +kernel
theorem dX11_write_0 : decode cX11_write 0 = .ok (.iload_n 1, 1) := by decide +kernel
theorem dX11_write_1 : decode cX11_write 1 = .ok (.ifCond .lt 8, 3) := by decide +kernel
theorem dX11_write_4 : decode cX11_write 4 = .ok (.iload_n 1, 1) := by decide +kernel
theorem dX11_write_5 : decode cX11_write 5 = .ok (.iconst 3, 1) := by decide +kernel
theorem dX11_write_6 : decode cX11_write 6 = .ok (.if_icmp .le 5, 3) := by decide +kernel
theorem dX11_write_9 : decode cX11_write 9 = .ok (.iconst (-1), 1) := by decide +kernel
theorem dX11_write_10 : decode cX11_write 10 = .ok (.ireturn, 1) := by decide +kernel
theorem dX11_write_11 : decode cX11_write 11 = .ok (.aload_n 0, 1) := by decide +kernel
theorem dX11_write_12 : decode cX11_write 12 = .ok (.iload_n 1, 1) := by decide +kernel
theorem dX11_write_13 : decode cX11_write 13 = .ok (.invokevirtual 114, 3) := by decide +kernel
theorem dX11_write_16 : decode cX11_write 16 = .ok (.istore_n 3, 1) := by decide +kernel
theorem dX11_write_17 : decode cX11_write 17 = .ok (.iload_n 3, 1) := by decide +kernel
theorem dX11_write_18 : decode cX11_write 18 = .ok (.ifCond .lt 8, 3) := by decide +kernel
theorem dX11_write_21 : decode cX11_write 21 = .ok (.bipush (-10), 2) := by decide +kernel
theorem dX11_write_23 : decode cX11_write 23 = .ok (.iload_n 3, 1) := by decide +kernel
theorem dX11_write_24 : decode cX11_write 24 = .ok (.isub, 1) := by decide +kernel
theorem dX11_write_25 : decode cX11_write 25 = .ok (.ireturn, 1) := by decide +kernel
theorem dX11_write_26 : decode cX11_write 26 = .ok (.iload_n 2, 1) := by decide +kernel
theorem dX11_write_27 : decode cX11_write 27 = .ok (.ifCond .eq 17, 3) := by decide +kernel
theorem dX11_write_30 : decode cX11_write 30 = .ok (.aload_n 0, 1) := by decide +kernel
theorem dX11_write_31 : decode cX11_write 31 = .ok (.getfield 212, 3) := by decide +kernel
theorem dX11_write_34 : decode cX11_write 34 = .ok (.sipush 512, 3) := by decide +kernel
theorem dX11_write_37 : decode cX11_write 37 = .ok (.irem, 1) := by decide +kernel
theorem dX11_write_38 : decode cX11_write 38 = .ok (.ifCond .eq 6, 3) := by decide +kernel
theorem dX11_write_41 : decode cX11_write 41 = .ok (.bipush (-2), 2) := by decide +kernel
theorem dX11_write_43 : decode cX11_write 43 = .ok (.ireturn, 1) := by decide +kernel
theorem dX11_write_44 : decode cX11_write 44 = .ok (.aload_n 0, 1) := by decide +kernel
theorem dX11_write_45 : decode cX11_write 45 = .ok (.iconst 0, 1) := by decide +kernel
theorem dX11_write_46 : decode cX11_write 46 = .ok (.putfield 128, 3) := by decide +kernel
theorem dX11_write_49 : decode cX11_write 49 = .ok (.iconst 0, 1) := by decide +kernel
theorem dX11_write_50 : decode cX11_write 50 = .ok (.istore 4, 2) := by decide +kernel
theorem dX11_write_52 : decode cX11_write 52 = .ok (.iload 4, 2) := by decide +kernel
theorem dX11_write_54 : decode cX11_write 54 = .ok (.aload_n 0, 1) := by decide +kernel
theorem dX11_write_55 : decode cX11_write 55 = .ok (.getfield 96, 3) := by decide +kernel
theorem dX11_write_58 : decode cX11_write 58 = .ok (.if_icmp .ge 16, 3) := by decide +kernel
theorem dX11_write_61 : decode cX11_write 61 = .ok (.aload_n 0, 1) := by decide +kernel
theorem dX11_write_62 : decode cX11_write 62 = .ok (.iload 4, 2) := by decide +kernel
theorem dX11_write_64 : decode cX11_write 64 = .ok (.iload_n 1, 1) := by decide +kernel
theorem dX11_write_65 : decode cX11_write 65 = .ok (.invokevirtual 215, 3) := by decide +kernel
theorem dX11_write_68 : decode cX11_write 68 = .ok (.iinc 4 1, 3) := by decide +kernel
theorem dX11_write_71 : decode cX11_write 71 = .ok (.goto (-19), 3) := by decide +kernel
theorem dX11_write_74 : decode cX11_write 74 = .ok (.iconst 0, 1) := by decide +kernel
theorem dX11_write_75 : decode cX11_write 75 = .ok (.istore 4, 2) := by decide +kernel
theorem dX11_write_77 : decode cX11_write 77 = .ok (.iload 4, 2) := by decide +kernel
theorem dX11_write_79 : decode cX11_write 79 = .ok (.sipush 1024, 3) := by decide +kernel
theorem dX11_write_82 : decode cX11_write 82 = .ok (.if_icmp .ge 26, 3) := by decide +kernel
theorem dX11_write_85 : decode cX11_write 85 = .ok (.aload_n 0, 1) := by decide +kernel
theorem dX11_write_86 : decode cX11_write 86 = .ok (.getfield 47, 3) := by decide +kernel
theorem dX11_write_89 : decode cX11_write 89 = .ok (.aload_n 0, 1) := by decide +kernel
theorem dX11_write_90 : decode cX11_write 90 = .ok (.dup, 1) := by decide +kernel
theorem dX11_write_91 : decode cX11_write 91 = .ok (.getfield 128, 3) := by decide +kernel
theorem dX11_write_94 : decode cX11_write 94 = .ok (.dup_x1, 1) := by decide +kernel
theorem dX11_write_95 : decode cX11_write 95 = .ok (.iconst 1, 1) := by decide +kernel
theorem dX11_write_96 : decode cX11_write 96 = .ok (.iadd, 1) := by decide +kernel
theorem dX11_write_97 : decode cX11_write 97 = .ok (.putfield 128, 3) := by decide +kernel
theorem dX11_write_100 : decode cX11_write 100 = .ok (.iconst 0, 1) := by decide +kernel
theorem dX11_write_101 : decode cX11_write 101 = .ok (.iastore, 1) := by decide +kernel
theorem dX11_write_102 : decode cX11_write 102 = .ok (.iinc 4 1, 3) := by decide +kernel
theorem dX11_write_105 : decode cX11_write 105 = .ok (.goto (-28), 3) := by decide +kernel
theorem dX11_write_108 : decode cX11_write 108 = .ok (.iload_n 2, 1) := by decide +kernel
theorem dX11_write_109 : decode cX11_write 109 = .ok (.ifCond .eq 10, 3) := by decide +kernel
theorem dX11_write_112 : decode cX11_write 112 = .ok (.aload_n 0, 1) := by decide +kernel
theorem dX11_write_113 : decode cX11_write 113 = .ok (.getfield 212, 3) := by decide +kernel
theorem dX11_write_116 : decode cX11_write 116 = .ok (.goto 4, 3) := by decide +kernel
theorem dX11_write_119 : decode cX11_write 119 = .ok (.iconst 0, 1) := by decide +kernel
theorem dX11_write_120 : decode cX11_write 120 = .ok (.istore 4, 2) := by decide +kernel
theorem dX11_write_122 : decode cX11_write 122 = .ok (.iload 4, 2) := by decide +kernel
theorem dX11_write_124 : decode cX11_write 124 = .ok (.aload_n 0, 1) := by decide +kernel
theorem dX11_write_125 : decode cX11_write 125 = .ok (.getfield 128, 3) := by decide +kernel
theorem dX11_write_128 : decode cX11_write 128 = .ok (.iadd, 1) := by decide +kernel
theorem dX11_write_129 : decode cX11_write 129 = .ok (.ldc 42, 2) := by decide +kernel
theorem dX11_write_131 : decode cX11_write 131 = .ok (.if_icmp .le 6, 3) := by decide +kernel
theorem dX11_write_134 : decode cX11_write 134 = .ok (.bipush (-3), 2) := by decide +kernel
theorem dX11_write_136 : decode cX11_write 136 = .ok (.ireturn, 1) := by decide +kernel
theorem dX11_write_137 : decode cX11_write 137 = .ok (.iconst 0, 1) := by decide +kernel
theorem dX11_write_138 : decode cX11_write 138 = .ok (.istore 5, 2) := by decide +kernel
theorem dX11_write_140 : decode cX11_write 140 = .ok (.iload 5, 2) := by decide +kernel
theorem dX11_write_142 : decode cX11_write 142 = .ok (.aload_n 0, 1) := by decide +kernel
theorem dX11_write_143 : decode cX11_write 143 = .ok (.getfield 128, 3) := by decide +kernel
theorem dX11_write_146 : decode cX11_write 146 = .ok (.if_icmp .ge 26, 3) := by decide +kernel
theorem dX11_write_149 : decode cX11_write 149 = .ok (.aload_n 0, 1) := by decide +kernel
theorem dX11_write_150 : decode cX11_write 150 = .ok (.getfield 43, 3) := by decide +kernel
theorem dX11_write_153 : decode cX11_write 153 = .ok (.iload 4, 2) := by decide +kernel
theorem dX11_write_155 : decode cX11_write 155 = .ok (.iload 5, 2) := by decide +kernel
theorem dX11_write_157 : decode cX11_write 157 = .ok (.iadd, 1) := by decide +kernel
theorem dX11_write_158 : decode cX11_write 158 = .ok (.aload_n 0, 1) := by decide +kernel
theorem dX11_write_159 : decode cX11_write 159 = .ok (.getfield 47, 3) := by decide +kernel
theorem dX11_write_162 : decode cX11_write 162 = .ok (.iload 5, 2) := by decide +kernel
theorem dX11_write_164 : decode cX11_write 164 = .ok (.iaload, 1) := by decide +kernel
theorem dX11_write_165 : decode cX11_write 165 = .ok (.iastore, 1) := by decide +kernel
theorem dX11_write_166 : decode cX11_write 166 = .ok (.iinc 5 1, 3) := by decide +kernel
theorem dX11_write_169 : decode cX11_write 169 = .ok (.goto (-29), 3) := by decide +kernel
theorem dX11_write_172 : decode cX11_write 172 = .ok (.aload_n 0, 1) := by decide +kernel
theorem dX11_write_173 : decode cX11_write 173 = .ok (.iload 4, 2) := by decide +kernel
theorem dX11_write_175 : decode cX11_write 175 = .ok (.aload_n 0, 1) := by decide +kernel
theorem dX11_write_176 : decode cX11_write 176 = .ok (.getfield 128, 3) := by decide +kernel
theorem dX11_write_179 : decode cX11_write 179 = .ok (.iadd, 1) := by decide +kernel
theorem dX11_write_180 : decode cX11_write 180 = .ok (.putfield 212, 3) := by decide +kernel
theorem dX11_write_183 : decode cX11_write 183 = .ok (.aload_n 0, 1) := by decide +kernel
theorem dX11_write_184 : decode cX11_write 184 = .ok (.getfield 212, 3) := by decide +kernel
theorem dX11_write_187 : decode cX11_write 187 = .ok (.ireturn, 1) := by decide +kernel
theorem dX11_trim_0 : decode cX11_trim 0 = .ok (.iload_n 1, 1) := by decide +kernel
theorem dX11_trim_1 : decode cX11_trim 1 = .ok (.ifCond .lt 11, 3) := by decide +kernel
theorem dX11_trim_4 : decode cX11_trim 4 = .ok (.iload_n 1, 1) := by decide +kernel
theorem dX11_trim_5 : decode cX11_trim 5 = .ok (.aload_n 0, 1) := by decide +kernel
theorem dX11_trim_6 : decode cX11_trim 6 = .ok (.getfield 212, 3) := by decide +kernel
theorem dX11_trim_9 : decode cX11_trim 9 = .ok (.if_icmp .le 5, 3) := by decide +kernel
theorem dX11_trim_12 : decode cX11_trim 12 = .ok (.iconst (-1), 1) := by decide +kernel
theorem dX11_trim_13 : decode cX11_trim 13 = .ok (.ireturn, 1) := by decide +kernel
theorem dX11_trim_14 : decode cX11_trim 14 = .ok (.aload_n 0, 1) := by decide +kernel
theorem dX11_trim_15 : decode cX11_trim 15 = .ok (.getfield 212, 3) := by decide +kernel
theorem dX11_trim_18 : decode cX11_trim 18 = .ok (.iload_n 1, 1) := by decide +kernel
theorem dX11_trim_19 : decode cX11_trim 19 = .ok (.isub, 1) := by decide +kernel
theorem dX11_trim_20 : decode cX11_trim 20 = .ok (.istore_n 2, 1) := by decide +kernel
theorem dX11_trim_21 : decode cX11_trim 21 = .ok (.aload_n 0, 1) := by decide +kernel
theorem dX11_trim_22 : decode cX11_trim 22 = .ok (.iload_n 1, 1) := by decide +kernel
theorem dX11_trim_23 : decode cX11_trim 23 = .ok (.putfield 212, 3) := by decide +kernel
theorem dX11_trim_26 : decode cX11_trim 26 = .ok (.iload_n 2, 1) := by decide +kernel
theorem dX11_trim_27 : decode cX11_trim 27 = .ok (.ireturn, 1) := by decide +kernel
theorem dX11_poke_0 : decode cX11_poke 0 = .ok (.iload_n 1, 1) := by decide +kernel
theorem dX11_poke_1 : decode cX11_poke 1 = .ok (.ifCond .lt 22, 3) := by decide +kernel
theorem dX11_poke_4 : decode cX11_poke 4 = .ok (.iload_n 1, 1) := by decide +kernel
theorem dX11_poke_5 : decode cX11_poke 5 = .ok (.aload_n 0, 1) := by decide +kernel
theorem dX11_poke_6 : decode cX11_poke 6 = .ok (.getfield 212, 3) := by decide +kernel
theorem dX11_poke_9 : decode cX11_poke 9 = .ok (.if_icmp .ge 14, 3) := by decide +kernel
theorem dX11_poke_12 : decode cX11_poke 12 = .ok (.iload_n 2, 1) := by decide +kernel
theorem dX11_poke_13 : decode cX11_poke 13 = .ok (.ifCond .lt 10, 3) := by decide +kernel
theorem dX11_poke_16 : decode cX11_poke 16 = .ok (.iload_n 2, 1) := by decide +kernel
theorem dX11_poke_17 : decode cX11_poke 17 = .ok (.sipush 255, 3) := by decide +kernel
theorem dX11_poke_20 : decode cX11_poke 20 = .ok (.if_icmp .le 5, 3) := by decide +kernel
theorem dX11_poke_23 : decode cX11_poke 23 = .ok (.iconst (-1), 1) := by decide +kernel
theorem dX11_poke_24 : decode cX11_poke 24 = .ok (.ireturn, 1) := by decide +kernel
theorem dX11_poke_25 : decode cX11_poke 25 = .ok (.aload_n 0, 1) := by decide +kernel
theorem dX11_poke_26 : decode cX11_poke 26 = .ok (.getfield 43, 3) := by decide +kernel
theorem dX11_poke_29 : decode cX11_poke 29 = .ok (.iload_n 1, 1) := by decide +kernel
theorem dX11_poke_30 : decode cX11_poke 30 = .ok (.dup2, 1) := by decide +kernel
theorem dX11_poke_31 : decode cX11_poke 31 = .ok (.iaload, 1) := by decide +kernel
theorem dX11_poke_32 : decode cX11_poke 32 = .ok (.iload_n 2, 1) := by decide +kernel
theorem dX11_poke_33 : decode cX11_poke 33 = .ok (.ixor, 1) := by decide +kernel
theorem dX11_poke_34 : decode cX11_poke 34 = .ok (.iastore, 1) := by decide +kernel
theorem dX11_poke_35 : decode cX11_poke 35 = .ok (.aload_n 0, 1) := by decide +kernel
theorem dX11_poke_36 : decode cX11_poke 36 = .ok (.getfield 43, 3) := by decide +kernel
theorem dX11_poke_39 : decode cX11_poke 39 = .ok (.iload_n 1, 1) := by decide +kernel
theorem dX11_poke_40 : decode cX11_poke 40 = .ok (.iaload, 1) := by decide +kernel
theorem dX11_poke_41 : decode cX11_poke 41 = .ok (.ireturn, 1) := by decide +kernel
theorem dX11_sum_0 : decode cX11_sum 0 = .ok (.iload_n 1, 1) := by decide +kernel
theorem dX11_sum_1 : decode cX11_sum 1 = .ok (.ifCond .lt 23, 3) := by decide +kernel
theorem dX11_sum_4 : decode cX11_sum 4 = .ok (.iload_n 1, 1) := by decide +kernel
theorem dX11_sum_5 : decode cX11_sum 5 = .ok (.aload_n 0, 1) := by decide +kernel
theorem dX11_sum_6 : decode cX11_sum 6 = .ok (.getfield 212, 3) := by decide +kernel
theorem dX11_sum_9 : decode cX11_sum 9 = .ok (.sipush 512, 3) := by decide +kernel
theorem dX11_sum_12 : decode cX11_sum 12 = .ok (.isub, 1) := by decide +kernel
theorem dX11_sum_13 : decode cX11_sum 13 = .ok (.if_icmp .gt 11, 3) := by decide +kernel
theorem dX11_sum_16 : decode cX11_sum 16 = .ok (.iload_n 1, 1) := by decide +kernel
theorem dX11_sum_17 : decode cX11_sum 17 = .ok (.sipush 512, 3) := by decide +kernel
theorem dX11_sum_20 : decode cX11_sum 20 = .ok (.irem, 1) := by decide +kernel
theorem dX11_sum_21 : decode cX11_sum 21 = .ok (.ifCond .eq 5, 3) := by decide +kernel
theorem dX11_sum_24 : decode cX11_sum 24 = .ok (.iconst (-1), 1) := by decide +kernel
theorem dX11_sum_25 : decode cX11_sum 25 = .ok (.ireturn, 1) := by decide +kernel
theorem dX11_sum_26 : decode cX11_sum 26 = .ok (.aload_n 0, 1) := by decide +kernel
theorem dX11_sum_27 : decode cX11_sum 27 = .ok (.aload_n 0, 1) := by decide +kernel
theorem dX11_sum_28 : decode cX11_sum 28 = .ok (.getfield 43, 3) := by decide +kernel
theorem dX11_sum_31 : decode cX11_sum 31 = .ok (.iload_n 1, 1) := by decide +kernel
