theorem dX8_isKey_13 : decode cX8_isKey 13 = .ok (.isub, 1) := by decide +kernel
theorem dX8_isKey_14 : decode cX8_isKey 14 = .ok (.aload_n 1, 1) := by decide +kernel
theorem dX8_isKey_15 : decode cX8_isKey 15 = .ok (.invokevirtual 99, 3) := by decide +kernel
theorem dX8_isKey_18 : decode cX8_isKey 18 = .ok (.ireturn, 1) := by decide +kernel
theorem dX8_hasNoZero_0 : decode cX8_hasNoZero 0 = .ok (.aload_n 0, 1) := by decide +kernel
theorem dX8_hasNoZero_1 : decode cX8_hasNoZero 1 = .ok (.getfield 21, 3) := by decide +kernel
theorem dX8_hasNoZero_4 : decode cX8_hasNoZero 4 = .ok (.iconst 0, 1) := by decide +kernel
theorem dX8_hasNoZero_5 : decode cX8_hasNoZero 5 = .ok (.aload_n 0, 1) := by decide +kernel
theorem dX8_hasNoZero_6 : decode cX8_hasNoZero 6 = .ok (.getfield 15, 3) := by decide +kernel
theorem dX8_hasNoZero_9 : decode cX8_hasNoZero 9 = .ok (.aload_n 0, 1) := by decide +kernel
theorem dX8_hasNoZero_10 : decode cX8_hasNoZero 10 = .ok (.getfield 18, 3) := by decide +kernel
theorem dX8_hasNoZero_13 : decode cX8_hasNoZero 13 = .ok (.invokevirtual 49, 3) := by decide +kernel
theorem dX8_hasNoZero_16 : decode cX8_hasNoZero 16 = .ok (.aload_n 0, 1) := by decide +kernel
theorem dX8_hasNoZero_17 : decode cX8_hasNoZero 17 = .ok (.getfield 18, 3) := by decide +kernel
theorem dX8_hasNoZero_20 : decode cX8_hasNoZero 20 = .ok (.if_icmp .ne 7, 3) := by decide +kernel
theorem dX8_hasNoZero_23 : decode cX8_hasNoZero 23 = .ok (.iconst 1, 1) := by decide +kernel
theorem dX8_hasNoZero_24 : decode cX8_hasNoZero 24 = .ok (.goto 4, 3) := by decide +kernel
theorem dX8_hasNoZero_27 : decode cX8_hasNoZero 27 = .ok (.iconst 0, 1) := by decide +kernel
theorem dX8_hasNoZero_28 : decode cX8_hasNoZero 28 = .ok (.ireturn, 1) := by decide +kernel
theorem dX8_takeNumber_0 : decode cX8_takeNumber 0 = .ok (.aload_n 0, 1) := by decide +kernel
theorem dX8_takeNumber_1 : decode cX8_takeNumber 1 = .ok (.getfield 21, 3) := by decide +kernel
theorem dX8_takeNumber_4 : decode cX8_takeNumber 4 = .ok (.aload_n 0, 1) := by decide +kernel
theorem dX8_takeNumber_5 : decode cX8_takeNumber 5 = .ok (.getfield 15, 3) := by decide +kernel
theorem dX8_takeNumber_8 : decode cX8_takeNumber 8 = .ok (.aload_n 0, 1) := by decide +kernel
theorem dX8_takeNumber_9 : decode cX8_takeNumber 9 = .ok (.getfield 18, 3) := by decide +kernel
theorem dX8_takeNumber_12 : decode cX8_takeNumber 12 = .ok (.bipush 18, 2) := by decide +kernel
theorem dX8_takeNumber_14 : decode cX8_takeNumber 14 = .ok (.invokevirtual 103, 3) := by decide +kernel
theorem dX8_takeNumber_17 : decode cX8_takeNumber 17 = .ok (.lreturn, 1) := by decide +kernel
theorem dX9_bits_0 : decode cX9_bits 0 = .ok (.aload_n 1, 1) := by decide +kernel
theorem dX9_bits_1 : decode cX9_bits 1 = .ok (.iconst 0, 1) := by decide +kernel
theorem dX9_bits_2 : decode cX9_bits 2 = .ok (.invokevirtual 9, 3) := by decide +kernel
theorem dX9_bits_5 : decode cX9_bits 5 = .ok (.bipush 47, 2) := by decide +kernel
theorem dX9_bits_7 : decode cX9_bits 7 = .ok (.if_icmp .ne 7, 3) := by decide +kernel
theorem dX9_bits_10 : decode cX9_bits 10 = .ok (.iconst 1, 1) := by decide +kernel
theorem dX9_bits_11 : decode cX9_bits 11 = .ok (.goto 4, 3) := by decide +kernel
theorem dX9_bits_14 : decode cX9_bits 14 = .ok (.iconst 0, 1) := by decide +kernel
theorem dX9_bits_15 : decode cX9_bits 15 = .ok (.istore_n 3, 1) := by decide +kernel
theorem dX9_bits_16 : decode cX9_bits 16 = .ok (.iload_n 3, 1) := by decide +kernel
theorem dX9_bits_17 : decode cX9_bits 17 = .ok (.aload_n 1, 1) := by decide +kernel
theorem dX9_bits_18 : decode cX9_bits 18 = .ok (.invokestatic 15, 3) := by decide +kernel
theorem dX9_bits_21 : decode cX9_bits 21 = .ok (.ifCond .eq 7, 3) := by decide +kernel
theorem dX9_bits_24 : decode cX9_bits 24 = .ok (.iconst 2, 1) := by decide +kernel
theorem dX9_bits_25 : decode cX9_bits 25 = .ok (.goto 4, 3) := by decide +kernel
theorem dX9_bits_28 : decode cX9_bits 28 = .ok (.iconst 0, 1) := by decide +kernel
theorem dX9_bits_29 : decode cX9_bits 29 = .ok (.ior, 1) := by decide +kernel
theorem dX9_bits_30 : decode cX9_bits 30 = .ok (.istore_n 3, 1) := by decide +kernel
theorem dX9_bits_31 : decode cX9_bits 31 = .ok (.iload_n 0, 1) := by decide +kernel
theorem dX9_bits_32 : decode cX9_bits 32 = .ok (.bipush 49, 2) := by decide +kernel
theorem dX9_bits_34 : decode cX9_bits 34 = .ok (.if_icmp .eq 9, 3) := by decide +kernel
theorem dX9_bits_37 : decode cX9_bits 37 = .ok (.iload_n 0, 1) := by decide +kernel
theorem dX9_bits_38 : decode cX9_bits 38 = .ok (.bipush 50, 2) := by decide +kernel
theorem dX9_bits_40 : decode cX9_bits 40 = .ok (.if_icmp .ne 21, 3) := by decide +kernel
theorem dX9_bits_43 : decode cX9_bits 43 = .ok (.iload_n 3, 1) := by decide +kernel
theorem dX9_bits_44 : decode cX9_bits 44 = .ok (.aload_n 2, 1) := by decide +kernel
theorem dX9_bits_45 : decode cX9_bits 45 = .ok (.iconst 0, 1) := by decide +kernel
theorem dX9_bits_46 : decode cX9_bits 46 = .ok (.invokevirtual 9, 3) := by decide +kernel
theorem dX9_bits_49 : decode cX9_bits 49 = .ok (.bipush 47, 2) := by decide +kernel
theorem dX9_bits_51 : decode cX9_bits 51 = .ok (.if_icmp .ne 7, 3) := by decide +kernel
theorem dX9_bits_54 : decode cX9_bits 54 = .ok (.iconst 4, 1) := by decide +kernel
theorem dX9_bits_55 : decode cX9_bits 55 = .ok (.goto 4, 3) := by decide +kernel
theorem dX9_bits_58 : decode cX9_bits 58 = .ok (.iconst 0, 1) := by decide +kernel
theorem dX9_bits_59 : decode cX9_bits 59 = .ok (.ior, 1) := by decide +kernel
theorem dX9_bits_60 : decode cX9_bits 60 = .ok (.istore_n 3, 1) := by decide +kernel
theorem dX9_bits_61 : decode cX9_bits 61 = .ok (.iload_n 0, 1) := by decide +kernel
theorem dX9_bits_62 : decode cX9_bits 62 = .ok (.bipush 49, 2) := by decide +kernel
theorem dX9_bits_64 : decode cX9_bits 64 = .ok (.if_icmp .ne 19, 3) := by decide +kernel
theorem dX9_bits_67 : decode cX9_bits 67 = .ok (.iload_n 3, 1) := by decide +kernel
theorem dX9_bits_68 : decode cX9_bits 68 = .ok (.aload_n 2, 1) := by decide +kernel
theorem dX9_bits_69 : decode cX9_bits 69 = .ok (.invokestatic 15, 3) := by decide +kernel
theorem dX9_bits_72 : decode cX9_bits 72 = .ok (.ifCond .eq 8, 3) := by decide +kernel
theorem dX9_bits_75 : decode cX9_bits 75 = .ok (.bipush 8, 2) := by decide +kernel
theorem dX9_bits_77 : decode cX9_bits 77 = .ok (.goto 4, 3) := by decide +kernel
theorem dX9_bits_80 : decode cX9_bits 80 = .ok (.iconst 0, 1) := by decide +kernel
theorem dX9_bits_81 : decode cX9_bits 81 = .ok (.ior, 1) := by decide +kernel
theorem dX9_bits_82 : decode cX9_bits 82 = .ok (.istore_n 3, 1) := by decide +kernel
theorem dX9_bits_83 : decode cX9_bits 83 = .ok (.iload_n 0, 1) := by decide +kernel
theorem dX9_bits_84 : decode cX9_bits 84 = .ok (.bipush 50, 2) := by decide +kernel
theorem dX9_bits_86 : decode cX9_bits 86 = .ok (.if_icmp .ne 23, 3) := by decide +kernel
theorem dX9_bits_89 : decode cX9_bits 89 = .ok (.iload_n 3, 1) := by decide +kernel
theorem dX9_bits_90 : decode cX9_bits 90 = .ok (.aload_n 2, 1) := by decide +kernel
theorem dX9_bits_91 : decode cX9_bits 91 = .ok (.aload_n 1, 1) := by decide +kernel
theorem dX9_bits_92 : decode cX9_bits 92 = .ok (.invokestatic 21, 3) := by decide +kernel
theorem dX9_bits_95 : decode cX9_bits 95 = .ok (.invokestatic 25, 3) := by decide +kernel
theorem dX9_bits_98 : decode cX9_bits 98 = .ok (.ifCond .eq 8, 3) := by decide +kernel
theorem dX9_bits_101 : decode cX9_bits 101 = .ok (.bipush 8, 2) := by decide +kernel
theorem dX9_bits_103 : decode cX9_bits 103 = .ok (.goto 4, 3) := by decide +kernel
theorem dX9_bits_106 : decode cX9_bits 106 = .ok (.iconst 0, 1) := by decide +kernel
theorem dX9_bits_107 : decode cX9_bits 107 = .ok (.ior, 1) := by decide +kernel
theorem dX9_bits_108 : decode cX9_bits 108 = .ok (.istore_n 3, 1) := by decide +kernel
theorem dX9_bits_109 : decode cX9_bits 109 = .ok (.iload_n 3, 1) := by decide +kernel
theorem dX9_bits_110 : decode cX9_bits 110 = .ok (.ireturn, 1) := by decide +kernel
theorem dX9_hasUp_0 : decode cX9_hasUp 0 = .ok (.iconst 0, 1) := by decide +kernel
theorem dX9_hasUp_1 : decode cX9_hasUp 1 = .ok (.istore_n 1, 1) := by decide +kernel
theorem dX9_hasUp_2 : decode cX9_hasUp 2 = .ok (.iconst 0, 1) := by decide +kernel
theorem dX9_hasUp_3 : decode cX9_hasUp 3 = .ok (.istore_n 2, 1) := by decide +kernel
theorem dX9_hasUp_4 : decode cX9_hasUp 4 = .ok (.iload_n 2, 1) := by decide +kernel
theorem dX9_hasUp_5 : decode cX9_hasUp 5 = .ok (.aload_n 0, 1) := by decide +kernel
theorem dX9_hasUp_6 : decode cX9_hasUp 6 = .ok (.invokevirtual 29, 3) := by decide +kernel
theorem dX9_hasUp_9 : decode cX9_hasUp 9 = .ok (.if_icmp .gt 32, 3) := by decide +kernel
theorem dX9_hasUp_12 : decode cX9_hasUp 12 = .ok (.aload_n 0, 1) := by decide +kernel
theorem dX9_hasUp_13 : decode cX9_hasUp 13 = .ok (.iload_n 2, 1) := by decide +kernel
theorem dX9_hasUp_14 : decode cX9_hasUp 14 = .ok (.invokestatic 33, 3) := by decide +kernel
theorem dX9_hasUp_17 : decode cX9_hasUp 17 = .ok (.ifCond .eq 18, 3) := by decide +kernel
theorem dX9_hasUp_20 : decode cX9_hasUp 20 = .ok (.aload_n 0, 1) := by decide +kernel
theorem dX9_hasUp_21 : decode cX9_hasUp 21 = .ok (.iload_n 1, 1) := by decide +kernel
theorem dX9_hasUp_22 : decode cX9_hasUp 22 = .ok (.iload_n 2, 1) := by decide +kernel
theorem dX9_hasUp_23 : decode cX9_hasUp 23 = .ok (.invokestatic 36, 3) := by decide +kernel
theorem dX9_hasUp_26 : decode cX9_hasUp 26 = .ok (.ifCond .ge 5, 3) := by decide +kernel
theorem dX9_hasUp_29 : decode cX9_hasUp 29 = .ok (.iconst 1, 1) := by decide +kernel
theorem dX9_hasUp_30 : decode cX9_hasUp 30 = .ok (.ireturn, 1) := by decide +kernel
theorem dX9_hasUp_31 : decode cX9_hasUp 31 = .ok (.iload_n 2, 1) := by decide +kernel
theorem dX9_hasUp_32 : decode cX9_hasUp 32 = .ok (.iconst 1, 1) := by decide +kernel
theorem dX9_hasUp_33 : decode cX9_hasUp 33 = .ok (.iadd, 1) := by decide +kernel
theorem dX9_hasUp_34 : decode cX9_hasUp 34 = .ok (.istore_n 1, 1) := by decide +kernel
theorem dX9_hasUp_35 : decode cX9_hasUp 35 = .ok (.iinc 2 1, 3) := by decide +kernel
theorem dX9_hasUp_38 : decode cX9_hasUp 38 = .ok (.goto (-34), 3) := by decide +kernel
theorem dX9_hasUp_41 : decode cX9_hasUp 41 = .ok (.iconst 0, 1) := by decide +kernel
theorem dX9_hasUp_42 : decode cX9_hasUp 42 = .ok (.ireturn, 1) := by decide +kernel
theorem dX9_heightOf_0 : decode cX9_heightOf 0 = .ok (.iconst 0, 1) := by decide +kernel
theorem dX9_heightOf_1 : decode cX9_heightOf 1 = .ok (.istore_n 1, 1) := by decide +kernel
theorem dX9_heightOf_2 : decode cX9_heightOf 2 = .ok (.iconst 0, 1) := by decide +kernel
theorem dX9_heightOf_3 : decode cX9_heightOf 3 = .ok (.istore_n 2, 1) := by decide +kernel
theorem dX9_heightOf_4 : decode cX9_heightOf 4 = .ok (.iconst 0, 1) := by decide +kernel
theorem dX9_heightOf_5 : decode cX9_heightOf 5 = .ok (.istore_n 3, 1) := by decide +kernel
theorem dX9_heightOf_6 : decode cX9_heightOf 6 = .ok (.iload_n 3, 1) := by decide +kernel
theorem dX9_heightOf_7 : decode cX9_heightOf 7 = .ok (.aload_n 0, 1) := by decide +kernel
theorem dX9_heightOf_8 : decode cX9_heightOf 8 = .ok (.invokevirtual 29, 3) := by decide +kernel
theorem dX9_heightOf_11 : decode cX9_heightOf 11 = .ok (.if_icmp .ge 34, 3) := by decide +kernel
theorem dX9_heightOf_14 : decode cX9_heightOf 14 = .ok (.aload_n 0, 1) := by decide +kernel
theorem dX9_heightOf_15 : decode cX9_heightOf 15 = .ok (.iload_n 3, 1) := by decide +kernel
theorem dX9_heightOf_16 : decode cX9_heightOf 16 = .ok (.invokestatic 33, 3) := by decide +kernel
theorem dX9_heightOf_19 : decode cX9_heightOf 19 = .ok (.ifCond .eq 20, 3) := by decide +kernel
theorem dX9_heightOf_22 : decode cX9_heightOf 22 = .ok (.iconst 0, 1) := by decide +kernel
theorem dX9_heightOf_23 : decode cX9_heightOf 23 = .ok (.iload_n 1, 1) := by decide +kernel
theorem dX9_heightOf_24 : decode cX9_heightOf 24 = .ok (.aload_n 0, 1) := by decide +kernel
theorem dX9_heightOf_25 : decode cX9_heightOf 25 = .ok (.iload_n 2, 1) := by decide +kernel
theorem dX9_heightOf_26 : decode cX9_heightOf 26 = .ok (.iload_n 3, 1) := by decide +kernel
theorem dX9_heightOf_27 : decode cX9_heightOf 27 = .ok (.invokestatic 36, 3) := by decide +kernel
theorem dX9_heightOf_30 : decode cX9_heightOf 30 = .ok (.iadd, 1) := by decide +kernel
theorem dX9_heightOf_31 : decode cX9_heightOf 31 = .ok (.invokestatic 40, 3) := by decide +kernel
theorem dX9_heightOf_34 : decode cX9_heightOf 34 = .ok (.istore_n 1, 1) := by decide +kernel
theorem dX9_heightOf_35 : decode cX9_heightOf 35 = .ok (.iload_n 3, 1) := by decide +kernel
theorem dX9_heightOf_36 : decode cX9_heightOf 36 = .ok (.iconst 1, 1) := by decide +kernel
theorem dX9_heightOf_37 : decode cX9_heightOf 37 = .ok (.iadd, 1) := by decide +kernel
theorem dX9_heightOf_38 : decode cX9_heightOf 38 = .ok (.istore_n 2, 1) := by decide +kernel
theorem dX9_heightOf_39 : decode cX9_heightOf 39 = .ok (.iinc 3 1, 3) := by decide +kernel
theorem dX9_heightOf_42 : decode cX9_heightOf 42 = .ok (.goto (-36), 3) := by decide +kernel
theorem dX9_heightOf_45 : decode cX9_heightOf 45 = .ok (.iload_n 1, 1) := by decide +kernel
theorem dX9_heightOf_46 : decode cX9_heightOf 46 = .ok (.ireturn, 1) := by decide +kernel
theorem dX9_comesBelow_0 : decode cX9_comesBelow 0 = .ok (.iload_n 1, 1) := by decide +kernel
theorem dX9_comesBelow_1 : decode cX9_comesBelow 1 = .ok (.istore_n 2, 1) := by decide +kernel
theorem dX9_comesBelow_2 : decode cX9_comesBelow 2 = .ok (.iconst 0, 1) := by decide +kernel
theorem dX9_comesBelow_3 : decode cX9_comesBelow 3 = .ok (.istore_n 3, 1) := by decide +kernel
theorem dX9_comesBelow_4 : decode cX9_comesBelow 4 = .ok (.iconst 0, 1) := by decide +kernel
theorem dX9_comesBelow_5 : decode cX9_comesBelow 5 = .ok (.istore 4, 2) := by decide +kernel
theorem dX9_comesBelow_7 : decode cX9_comesBelow 7 = .ok (.iload 4, 2) := by decide +kernel
theorem dX9_comesBelow_9 : decode cX9_comesBelow 9 = .ok (.aload_n 0, 1) := by decide +kernel
theorem dX9_comesBelow_10 : decode cX9_comesBelow 10 = .ok (.invokevirtual 29, 3) := by decide +kernel
theorem dX9_comesBelow_13 : decode cX9_comesBelow 13 = .ok (.if_icmp .gt 39, 3) := by decide +kernel
theorem dX9_comesBelow_16 : decode cX9_comesBelow 16 = .ok (.aload_n 0, 1) := by decide +kernel
theorem dX9_comesBelow_17 : decode cX9_comesBelow 17 = .ok (.iload 4, 2) := by decide +kernel
theorem dX9_comesBelow_19 : decode cX9_comesBelow 19 = .ok (.invokestatic 33, 3) := by decide +kernel
theorem dX9_comesBelow_22 : decode cX9_comesBelow 22 = .ok (.ifCond .eq 18, 3) := by decide +kernel
theorem dX9_comesBelow_25 : decode cX9_comesBelow 25 = .ok (.iload_n 2, 1) := by decide +kernel
theorem dX9_comesBelow_26 : decode cX9_comesBelow 26 = .ok (.aload_n 0, 1) := by decide +kernel
theorem dX9_comesBelow_27 : decode cX9_comesBelow 27 = .ok (.iload_n 3, 1) := by decide +kernel
theorem dX9_comesBelow_28 : decode cX9_comesBelow 28 = .ok (.iload 4, 2) := by decide +kernel
theorem dX9_comesBelow_30 : decode cX9_comesBelow 30 = .ok (.invokestatic 36, 3) := by decide +kernel
theorem dX9_comesBelow_33 : decode cX9_comesBelow 33 = .ok (.iadd, 1) := by decide +kernel
theorem dX9_comesBelow_34 : decode cX9_comesBelow 34 = .ok (.istore_n 2, 1) := by decide +kernel
theorem dX9_comesBelow_35 : decode cX9_comesBelow 35 = .ok (.iload 4, 2) := by decide +kernel
theorem dX9_comesBelow_37 : decode cX9_comesBelow 37 = .ok (.iconst 1, 1) := by decide +kernel
theorem dX9_comesBelow_38 : decode cX9_comesBelow 38 = .ok (.iadd, 1) := by decide +kernel
theorem dX9_comesBelow_39 : decode cX9_comesBelow 39 = .ok (.istore_n 3, 1) := by decide +kernel
theorem dX9_comesBelow_40 : decode cX9_comesBelow 40 = .ok (.iload_n 2, 1) := by decide +kernel
theorem dX9_comesBelow_41 : decode cX9_comesBelow 41 = .ok (.ifCond .ge 5, 3) := by decide +kernel
theorem dX9_comesBelow_44 : decode cX9_comesBelow 44 = .ok (.iconst 1, 1) := by decide +kernel
theorem dX9_comesBelow_45 : decode cX9_comesBelow 45 = .ok (.ireturn, 1) := by decide +kernel
theorem dX9_comesBelow_46 : decode cX9_comesBelow 46 = .ok (.iinc 4 1, 3) := by decide +kernel
theorem dX9_comesBelow_49 : decode cX9_comesBelow 49 = .ok (.goto (-42), 3) := by decide +kernel
theorem dX9_comesBelow_52 : decode cX9_comesBelow 52 = .ok (.iconst 0, 1) := by decide +kernel
theorem dX9_comesBelow_53 : decode cX9_comesBelow 53 = .ok (.ireturn, 1) := by decide +kernel
theorem dX9_isPartEnd_0 : decode cX9_isPartEnd 0 = .ok (.iload_n 1, 1) := by decide +kernel
theorem dX9_isPartEnd_1 : decode cX9_isPartEnd 1 = .ok (.aload_n 0, 1) := by decide +kernel
theorem dX9_isPartEnd_2 : decode cX9_isPartEnd 2 = .ok (.invokevirtual 29, 3) := by decide +kernel
theorem dX9_isPartEnd_5 : decode cX9_isPartEnd 5 = .ok (.if_icmp .eq 13, 3) := by decide +kernel
theorem dX9_isPartEnd_8 : decode cX9_isPartEnd 8 = .ok (.aload_n 0, 1) := by decide +kernel
theorem dX9_isPartEnd_9 : decode cX9_isPartEnd 9 = .ok (.iload_n 1, 1) := by decide +kernel
theorem dX9_isPartEnd_10 : decode cX9_isPartEnd 10 = .ok (.invokevirtual 9, 3) := by decide +kernel
theorem dX9_isPartEnd_13 : decode cX9_isPartEnd 13 = .ok (.bipush 47, 2) := by decide +kernel
theorem dX9_isPartEnd_15 : decode cX9_isPartEnd 15 = .ok (.if_icmp .ne 7, 3) := by decide +kernel
theorem dX9_isPartEnd_18 : decode cX9_isPartEnd 18 = .ok (.iconst 1, 1) := by decide +kernel
theorem dX9_isPartEnd_19 : decode cX9_isPartEnd 19 = .ok (.goto 4, 3) := by decide +kernel
theorem dX9_isPartEnd_22 : decode cX9_isPartEnd 22 = .ok (.iconst 0, 1) := by decide +kernel
theorem dX9_isPartEnd_23 : decode cX9_isPartEnd 23 = .ok (.ireturn, 1) := by decide +kernel
theorem dX9_step_0 : decode cX9_step 0 = .ok (.iload_n 1, 1) := by decide +kernel
theorem dX9_step_1 : decode cX9_step 1 = .ok (.iload_n 2, 1) := by decide +kernel
theorem dX9_step_2 : decode cX9_step 2 = .ok (.if_icmp .eq 20, 3) := by decide +kernel
theorem dX9_step_5 : decode cX9_step 5 = .ok (.iload_n 2, 1) := by decide +kernel
theorem dX9_step_6 : decode cX9_step 6 = .ok (.iload_n 1, 1) := by decide +kernel
theorem dX9_step_7 : decode cX9_step 7 = .ok (.isub, 1) := by decide +kernel
theorem dX9_step_8 : decode cX9_step 8 = .ok (.iconst 1, 1) := by decide +kernel
theorem dX9_step_9 : decode cX9_step 9 = .ok (.if_icmp .ne 15, 3) := by decide +kernel
theorem dX9_step_12 : decode cX9_step 12 = .ok (.aload_n 0, 1) := by decide +kernel
theorem dX9_step_13 : decode cX9_step 13 = .ok (.iload_n 1, 1) := by decide +kernel
theorem dX9_step_14 : decode cX9_step 14 = .ok (.invokevirtual 9, 3) := by decide +kernel
theorem dX9_step_17 : decode cX9_step 17 = .ok (.bipush 46, 2) := by decide +kernel
theorem dX9_step_19 : decode cX9_step 19 = .ok (.if_icmp .ne 5, 3) := by decide +kernel
theorem dX9_step_22 : decode cX9_step 22 = .ok (.iconst 0, 1) := by decide +kernel
theorem dX9_step_23 : decode cX9_step 23 = .ok (.ireturn, 1) := by decide +kernel
theorem dX9_step_24 : decode cX9_step 24 = .ok (.iload_n 2, 1) := by decide +kernel
theorem dX9_step_25 : decode cX9_step 25 = .ok (.iload_n 1, 1) := by decide +kernel
theorem dX9_step_26 : decode cX9_step 26 = .ok (.isub, 1) := by decide +kernel
theorem dX9_step_27 : decode cX9_step 27 = .ok (.iconst 2, 1) := by decide +kernel
theorem dX9_step_28 : decode cX9_step 28 = .ok (.if_icmp .ne 29, 3) := by decide +kernel
theorem dX9_step_31 : decode cX9_step 31 = .ok (.aload_n 0, 1) := by decide +kernel
theorem dX9_step_32 : decode cX9_step 32 = .ok (.iload_n 1, 1) := by decide +kernel
theorem dX9_step_33 : decode cX9_step 33 = .ok (.invokevirtual 9, 3) := by decide +kernel
theorem dX9_step_36 : decode cX9_step 36 = .ok (.bipush 46, 2) := by decide +kernel
theorem dX9_step_38 : decode cX9_step 38 = .ok (.if_icmp .ne 19, 3) := by decide +kernel
theorem dX9_step_41 : decode cX9_step 41 = .ok (.aload_n 0, 1) := by decide +kernel
theorem dX9_step_42 : decode cX9_step 42 = .ok (.iload_n 1, 1) := by decide +kernel
theorem dX9_step_43 : decode cX9_step 43 = .ok (.iconst 1, 1) := by decide +kernel
theorem dX9_step_44 : decode cX9_step 44 = .ok (.iadd, 1) := by decide +kernel
theorem dX9_step_45 : decode cX9_step 45 = .ok (.invokevirtual 9, 3) := by decide +kernel
theorem dX9_step_48 : decode cX9_step 48 = .ok (.bipush 46, 2) := by decide +kernel
theorem dX9_step_50 : decode cX9_step 50 = .ok (.if_icmp .ne 7, 3) := by decide +kernel
theorem dX9_step_53 : decode cX9_step 53 = .ok (.iconst (-1), 1) := by decide +kernel
theorem dX9_step_54 : decode cX9_step 54 = .ok (.goto 4, 3) := by decide +kernel
theorem dX9_step_57 : decode cX9_step 57 = .ok (.iconst 1, 1) := by decide +kernel
theorem dX9_step_58 : decode cX9_step 58 = .ok (.ireturn, 1) := by decide +kernel
theorem dX10_init_0 : decode cX10_init 0 = .ok (.aload_n 0, 1) := by decide +kernel
theorem dX10_init_1 : decode cX10_init 1 = .ok (.invokespecial 1, 3) := by decide +kernel
theorem dX10_init_4 : decode cX10_init 4 = .ok (.aload_n 0, 1) := by decide +kernel
theorem dX10_init_5 : decode cX10_init 5 = .ok (.new 7, 3) := by decide +kernel
theorem dX10_init_8 : decode cX10_init 8 = .ok (.dup, 1) := by decide +kernel
theorem dX10_init_9 : decode cX10_init 9 = .ok (.sipush 512, 3) := by decide +kernel
theorem dX10_init_12 : decode cX10_init 12 = .ok (.invokespecial 11, 3) := by decide +kernel
theorem dX10_init_15 : decode cX10_init 15 = .ok (.putfield 14, 3) := by decide +kernel
theorem dX10_init_18 : decode cX10_init 18 = .ok (.aload_n 0, 1) := by decide +kernel
theorem dX10_init_19 : decode cX10_init 19 = .ok (.new 7, 3) := by decide +kernel
theorem dX10_init_22 : decode cX10_init 22 = .ok (.dup, 1) := by decide +kernel
theorem dX10_init_23 : decode cX10_init 23 = .ok (.ldc 18, 2) := by decide +kernel
theorem dX10_init_25 : decode cX10_init 25 = .ok (.invokespecial 11, 3) := by decide +kernel
theorem dX10_init_28 : decode cX10_init 28 = .ok (.putfield 19, 3) := by decide +kernel
theorem dX10_init_31 : decode cX10_init 31 = .ok (.aload_n 0, 1) := by decide +kernel
theorem dX10_init_32 : decode cX10_init 32 = .ok (.bipush 9, 2) := by decide +kernel
theorem dX10_init_34 : decode cX10_init 34 = .ok (.anewarray 22, 3) := by decide +kernel
theorem dX10_init_37 : decode cX10_init 37 = .ok (.putfield 24, 3) := by decide +kernel
theorem dX10_init_40 : decode cX10_init 40 = .ok (.aload_n 0, 1) := by decide +kernel
theorem dX10_init_41 : decode cX10_init 41 = .ok (.iconst 0, 1) := by decide +kernel
theorem dX10_init_42 : decode cX10_init 42 = .ok (.putfield 28, 3) := by decide +kernel
theorem dX10_init_45 : decode cX10_init 45 = .ok (.aload_n 0, 1) := by decide +kernel
theorem dX10_init_46 : decode cX10_init 46 = .ok (.new 32, 3) := by decide +kernel
theorem dX10_init_49 : decode cX10_init 49 = .ok (.dup, 1) := by decide +kernel
theorem dX10_init_50 : decode cX10_init 50 = .ok (.aload_n 0, 1) := by decide +kernel
theorem dX10_init_51 : decode cX10_init 51 = .ok (.getfield 19, 3) := by decide +kernel
theorem dX10_init_54 : decode cX10_init 54 = .ok (.invokespecial 34, 3) := by decide +kernel
theorem dX10_init_57 : decode cX10_init 57 = .ok (.putfield 37, 3) := by decide +kernel
theorem dX10_init_60 : decode cX10_init 60 = .ok (.aload_n 0, 1) := by decide +kernel
theorem dX10_init_61 : decode cX10_init 61 = .ok (.new 41, 3) := by decide +kernel
theorem dX10_init_64 : decode cX10_init 64 = .ok (.dup, 1) := by decide +kernel
theorem dX10_init_65 : decode cX10_init 65 = .ok (.aload_n 0, 1) := by decide +kernel
theorem dX10_init_66 : decode cX10_init 66 = .ok (.getfield 19, 3) := by decide +kernel
theorem dX10_init_69 : decode cX10_init 69 = .ok (.invokespecial 43, 3) := by decide +kernel
theorem dX10_init_72 : decode cX10_init 72 = .ok (.putfield 44, 3) := by decide +kernel
theorem dX10_init_75 : decode cX10_init 75 = .ok (.iconst 0, 1) := by decide +kernel
theorem dX10_init_76 : decode cX10_init 76 = .ok (.istore_n 1, 1) := by decide +kernel
theorem dX10_init_77 : decode cX10_init 77 = .ok (.iload_n 1, 1) := by decide +kernel
theorem dX10_init_78 : decode cX10_init 78 = .ok (.aload_n 0, 1) := by decide +kernel
theorem dX10_init_79 : decode cX10_init 79 = .ok (.getfield 24, 3) := by decide +kernel
theorem dX10_init_82 : decode cX10_init 82 = .ok (.arraylength, 1) := by decide +kernel
theorem dX10_init_83 : decode cX10_init 83 = .ok (.if_icmp .ge 22, 3) := by decide +kernel
theorem dX10_init_86 : decode cX10_init 86 = .ok (.aload_n 0, 1) := by decide +kernel
theorem dX10_init_87 : decode cX10_init 87 = .ok (.getfield 24, 3) := by decide +kernel
theorem dX10_init_90 : decode cX10_init 90 = .ok (.iload_n 1, 1) := by decide +kernel
theorem dX10_init_91 : decode cX10_init 91 = .ok (.new 22, 3) := by decide +kernel
theorem dX10_init_94 : decode cX10_init 94 = .ok (.dup, 1) := by decide +kernel
theorem dX10_init_95 : decode cX10_init 95 = .ok (.invokespecial 48, 3) := by decide +kernel
theorem dX10_init_98 : decode cX10_init 98 = .ok (.aastore, 1) := by decide +kernel
theorem dX10_init_99 : decode cX10_init 99 = .ok (.iinc 1 1, 3) := by decide +kernel
theorem dX10_init_102 : decode cX10_init 102 = .ok (.goto (-25), 3) := by decide +kernel
theorem dX10_init_105 : decode cX10_init 105 = .ok (.return_, 1) := by decide +kernel
theorem dX10_feed_0 : decode cX10_feed 0 = .ok (.aload_n 0, 1) := by decide +kernel
theorem dX10_feed_1 : decode cX10_feed 1 = .ok (.getfield 14, 3) := by decide +kernel
theorem dX10_feed_4 : decode cX10_feed 4 = .ok (.invokevirtual 49, 3) := by decide +kernel
theorem dX10_feed_7 : decode cX10_feed 7 = .ok (.bipush 16, 2) := by decide +kernel
theorem dX10_feed_9 : decode cX10_feed 9 = .ok (.if_icmp .ge 6, 3) := by decide +kernel
theorem dX10_feed_12 : decode cX10_feed 12 = .ok (.bipush (-3), 2) := by decide +kernel
theorem dX10_feed_14 : decode cX10_feed 14 = .ok (.ireturn, 1) := by decide +kernel
theorem dX10_feed_15 : decode cX10_feed 15 = .ok (.aload_n 0, 1) := by decide +kernel
theorem dX10_feed_16 : decode cX10_feed 16 = .ok (.getfield 14, 3) := by decide +kernel
theorem dX10_feed_19 : decode cX10_feed 19 = .ok (.iload_n 1, 1) := by decide +kernel
theorem dX10_feed_20 : decode cX10_feed 20 = .ok (.invokevirtual 53, 3) := by decide +kernel
theorem dX10_feed_23 : decode cX10_feed 23 = .ok (.aload_n 0, 1) := by decide +kernel
theorem dX10_feed_24 : decode cX10_feed 24 = .ok (.getfield 14, 3) := by decide +kernel
theorem dX10_feed_27 : decode cX10_feed 27 = .ok (.iload_n 2, 1) := by decide +kernel
theorem dX10_feed_28 : decode cX10_feed 28 = .ok (.invokevirtual 53, 3) := by decide +kernel
theorem dX10_feed_31 : decode cX10_feed 31 = .ok (.aload_n 0, 1) := by decide +kernel
theorem dX10_feed_32 : decode cX10_feed 32 = .ok (.getfield 14, 3) := by decide +kernel
theorem dX10_feed_35 : decode cX10_feed 35 = .ok (.iload_n 3, 1) := by decide +kernel
theorem dX10_feed_36 : decode cX10_feed 36 = .ok (.invokevirtual 53, 3) := by decide +kernel
theorem dX10_feed_39 : decode cX10_feed 39 = .ok (.aload_n 0, 1) := by decide +kernel
theorem dX10_feed_40 : decode cX10_feed 40 = .ok (.getfield 14, 3) := by decide +kernel
theorem dX10_feed_43 : decode cX10_feed 43 = .ok (.iload 4, 2) := by decide +kernel
theorem dX10_feed_45 : decode cX10_feed 45 = .ok (.invokevirtual 53, 3) := by decide +kernel
theorem dX10_feed_48 : decode cX10_feed 48 = .ok (.aload_n 0, 1) := by decide +kernel
theorem dX10_feed_49 : decode cX10_feed 49 = .ok (.getfield 14, 3) := by decide +kernel
theorem dX10_feed_52 : decode cX10_feed 52 = .ok (.invokevirtual 56, 3) := by decide +kernel
theorem dX10_feed_55 : decode cX10_feed 55 = .ok (.ireturn, 1) := by decide +kernel
theorem dX10_cut_0 : decode cX10_cut 0 = .ok (.aload_n 0, 1) := by decide +kernel
theorem dX10_cut_1 : decode cX10_cut 1 = .ok (.getfield 14, 3) := by decide +kernel
theorem dX10_cut_4 : decode cX10_cut 4 = .ok (.iload_n 1, 1) := by decide +kernel
theorem dX10_cut_5 : decode cX10_cut 5 = .ok (.invokestatic 59, 3) := by decide +kernel
theorem dX10_cut_8 : decode cX10_cut 8 = .ok (.ireturn, 1) := by decide +kernel
theorem dX10_name_0 : decode cX10_name 0 = .ok (.aload_n 0, 1) := by decide +kernel
theorem dX10_name_1 : decode cX10_name 1 = .ok (.getfield 14, 3) := by decide +kernel
theorem dX10_name_4 : decode cX10_name 4 = .ok (.invokevirtual 56, 3) := by decide +kernel
theorem dX10_name_7 : decode cX10_name 7 = .ok (.istore_n 2, 1) := by decide +kernel
theorem dX10_name_8 : decode cX10_name 8 = .ok (.iload_n 2, 1) := by decide +kernel
theorem dX10_name_9 : decode cX10_name 9 = .ok (.ifCond .eq 24, 3) := by decide +kernel
theorem dX10_name_12 : decode cX10_name 12 = .ok (.iload_n 2, 1) := by decide +kernel
theorem dX10_name_13 : decode cX10_name 13 = .ok (.sipush 400, 3) := by decide +kernel
theorem dX10_name_16 : decode cX10_name 16 = .ok (.if_icmp .gt 17, 3) := by decide +kernel
theorem dX10_name_19 : decode cX10_name 19 = .ok (.aload_n 0, 1) := by decide +kernel
theorem dX10_name_20 : decode cX10_name 20 = .ok (.getfield 14, 3) := by decide +kernel
theorem dX10_name_23 : decode cX10_name 23 = .ok (.iconst 0, 1) := by decide +kernel
theorem dX10_name_24 : decode cX10_name 24 = .ok (.iconst 0, 1) := by decide +kernel
theorem dX10_name_25 : decode cX10_name 25 = .ok (.iload_n 2, 1) := by decide +kernel
theorem dX10_name_26 : decode cX10_name 26 = .ok (.invokevirtual 63, 3) := by decide +kernel
theorem dX10_name_29 : decode cX10_name 29 = .ok (.iload_n 2, 1) := by decide +kernel
theorem dX10_name_30 : decode cX10_name 30 = .ok (.if_icmp .ge 6, 3) := by decide +kernel
theorem dX10_name_33 : decode cX10_name 33 = .ok (.bipush (-2), 2) := by decide +kernel
theorem dX10_name_35 : decode cX10_name 35 = .ok (.ireturn, 1) := by decide +kernel
theorem dX10_name_36 : decode cX10_name 36 = .ok (.iload_n 1, 1) := by decide +kernel
theorem dX10_name_37 : decode cX10_name 37 = .ok (.ifCond .eq 13, 3) := by decide +kernel
theorem dX10_name_40 : decode cX10_name 40 = .ok (.aload_n 0, 1) := by decide +kernel
theorem dX10_name_41 : decode cX10_name 41 = .ok (.invokevirtual 67, 3) := by decide +kernel
theorem dX10_name_44 : decode cX10_name 44 = .ok (.getfield 71, 3) := by decide +kernel
theorem dX10_name_47 : decode cX10_name 47 = .ok (.goto 10, 3) := by decide +kernel
theorem dX10_name_50 : decode cX10_name 50 = .ok (.aload_n 0, 1) := by decide +kernel
theorem dX10_name_51 : decode cX10_name 51 = .ok (.invokevirtual 67, 3) := by decide +kernel
theorem dX10_name_54 : decode cX10_name 54 = .ok (.getfield 74, 3) := by decide +kernel
theorem dX10_name_57 : decode cX10_name 57 = .ok (.astore_n 3, 1) := by decide +kernel
theorem dX10_name_58 : decode cX10_name 58 = .ok (.aload_n 3, 1) := by decide +kernel
theorem dX10_name_59 : decode cX10_name 59 = .ok (.aload_n 0, 1) := by decide +kernel
theorem dX10_name_60 : decode cX10_name 60 = .ok (.getfield 14, 3) := by decide +kernel
theorem dX10_name_63 : decode cX10_name 63 = .ok (.iconst 0, 1) := by decide +kernel
theorem dX10_name_64 : decode cX10_name 64 = .ok (.iload_n 2, 1) := by decide +kernel
theorem dX10_name_65 : decode cX10_name 65 = .ok (.invokevirtual 77, 3) := by decide +kernel
theorem dX10_name_68 : decode cX10_name 68 = .ok (.pop, 1) := by decide +kernel
theorem dX10_name_69 : decode cX10_name 69 = .ok (.aload_n 0, 1) := by decide +kernel
theorem dX10_name_70 : decode cX10_name 70 = .ok (.getfield 14, 3) := by decide +kernel
theorem dX10_name_73 : decode cX10_name 73 = .ok (.invokevirtual 81, 3) := by decide +kernel
theorem dX10_name_76 : decode cX10_name 76 = .ok (.iload_n 2, 1) := by decide +kernel
theorem dX10_name_77 : decode cX10_name 77 = .ok (.ireturn, 1) := by decide +kernel
theorem dX10_number_0 : decode cX10_number 0 = .ok (.iload_n 1, 1) := by decide +kernel
theorem dX10_number_1 : decode cX10_number 1 = .ok (.ifCond .lt 28, 3) := by decide +kernel
theorem dX10_number_4 : decode cX10_number 4 = .ok (.iload_n 1, 1) := by decide +kernel
theorem dX10_number_5 : decode cX10_number 5 = .ok (.iconst 4, 1) := by decide +kernel
theorem dX10_number_6 : decode cX10_number 6 = .ok (.if_icmp .gt 23, 3) := by decide +kernel
theorem dX10_number_9 : decode cX10_number 9 = .ok (.lload_n 2, 1) := by decide +kernel
theorem dX10_number_10 : decode cX10_number 10 = .ok (.getstatic 84, 3) := by decide +kernel
theorem dX10_number_13 : decode cX10_number 13 = .ok (.iload_n 1, 1) := by decide +kernel
theorem dX10_number_14 : decode cX10_number 14 = .ok (.laload, 1) := by decide +kernel
theorem dX10_number_15 : decode cX10_number 15 = .ok (.lcmp, 1) := by decide +kernel
theorem dX10_number_16 : decode cX10_number 16 = .ok (.ifCond .lt 13, 3) := by decide +kernel
theorem dX10_number_19 : decode cX10_number 19 = .ok (.lload_n 2, 1) := by decide +kernel
theorem dX10_number_20 : decode cX10_number 20 = .ok (.getstatic 88, 3) := by decide +kernel
theorem dX10_number_23 : decode cX10_number 23 = .ok (.iload_n 1, 1) := by decide +kernel
theorem dX10_number_24 : decode cX10_number 24 = .ok (.laload, 1) := by decide +kernel
theorem dX10_number_25 : decode cX10_number 25 = .ok (.lcmp, 1) := by decide +kernel
theorem dX10_number_26 : decode cX10_number 26 = .ok (.ifCond .le 5, 3) := by decide +kernel
theorem dX10_number_29 : decode cX10_number 29 = .ok (.iconst (-1), 1) := by decide +kernel
theorem dX10_number_30 : decode cX10_number 30 = .ok (.ireturn, 1) := by decide +kernel
theorem dX10_number_31 : decode cX10_number 31 = .ok (.aload_n 0, 1) := by decide +kernel
theorem dX10_number_32 : decode cX10_number 32 = .ok (.invokevirtual 67, 3) := by decide +kernel
theorem dX10_number_35 : decode cX10_number 35 = .ok (.getfield 91, 3) := by decide +kernel
theorem dX10_number_38 : decode cX10_number 38 = .ok (.iload_n 1, 1) := by decide +kernel
theorem dX10_number_39 : decode cX10_number 39 = .ok (.lload_n 2, 1) := by decide +kernel
theorem dX10_number_40 : decode cX10_number 40 = .ok (.lastore, 1) := by decide +kernel
theorem dX10_number_41 : decode cX10_number 41 = .ok (.iconst 1, 1) := by decide +kernel
theorem dX10_number_42 : decode cX10_number 42 = .ok (.ireturn, 1) := by decide +kernel
theorem dX10_entry_0 : decode cX10_entry 0 = .ok (.iload_n 1, 1) := by decide +kernel
theorem dX10_entry_1 : decode cX10_entry 1 = .ok (.invokestatic 94, 3) := by decide +kernel
theorem dX10_entry_4 : decode cX10_entry 4 = .ok (.ifCond .eq 24, 3) := by decide +kernel
theorem dX10_entry_7 : decode cX10_entry 7 = .ok (.iload_n 2, 1) := by decide +kernel
theorem dX10_entry_8 : decode cX10_entry 8 = .ok (.ifCond .lt 20, 3) := by decide +kernel
theorem dX10_entry_11 : decode cX10_entry 11 = .ok (.iload_n 2, 1) := by decide +kernel
theorem dX10_entry_12 : decode cX10_entry 12 = .ok (.iload_n 1, 1) := by decide +kernel
theorem dX10_entry_13 : decode cX10_entry 13 = .ok (.bipush 48, 2) := by decide +kernel
theorem dX10_entry_15 : decode cX10_entry 15 = .ok (.if_icmp .ne 9, 3) := by decide +kernel
theorem dX10_entry_18 : decode cX10_entry 18 = .ok (.sipush 4000, 3) := by decide +kernel
theorem dX10_entry_21 : decode cX10_entry 21 = .ok (.goto 4, 3) := by decide +kernel
theorem dX10_entry_24 : decode cX10_entry 24 = .ok (.iconst 0, 1) := by decide +kernel
theorem dX10_entry_25 : decode cX10_entry 25 = .ok (.if_icmp .le 5, 3) := by decide +kernel
theorem dX10_entry_28 : decode cX10_entry 28 = .ok (.iconst (-1), 1) := by decide +kernel
theorem dX10_entry_29 : decode cX10_entry 29 = .ok (.ireturn, 1) := by decide +kernel
theorem dX10_entry_30 : decode cX10_entry 30 = .ok (.aload_n 0, 1) := by decide +kernel
theorem dX10_entry_31 : decode cX10_entry 31 = .ok (.invokevirtual 67, 3) := by decide +kernel
theorem dX10_entry_34 : decode cX10_entry 34 = .ok (.astore 4, 2) := by decide +kernel
theorem dX10_entry_36 : decode cX10_entry 36 = .ok (.iload_n 1, 1) := by decide +kernel
theorem dX10_entry_37 : decode cX10_entry 37 = .ok (.bipush 49, 2) := by decide +kernel
theorem dX10_entry_39 : decode cX10_entry 39 = .ok (.if_icmp .eq 9, 3) := by decide +kernel
theorem dX10_entry_42 : decode cX10_entry 42 = .ok (.iload_n 1, 1) := by decide +kernel
theorem dX10_entry_43 : decode cX10_entry 43 = .ok (.bipush 50, 2) := by decide +kernel
theorem dX10_entry_45 : decode cX10_entry 45 = .ok (.if_icmp .ne 7, 3) := by decide +kernel
theorem dX10_entry_48 : decode cX10_entry 48 = .ok (.iconst 1, 1) := by decide +kernel
theorem dX10_entry_49 : decode cX10_entry 49 = .ok (.goto 4, 3) := by decide +kernel
theorem dX10_entry_52 : decode cX10_entry 52 = .ok (.iconst 0, 1) := by decide +kernel
theorem dX10_entry_53 : decode cX10_entry 53 = .ok (.istore 5, 2) := by decide +kernel
theorem dX10_entry_55 : decode cX10_entry 55 = .ok (.aload 4, 2) := by decide +kernel
theorem dX10_entry_57 : decode cX10_entry 57 = .ok (.getfield 74, 3) := by decide +kernel
theorem dX10_entry_60 : decode cX10_entry 60 = .ok (.invokevirtual 56, 3) := by decide +kernel
theorem dX10_entry_63 : decode cX10_entry 63 = .ok (.ifCond .eq 24, 3) := by decide +kernel
theorem dX10_entry_66 : decode cX10_entry 66 = .ok (.iload 5, 2) := by decide +kernel
theorem dX10_entry_68 : decode cX10_entry 68 = .ok (.aload 4, 2) := by decide +kernel
theorem dX10_entry_70 : decode cX10_entry 70 = .ok (.getfield 71, 3) := by decide +kernel
theorem dX10_entry_73 : decode cX10_entry 73 = .ok (.invokevirtual 56, 3) := by decide +kernel
theorem dX10_entry_76 : decode cX10_entry 76 = .ok (.ifCond .le 7, 3) := by decide +kernel
theorem dX10_entry_79 : decode cX10_entry 79 = .ok (.iconst 1, 1) := by decide +kernel
theorem dX10_entry_80 : decode cX10_entry 80 = .ok (.goto 4, 3) := by decide +kernel
theorem dX10_entry_83 : decode cX10_entry 83 = .ok (.iconst 0, 1) := by decide +kernel
theorem dX10_entry_84 : decode cX10_entry 84 = .ok (.if_icmp .eq 6, 3) := by decide +kernel
theorem dX10_entry_87 : decode cX10_entry 87 = .ok (.bipush (-2), 2) := by decide +kernel
theorem dX10_entry_89 : decode cX10_entry 89 = .ok (.ireturn, 1) := by decide +kernel
theorem dX10_entry_90 : decode cX10_entry 90 = .ok (.aload_n 0, 1) := by decide +kernel
theorem dX10_entry_91 : decode cX10_entry 91 = .ok (.getfield 28, 3) := by decide +kernel
theorem dX10_entry_94 : decode cX10_entry 94 = .ok (.bipush 8, 2) := by decide +kernel
theorem dX10_entry_96 : decode cX10_entry 96 = .ok (.if_icmp .lt 6, 3) := by decide +kernel
theorem dX10_entry_99 : decode cX10_entry 99 = .ok (.bipush (-3), 2) := by decide +kernel
theorem dX10_entry_101 : decode cX10_entry 101 = .ok (.ireturn, 1) := by decide +kernel
theorem dX10_entry_102 : decode cX10_entry 102 = .ok (.aload 4, 2) := by decide +kernel
theorem dX10_entry_104 : decode cX10_entry 104 = .ok (.iload_n 1, 1) := by decide +kernel
theorem dX10_entry_105 : decode cX10_entry 105 = .ok (.putfield 98, 3) := by decide +kernel
theorem dX10_entry_108 : decode cX10_entry 108 = .ok (.aload 4, 2) := by decide +kernel
theorem dX10_entry_110 : decode cX10_entry 110 = .ok (.iload_n 2, 1) := by decide +kernel
theorem dX10_entry_111 : decode cX10_entry 111 = .ok (.putfield 101, 3) := by decide +kernel
theorem dX10_entry_114 : decode cX10_entry 114 = .ok (.aload 4, 2) := by decide +kernel
theorem dX10_entry_116 : decode cX10_entry 116 = .ok (.iload_n 3, 1) := by decide +kernel
theorem dX10_entry_117 : decode cX10_entry 117 = .ok (.putfield 104, 3) := by decide +kernel
theorem dX10_entry_120 : decode cX10_entry 120 = .ok (.aload_n 0, 1) := by decide +kernel
theorem dX10_entry_121 : decode cX10_entry 121 = .ok (.dup, 1) := by decide +kernel
theorem dX10_entry_122 : decode cX10_entry 122 = .ok (.getfield 28, 3) := by decide +kernel
theorem dX10_entry_125 : decode cX10_entry 125 = .ok (.iconst 1, 1) := by decide +kernel
theorem dX10_entry_126 : decode cX10_entry 126 = .ok (.iadd, 1) := by decide +kernel
theorem dX10_entry_127 : decode cX10_entry 127 = .ok (.putfield 28, 3) := by decide +kernel
theorem dX10_entry_130 : decode cX10_entry 130 = .ok (.aload_n 0, 1) := by decide +kernel
theorem dX10_entry_131 : decode cX10_entry 131 = .ok (.invokevirtual 67, 3) := by decide +kernel
theorem dX10_entry_134 : decode cX10_entry 134 = .ok (.invokevirtual 107, 3) := by decide +kernel
theorem dX10_entry_137 : decode cX10_entry 137 = .ok (.aload_n 0, 1) := by decide +kernel
theorem dX10_entry_138 : decode cX10_entry 138 = .ok (.getfield 28, 3) := by decide +kernel
theorem dX10_entry_141 : decode cX10_entry 141 = .ok (.iconst 1, 1) := by decide +kernel
theorem dX10_entry_142 : decode cX10_entry 142 = .ok (.isub, 1) := by decide +kernel
theorem dX10_entry_143 : decode cX10_entry 143 = .ok (.ireturn, 1) := by decide +kernel
theorem dX10_clear_0 : decode cX10_clear 0 = .ok (.aload_n 0, 1) := by decide +kernel
theorem dX10_clear_1 : decode cX10_clear 1 = .ok (.getfield 28, 3) := by decide +kernel
theorem dX10_clear_4 : decode cX10_clear 4 = .ok (.istore_n 1, 1) := by decide +kernel
theorem dX10_clear_5 : decode cX10_clear 5 = .ok (.aload_n 0, 1) := by decide +kernel
theorem dX10_clear_6 : decode cX10_clear 6 = .ok (.iconst 0, 1) := by decide +kernel
theorem dX10_clear_7 : decode cX10_clear 7 = .ok (.putfield 28, 3) := by decide +kernel
theorem dX10_clear_10 : decode cX10_clear 10 = .ok (.aload_n 0, 1) := by decide +kernel
theorem dX10_clear_11 : decode cX10_clear 11 = .ok (.invokevirtual 67, 3) := by decide +kernel
theorem dX10_clear_14 : decode cX10_clear 14 = .ok (.invokevirtual 107, 3) := by decide +kernel
theorem dX10_clear_17 : decode cX10_clear 17 = .ok (.iload_n 1, 1) := by decide +kernel
theorem dX10_clear_18 : decode cX10_clear 18 = .ok (.ireturn, 1) := by decide +kernel
theorem dX10_best_0 : decode cX10_best 0 = .ok (.iconst 0, 1) := by decide +kernel
theorem dX10_best_1 : decode cX10_best 1 = .ok (.istore_n 1, 1) := by decide +kernel
theorem dX10_best_2 : decode cX10_best 2 = .ok (.iload_n 1, 1) := by decide +kernel
theorem dX10_best_3 : decode cX10_best 3 = .ok (.iconst 2, 1) := by decide +kernel
theorem dX10_best_4 : decode cX10_best 4 = .ok (.if_icmp .ge 23, 3) := by decide +kernel
theorem dX10_best_7 : decode cX10_best 7 = .ok (.aload_n 0, 1) := by decide +kernel
theorem dX10_best_8 : decode cX10_best 8 = .ok (.iload_n 1, 1) := by decide +kernel
theorem dX10_best_9 : decode cX10_best 9 = .ok (.invokevirtual 108, 3) := by decide +kernel
theorem dX10_best_12 : decode cX10_best 12 = .ok (.aload_n 0, 1) := by decide +kernel
theorem dX10_best_13 : decode cX10_best 13 = .ok (.getfield 28, 3) := by decide +kernel
theorem dX10_best_16 : decode cX10_best 16 = .ok (.if_icmp .ne 5, 3) := by decide +kernel
theorem dX10_best_19 : decode cX10_best 19 = .ok (.iload_n 1, 1) := by decide +kernel
theorem dX10_best_20 : decode cX10_best 20 = .ok (.ireturn, 1) := by decide +kernel
theorem dX10_best_21 : decode cX10_best 21 = .ok (.iinc 1 1, 3) := by decide +kernel
theorem dX10_best_24 : decode cX10_best 24 = .ok (.goto (-22), 3) := by decide +kernel
theorem dX10_best_27 : decode cX10_best 27 = .ok (.iconst 2, 1) := by decide +kernel
theorem dX10_best_28 : decode cX10_best 28 = .ok (.ireturn, 1) := by decide +kernel
theorem dX10_write_0 : decode cX10_write 0 = .ok (.iload_n 1, 1) := by decide +kernel
theorem dX10_write_1 : decode cX10_write 1 = .ok (.ifCond .lt 8, 3) := by decide +kernel
theorem dX10_write_4 : decode cX10_write 4 = .ok (.iload_n 1, 1) := by decide +kernel
theorem dX10_write_5 : decode cX10_write 5 = .ok (.iconst 3, 1) := by decide +kernel
theorem dX10_write_6 : decode cX10_write 6 = .ok (.if_icmp .le 5, 3) := by decide +kernel
theorem dX10_write_9 : decode cX10_write 9 = .ok (.iconst (-1), 1) := by decide +kernel
theorem dX10_write_10 : decode cX10_write 10 = .ok (.ireturn, 1) := by decide +kernel
theorem dX10_write_11 : decode cX10_write 11 = .ok (.aload_n 0, 1) := by decide +kernel
theorem dX10_write_12 : decode cX10_write 12 = .ok (.iload_n 1, 1) := by decide +kernel
theorem dX10_write_13 : decode cX10_write 13 = .ok (.invokevirtual 108, 3) := by decide +kernel
theorem dX10_write_16 : decode cX10_write 16 = .ok (.istore_n 3, 1) := by decide +kernel
theorem dX10_write_17 : decode cX10_write 17 = .ok (.iload_n 3, 1) := by decide +kernel
theorem dX10_write_18 : decode cX10_write 18 = .ok (.aload_n 0, 1) := by decide +kernel
theorem dX10_write_19 : decode cX10_write 19 = .ok (.getfield 28, 3) := by decide +kernel
theorem dX10_write_22 : decode cX10_write 22 = .ok (.if_icmp .ge 8, 3) := by decide +kernel
theorem dX10_write_25 : decode cX10_write 25 = .ok (.bipush (-10), 2) := by decide +kernel
theorem dX10_write_27 : decode cX10_write 27 = .ok (.iload_n 3, 1) := by decide +kernel
theorem dX10_write_28 : decode cX10_write 28 = .ok (.isub, 1) := by decide +kernel
theorem dX10_write_29 : decode cX10_write 29 = .ok (.ireturn, 1) := by decide +kernel
theorem dX10_write_30 : decode cX10_write 30 = .ok (.iload_n 2, 1) := by decide +kernel
theorem dX10_write_31 : decode cX10_write 31 = .ok (.ifCond .eq 20, 3) := by decide +kernel
theorem dX10_write_34 : decode cX10_write 34 = .ok (.aload_n 0, 1) := by decide +kernel
theorem dX10_write_35 : decode cX10_write 35 = .ok (.getfield 19, 3) := by decide +kernel
theorem dX10_write_38 : decode cX10_write 38 = .ok (.invokevirtual 56, 3) := by decide +kernel
theorem dX10_write_41 : decode cX10_write 41 = .ok (.sipush 512, 3) := by decide +kernel
theorem dX10_write_44 : decode cX10_write 44 = .ok (.irem, 1) := by decide +kernel
theorem dX10_write_45 : decode cX10_write 45 = .ok (.ifCond .eq 6, 3) := by decide +kernel
theorem dX10_write_48 : decode cX10_write 48 = .ok (.bipush (-2), 2) := by decide +kernel
theorem dX10_write_50 : decode cX10_write 50 = .ok (.ireturn, 1) := by decide +kernel
theorem dX10_write_51 : decode cX10_write 51 = .ok (.iload_n 2, 1) := by decide +kernel
theorem dX10_write_52 : decode cX10_write 52 = .ok (.ifCond .eq 13, 3) := by decide +kernel
theorem dX10_write_55 : decode cX10_write 55 = .ok (.aload_n 0, 1) := by decide +kernel
theorem dX10_write_56 : decode cX10_write 56 = .ok (.getfield 19, 3) := by decide +kernel
theorem dX10_write_59 : decode cX10_write 59 = .ok (.invokevirtual 56, 3) := by decide +kernel
theorem dX10_write_62 : decode cX10_write 62 = .ok (.goto 4, 3) := by decide +kernel
theorem dX10_write_65 : decode cX10_write 65 = .ok (.iconst 0, 1) := by decide +kernel
theorem dX10_write_66 : decode cX10_write 66 = .ok (.istore 4, 2) := by decide +kernel
theorem dX10_write_68 : decode cX10_write 68 = .ok (.iload 4, 2) := by decide +kernel
theorem dX10_write_70 : decode cX10_write 70 = .ok (.aload_n 0, 1) := by decide +kernel
theorem dX10_write_71 : decode cX10_write 71 = .ok (.iload_n 1, 1) := by decide +kernel
theorem dX10_write_72 : decode cX10_write 72 = .ok (.invokevirtual 112, 3) := by decide +kernel
theorem dX10_write_75 : decode cX10_write 75 = .ok (.iadd, 1) := by decide +kernel
theorem dX10_write_76 : decode cX10_write 76 = .ok (.ldc 18, 2) := by decide +kernel
theorem dX10_write_78 : decode cX10_write 78 = .ok (.if_icmp .le 6, 3) := by decide +kernel
theorem dX10_write_81 : decode cX10_write 81 = .ok (.bipush (-3), 2) := by decide +kernel
theorem dX10_write_83 : decode cX10_write 83 = .ok (.ireturn, 1) := by decide +kernel
theorem dX10_write_84 : decode cX10_write 84 = .ok (.aload_n 0, 1) := by decide +kernel
theorem dX10_write_85 : decode cX10_write 85 = .ok (.getfield 19, 3) := by decide +kernel
theorem dX10_write_88 : decode cX10_write 88 = .ok (.iload 4, 2) := by decide +kernel
theorem dX10_write_90 : decode cX10_write 90 = .ok (.invokevirtual 115, 3) := by decide +kernel
theorem dX10_write_93 : decode cX10_write 93 = .ok (.iconst 0, 1) := by decide +kernel
theorem dX10_write_94 : decode cX10_write 94 = .ok (.istore 5, 2) := by decide +kernel
theorem dX10_write_96 : decode cX10_write 96 = .ok (.iload 5, 2) := by decide +kernel
theorem dX10_write_98 : decode cX10_write 98 = .ok (.aload_n 0, 1) := by decide +kernel
theorem dX10_write_99 : decode cX10_write 99 = .ok (.getfield 28, 3) := by decide +kernel
theorem dX10_write_102 : decode cX10_write 102 = .ok (.if_icmp .ge 34, 3) := by decide +kernel
theorem dX10_write_105 : decode cX10_write 105 = .ok (.iload 5, 2) := by decide +kernel
theorem dX10_write_107 : decode cX10_write 107 = .ok (.aload_n 0, 1) := by decide +kernel
theorem dX10_write_108 : decode cX10_write 108 = .ok (.getfield 24, 3) := by decide +kernel
theorem dX10_write_111 : decode cX10_write 111 = .ok (.arraylength, 1) := by decide +kernel
theorem dX10_write_112 : decode cX10_write 112 = .ok (.if_icmp .ge 24, 3) := by decide +kernel
theorem dX10_write_115 : decode cX10_write 115 = .ok (.aload_n 0, 1) := by decide +kernel
theorem dX10_write_116 : decode cX10_write 116 = .ok (.getfield 37, 3) := by decide +kernel
theorem dX10_write_119 : decode cX10_write 119 = .ok (.aload_n 0, 1) := by decide +kernel
theorem dX10_write_120 : decode cX10_write 120 = .ok (.getfield 24, 3) := by decide +kernel
theorem dX10_write_123 : decode cX10_write 123 = .ok (.iload 5, 2) := by decide +kernel
theorem dX10_write_125 : decode cX10_write 125 = .ok (.aaload, 1) := by decide +kernel
theorem dX10_write_126 : decode cX10_write 126 = .ok (.iload_n 1, 1) := by decide +kernel
theorem dX10_write_127 : decode cX10_write 127 = .ok (.invokevirtual 118, 3) := by decide +kernel
theorem dX10_write_130 : decode cX10_write 130 = .ok (.iinc 5 1, 3) := by decide +kernel
theorem dX10_write_133 : decode cX10_write 133 = .ok (.goto (-37), 3) := by decide +kernel
theorem dX10_write_136 : decode cX10_write 136 = .ok (.aload_n 0, 1) := by decide +kernel
theorem dX10_write_137 : decode cX10_write 137 = .ok (.getfield 19, 3) := by decide +kernel
theorem dX10_write_140 : decode cX10_write 140 = .ok (.sipush 1024, 3) := by decide +kernel
theorem dX10_write_143 : decode cX10_write 143 = .ok (.invokevirtual 122, 3) := by decide +kernel
theorem dX10_write_146 : decode cX10_write 146 = .ok (.aload_n 0, 1) := by decide +kernel
theorem dX10_write_147 : decode cX10_write 147 = .ok (.getfield 19, 3) := by decide +kernel
theorem dX10_write_150 : decode cX10_write 150 = .ok (.invokevirtual 56, 3) := by decide +kernel
theorem dX10_write_153 : decode cX10_write 153 = .ok (.ireturn, 1) := by decide +kernel
theorem dX10_trim_0 : decode cX10_trim 0 = .ok (.aload_n 0, 1) := by decide +kernel
theorem dX10_trim_1 : decode cX10_trim 1 = .ok (.getfield 19, 3) := by decide +kernel
theorem dX10_trim_4 : decode cX10_trim 4 = .ok (.iload_n 1, 1) := by decide +kernel
theorem dX10_trim_5 : decode cX10_trim 5 = .ok (.invokestatic 59, 3) := by decide +kernel
theorem dX10_trim_8 : decode cX10_trim 8 = .ok (.ireturn, 1) := by decide +kernel
theorem dX10_poke_0 : decode cX10_poke 0 = .ok (.aload_n 0, 1) := by decide +kernel
theorem dX10_poke_1 : decode cX10_poke 1 = .ok (.getfield 19, 3) := by decide +kernel
theorem dX10_poke_4 : decode cX10_poke 4 = .ok (.iload_n 1, 1) := by decide +kernel
theorem dX10_poke_5 : decode cX10_poke 5 = .ok (.invokevirtual 125, 3) := by decide +kernel
theorem dX10_poke_8 : decode cX10_poke 8 = .ok (.istore_n 3, 1) := by decide +kernel
theorem dX10_poke_9 : decode cX10_poke 9 = .ok (.iload_n 3, 1) := by decide +kernel
theorem dX10_poke_10 : decode cX10_poke 10 = .ok (.ifCond .lt 14, 3) := by decide +kernel
theorem dX10_poke_13 : decode cX10_poke 13 = .ok (.iload_n 2, 1) := by decide +kernel
theorem dX10_poke_14 : decode cX10_poke 14 = .ok (.ifCond .lt 10, 3) := by decide +kernel
theorem dX10_poke_17 : decode cX10_poke 17 = .ok (.iload_n 2, 1) := by decide +kernel
theorem dX10_poke_18 : decode cX10_poke 18 = .ok (.sipush 255, 3) := by decide +kernel
theorem dX10_poke_21 : decode cX10_poke 21 = .ok (.if_icmp .le 5, 3) := by decide +kernel
theorem dX10_poke_24 : decode cX10_poke 24 = .ok (.iconst (-1), 1) := by decide +kernel
theorem dX10_poke_25 : decode cX10_poke 25 = .ok (.ireturn, 1) := by decide +kernel
theorem dX10_poke_26 : decode cX10_poke 26 = .ok (.aload_n 0, 1) := by decide +kernel
theorem dX10_poke_27 : decode cX10_poke 27 = .ok (.getfield 19, 3) := by decide +kernel
theorem dX10_poke_30 : decode cX10_poke 30 = .ok (.iload_n 1, 1) := by decide +kernel
theorem dX10_poke_31 : decode cX10_poke 31 = .ok (.iload_n 3, 1) := by decide +kernel
theorem dX10_poke_32 : decode cX10_poke 32 = .ok (.iload_n 2, 1) := by decide +kernel
theorem dX10_poke_33 : decode cX10_poke 33 = .ok (.ixor, 1) := by decide +kernel
theorem dX10_poke_34 : decode cX10_poke 34 = .ok (.invokevirtual 128, 3) := by decide +kernel
theorem dX10_poke_37 : decode cX10_poke 37 = .ok (.iload_n 3, 1) := by decide +kernel
theorem dX10_poke_38 : decode cX10_poke 38 = .ok (.iload_n 2, 1) := by decide +kernel
theorem dX10_poke_39 : decode cX10_poke 39 = .ok (.ixor, 1) := by decide +kernel
theorem dX10_poke_40 : decode cX10_poke 40 = .ok (.ireturn, 1) := by decide +kernel
theorem dX10_sum_0 : decode cX10_sum 0 = .ok (.iload_n 1, 1) := by decide +kernel
theorem dX10_sum_1 : decode cX10_sum 1 = .ok (.ifCond .lt 26, 3) := by decide +kernel
theorem dX10_sum_4 : decode cX10_sum 4 = .ok (.iload_n 1, 1) := by decide +kernel
theorem dX10_sum_5 : decode cX10_sum 5 = .ok (.sipush 512, 3) := by decide +kernel
theorem dX10_sum_8 : decode cX10_sum 8 = .ok (.irem, 1) := by decide +kernel
theorem dX10_sum_9 : decode cX10_sum 9 = .ok (.ifCond .ne 18, 3) := by decide +kernel
theorem dX10_sum_12 : decode cX10_sum 12 = .ok (.iload_n 1, 1) := by decide +kernel
theorem dX10_sum_13 : decode cX10_sum 13 = .ok (.aload_n 0, 1) := by decide +kernel
theorem dX10_sum_14 : decode cX10_sum 14 = .ok (.getfield 19, 3) := by decide +kernel
theorem dX10_sum_17 : decode cX10_sum 17 = .ok (.invokevirtual 56, 3) := by decide +kernel
theorem dX10_sum_20 : decode cX10_sum 20 = .ok (.sipush 512, 3) := by decide +kernel
theorem dX10_sum_23 : decode cX10_sum 23 = .ok (.isub, 1) := by decide +kernel
theorem dX10_sum_24 : decode cX10_sum 24 = .ok (.if_icmp .le 5, 3) := by decide +kernel
theorem dX10_sum_27 : decode cX10_sum 27 = .ok (.iconst (-1), 1) := by decide +kernel
theorem dX10_sum_28 : decode cX10_sum 28 = .ok (.ireturn, 1) := by decide +kernel
theorem dX10_sum_29 : decode cX10_sum 29 = .ok (.aload_n 0, 1) := by decide +kernel
theorem dX10_sum_30 : decode cX10_sum 30 = .ok (.getfield 37, 3) := by decide +kernel
theorem dX10_sum_33 : decode cX10_sum 33 = .ok (.iload_n 1, 1) := by decide +kernel
theorem dX10_sum_34 : decode cX10_sum 34 = .ok (.invokevirtual 132, 3) := by decide +kernel
theorem dX10_sum_37 : decode cX10_sum 37 = .ok (.ireturn, 1) := by decide +kernel
theorem dX10_octet_0 : decode cX10_octet 0 = .ok (.aload_n 0, 1) := by decide +kernel
theorem dX10_octet_1 : decode cX10_octet 1 = .ok (.getfield 19, 3) := by decide +kernel
theorem dX10_octet_4 : decode cX10_octet 4 = .ok (.iload_n 1, 1) := by decide +kernel
theorem dX10_octet_5 : decode cX10_octet 5 = .ok (.invokevirtual 125, 3) := by decide +kernel
theorem dX10_octet_8 : decode cX10_octet 8 = .ok (.ireturn, 1) := by decide +kernel
theorem dX10_read_0 : decode cX10_read 0 = .ok (.aload_n 0, 1) := by decide +kernel
theorem dX10_read_1 : decode cX10_read 1 = .ok (.getfield 44, 3) := by decide +kernel
theorem dX10_read_4 : decode cX10_read 4 = .ok (.iload_n 1, 1) := by decide +kernel
theorem dX10_read_5 : decode cX10_read 5 = .ok (.invokevirtual 135, 3) := by decide +kernel
theorem dX10_read_8 : decode cX10_read 8 = .ok (.ireturn, 1) := by decide +kernel
theorem dX10_told_0 : decode cX10_told 0 = .ok (.iload_n 1, 1) := by decide +kernel
theorem dX10_told_1 : decode cX10_told 1 = .ok (.tableswitch 102 0 6 #[43, 54, 65, 73, 81, 89, 94], 43) := by decide +kernel
theorem dX10_told_44 : decode cX10_told 44 = .ok (.aload_n 0, 1) := by decide +kernel
theorem dX10_told_45 : decode cX10_told 45 = .ok (.getfield 44, 3) := by decide +kernel
theorem dX10_told_48 : decode cX10_told 48 = .ok (.getfield 139, 3) := by decide +kernel
theorem dX10_told_51 : decode cX10_told 51 = .ok (.getfield 143, 3) := by decide +kernel
theorem dX10_told_54 : decode cX10_told 54 = .ok (.ireturn, 1) := by decide +kernel
theorem dX10_told_55 : decode cX10_told 55 = .ok (.aload_n 0, 1) := by decide +kernel
theorem dX10_told_56 : decode cX10_told 56 = .ok (.getfield 44, 3) := by decide +kernel
theorem dX10_told_59 : decode cX10_told 59 = .ok (.getfield 139, 3) := by decide +kernel
theorem dX10_told_62 : decode cX10_told 62 = .ok (.getfield 146, 3) := by decide +kernel
theorem dX10_told_65 : decode cX10_told 65 = .ok (.ireturn, 1) := by decide +kernel
theorem dX10_told_66 : decode cX10_told 66 = .ok (.aload_n 0, 1) := by decide +kernel
theorem dX10_told_67 : decode cX10_told 67 = .ok (.getfield 44, 3) := by decide +kernel
theorem dX10_told_70 : decode cX10_told 70 = .ok (.getfield 149, 3) := by decide +kernel
theorem dX10_told_73 : decode cX10_told 73 = .ok (.ireturn, 1) := by decide +kernel
theorem dX10_told_74 : decode cX10_told 74 = .ok (.aload_n 0, 1) := by decide +kernel
theorem dX10_told_75 : decode cX10_told 75 = .ok (.getfield 44, 3) := by decide +kernel
theorem dX10_told_78 : decode cX10_told 78 = .ok (.getfield 152, 3) := by decide +kernel
theorem dX10_told_81 : decode cX10_told 81 = .ok (.ireturn, 1) := by decide +kernel
theorem dX10_told_82 : decode cX10_told 82 = .ok (.aload_n 0, 1) := by decide +kernel
theorem dX10_told_83 : decode cX10_told 83 = .ok (.getfield 19, 3) := by decide +kernel
theorem dX10_told_86 : decode cX10_told 86 = .ok (.invokevirtual 56, 3) := by decide +kernel
theorem dX10_told_89 : decode cX10_told 89 = .ok (.ireturn, 1) := by decide +kernel
theorem dX10_told_90 : decode cX10_told 90 = .ok (.aload_n 0, 1) := by decide +kernel
theorem dX10_told_91 : decode cX10_told 91 = .ok (.getfield 28, 3) := by decide +kernel
theorem dX10_told_94 : decode cX10_told 94 = .ok (.ireturn, 1) := by decide +kernel
theorem dX10_told_95 : decode cX10_told 95 = .ok (.aload_n 0, 1) := by decide +kernel
theorem dX10_told_96 : decode cX10_told 96 = .ok (.getfield 14, 3) := by decide +kernel
theorem dX10_told_99 : decode cX10_told 99 = .ok (.invokevirtual 56, 3) := by decide +kernel
theorem dX10_told_102 : decode cX10_told 102 = .ok (.ireturn, 1) := by decide +kernel
theorem dX10_told_103 : decode cX10_told 103 = .ok (.iconst (-1), 1) := by decide +kernel
theorem dX10_told_104 : decode cX10_told 104 = .ok (.ireturn, 1) := by decide +kernel
theorem dX10_found_0 : decode cX10_found 0 = .ok (.aload_n 0, 1) := by decide +kernel
theorem dX10_found_1 : decode cX10_found 1 = .ok (.getfield 44, 3) := by decide +kernel
theorem dX10_found_4 : decode cX10_found 4 = .ok (.iload_n 1, 1) := by decide +kernel
theorem dX10_found_5 : decode cX10_found 5 = .ok (.invokevirtual 155, 3) := by decide +kernel
theorem dX10_found_8 : decode cX10_found 8 = .ok (.astore_n 3, 1) := by decide +kernel
theorem dX10_found_9 : decode cX10_found 9 = .ok (.aload_n 3, 1) := by decide +kernel
theorem dX10_found_10 : decode cX10_found 10 = .ok (.ifnull 16, 3) := by decide +kernel
theorem dX10_found_13 : decode cX10_found 13 = .ok (.iload_n 2, 1) := by decide +kernel
theorem dX10_found_14 : decode cX10_found 14 = .ok (.ifCond .lt 12, 3) := by decide +kernel
theorem dX10_found_17 : decode cX10_found 17 = .ok (.iload_n 2, 1) := by decide +kernel
theorem dX10_found_18 : decode cX10_found 18 = .ok (.aload_n 3, 1) := by decide +kernel
theorem dX10_found_19 : decode cX10_found 19 = .ok (.getfield 158, 3) := by decide +kernel
theorem dX10_found_22 : decode cX10_found 22 = .ok (.arraylength, 1) := by decide +kernel
theorem dX10_found_23 : decode cX10_found 23 = .ok (.if_icmp .lt 7, 3) := by decide +kernel
theorem dX10_found_26 : decode cX10_found 26 = .ok (.ldc2_w 163, 3) := by decide +kernel
theorem dX10_found_29 : decode cX10_found 29 = .ok (.lreturn, 1) := by decide +kernel
theorem dX10_found_30 : decode cX10_found 30 = .ok (.aload_n 3, 1) := by decide +kernel
theorem dX10_found_31 : decode cX10_found 31 = .ok (.getfield 158, 3) := by decide +kernel
theorem dX10_found_34 : decode cX10_found 34 = .ok (.iload_n 2, 1) := by decide +kernel
theorem dX10_found_35 : decode cX10_found 35 = .ok (.laload, 1) := by decide +kernel
theorem dX10_found_36 : decode cX10_found 36 = .ok (.lreturn, 1) := by decide +kernel
theorem dX10_letter_0 : decode cX10_letter 0 = .ok (.aload_n 0, 1) := by decide +kernel
theorem dX10_letter_1 : decode cX10_letter 1 = .ok (.getfield 44, 3) := by decide +kernel
theorem dX10_letter_4 : decode cX10_letter 4 = .ok (.iload_n 1, 1) := by decide +kernel
theorem dX10_letter_5 : decode cX10_letter 5 = .ok (.invokevirtual 155, 3) := by decide +kernel
theorem dX10_letter_8 : decode cX10_letter 8 = .ok (.astore 4, 2) := by decide +kernel
theorem dX10_letter_10 : decode cX10_letter 10 = .ok (.aload 4, 2) := by decide +kernel
theorem dX10_letter_12 : decode cX10_letter 12 = .ok (.ifnonnull 5, 3) := by decide +kernel
theorem dX10_letter_15 : decode cX10_letter 15 = .ok (.iconst (-1), 1) := by decide +kernel
theorem dX10_letter_16 : decode cX10_letter 16 = .ok (.ireturn, 1) := by decide +kernel
theorem dX10_letter_17 : decode cX10_letter 17 = .ok (.iload_n 2, 1) := by decide +kernel
theorem dX10_letter_18 : decode cX10_letter 18 = .ok (.ifCond .eq 15, 3) := by decide +kernel
theorem dX10_letter_21 : decode cX10_letter 21 = .ok (.aload 4, 2) := by decide +kernel
theorem dX10_letter_23 : decode cX10_letter 23 = .ok (.getfield 165, 3) := by decide +kernel
theorem dX10_letter_26 : decode cX10_letter 26 = .ok (.iload_n 3, 1) := by decide +kernel
theorem dX10_letter_27 : decode cX10_letter 27 = .ok (.invokevirtual 125, 3) := by decide +kernel
theorem dX10_letter_30 : decode cX10_letter 30 = .ok (.goto 12, 3) := by decide +kernel
theorem dX10_letter_33 : decode cX10_letter 33 = .ok (.aload 4, 2) := by decide +kernel
theorem dX10_letter_35 : decode cX10_letter 35 = .ok (.getfield 166, 3) := by decide +kernel
theorem dX10_letter_38 : decode cX10_letter 38 = .ok (.iload_n 3, 1) := by decide +kernel
theorem dX10_letter_39 : decode cX10_letter 39 = .ok (.invokevirtual 125, 3) := by decide +kernel
theorem dX10_letter_42 : decode cX10_letter 42 = .ok (.ireturn, 1) := by decide +kernel
theorem dX10_draft_0 : decode cX10_draft 0 = .ok (.aload_n 0, 1) := by decide +kernel
theorem dX10_draft_1 : decode cX10_draft 1 = .ok (.getfield 24, 3) := by decide +kernel
theorem dX10_draft_4 : decode cX10_draft 4 = .ok (.aload_n 0, 1) := by decide +kernel
theorem dX10_draft_5 : decode cX10_draft 5 = .ok (.getfield 28, 3) := by decide +kernel
theorem dX10_draft_8 : decode cX10_draft 8 = .ok (.iconst 0, 1) := by decide +kernel
theorem dX10_draft_9 : decode cX10_draft 9 = .ok (.invokestatic 167, 3) := by decide +kernel
theorem dX10_draft_12 : decode cX10_draft 12 = .ok (.bipush 8, 2) := by decide +kernel
theorem dX10_draft_14 : decode cX10_draft 14 = .ok (.invokestatic 173, 3) := by decide +kernel
theorem dX10_draft_17 : decode cX10_draft 17 = .ok (.aaload, 1) := by decide +kernel
theorem dX10_draft_18 : decode cX10_draft 18 = .ok (.areturn, 1) := by decide +kernel
theorem dX10_firstNotOf_0 : decode cX10_firstNotOf 0 = .ok (.iconst 0, 1) := by decide +kernel
theorem dX10_firstNotOf_1 : decode cX10_firstNotOf 1 = .ok (.istore_n 2, 1) := by decide +kernel
theorem dX10_firstNotOf_2 : decode cX10_firstNotOf 2 = .ok (.iload_n 2, 1) := by decide +kernel
theorem dX10_firstNotOf_3 : decode cX10_firstNotOf 3 = .ok (.aload_n 0, 1) := by decide +kernel
theorem dX10_firstNotOf_4 : decode cX10_firstNotOf 4 = .ok (.getfield 28, 3) := by decide +kernel
theorem dX10_firstNotOf_7 : decode cX10_firstNotOf 7 = .ok (.if_icmp .ge 33, 3) := by decide +kernel
theorem dX10_firstNotOf_10 : decode cX10_firstNotOf 10 = .ok (.iload_n 2, 1) := by decide +kernel
theorem dX10_firstNotOf_11 : decode cX10_firstNotOf 11 = .ok (.aload_n 0, 1) := by decide +kernel
theorem dX10_firstNotOf_12 : decode cX10_firstNotOf 12 = .ok (.getfield 24, 3) := by decide +kernel
theorem dX10_firstNotOf_15 : decode cX10_firstNotOf 15 = .ok (.arraylength, 1) := by decide +kernel
theorem dX10_firstNotOf_16 : decode cX10_firstNotOf 16 = .ok (.if_icmp .ge 24, 3) := by decide +kernel
theorem dX10_firstNotOf_19 : decode cX10_firstNotOf 19 = .ok (.aload_n 0, 1) := by decide +kernel
theorem dX10_firstNotOf_20 : decode cX10_firstNotOf 20 = .ok (.getfield 24, 3) := by decide +kernel
theorem dX10_firstNotOf_23 : decode cX10_firstNotOf 23 = .ok (.iload_n 2, 1) := by decide +kernel
theorem dX10_firstNotOf_24 : decode cX10_firstNotOf 24 = .ok (.aaload, 1) := by decide +kernel
theorem dX10_firstNotOf_25 : decode cX10_firstNotOf 25 = .ok (.iload_n 1, 1) := by decide +kernel
theorem dX10_firstNotOf_26 : decode cX10_firstNotOf 26 = .ok (.invokevirtual 176, 3) := by decide +kernel
theorem dX10_firstNotOf_29 : decode cX10_firstNotOf 29 = .ok (.ifCond .ne 5, 3) := by decide +kernel
theorem dX10_firstNotOf_32 : decode cX10_firstNotOf 32 = .ok (.iload_n 2, 1) := by decide +kernel
theorem dX10_firstNotOf_33 : decode cX10_firstNotOf 33 = .ok (.ireturn, 1) := by decide +kernel
theorem dX10_firstNotOf_34 : decode cX10_firstNotOf 34 = .ok (.iinc 2 1, 3) := by decide +kernel
theorem dX10_firstNotOf_37 : decode cX10_firstNotOf 37 = .ok (.goto (-35), 3) := by decide +kernel
theorem dX10_firstNotOf_40 : decode cX10_firstNotOf 40 = .ok (.aload_n 0, 1) := by decide +kernel
theorem dX10_firstNotOf_41 : decode cX10_firstNotOf 41 = .ok (.getfield 28, 3) := by decide +kernel
theorem dX10_firstNotOf_44 : decode cX10_firstNotOf 44 = .ok (.ireturn, 1) := by decide +kernel
theorem dX10_lengthWritten_0 : decode cX10_lengthWritten 0 = .ok (.sipush 1024, 3) := by decide +kernel
theorem dX10_lengthWritten_3 : decode cX10_lengthWritten 3 = .ok (.istore_n 2, 1) := by decide +kernel
theorem dX10_lengthWritten_4 : decode cX10_lengthWritten 4 = .ok (.iconst 0, 1) := by decide +kernel
theorem dX10_lengthWritten_5 : decode cX10_lengthWritten 5 = .ok (.istore_n 3, 1) := by decide +kernel
theorem dX10_lengthWritten_6 : decode cX10_lengthWritten 6 = .ok (.iload_n 3, 1) := by decide +kernel
theorem dX10_lengthWritten_7 : decode cX10_lengthWritten 7 = .ok (.aload_n 0, 1) := by decide +kernel
theorem dX10_lengthWritten_8 : decode cX10_lengthWritten 8 = .ok (.getfield 28, 3) := by decide +kernel
theorem dX10_lengthWritten_11 : decode cX10_lengthWritten 11 = .ok (.if_icmp .ge 35, 3) := by decide +kernel
theorem dX10_lengthWritten_14 : decode cX10_lengthWritten 14 = .ok (.iload_n 3, 1) := by decide +kernel
theorem dX10_lengthWritten_15 : decode cX10_lengthWritten 15 = .ok (.aload_n 0, 1) := by decide +kernel
theorem dX10_lengthWritten_16 : decode cX10_lengthWritten 16 = .ok (.getfield 24, 3) := by decide +kernel
theorem dX10_lengthWritten_19 : decode cX10_lengthWritten 19 = .ok (.arraylength, 1) := by decide +kernel
theorem dX10_lengthWritten_20 : decode cX10_lengthWritten 20 = .ok (.if_icmp .ge 26, 3) := by decide +kernel
theorem dX10_lengthWritten_23 : decode cX10_lengthWritten 23 = .ok (.iload_n 2, 1) := by decide +kernel
theorem dX10_lengthWritten_24 : decode cX10_lengthWritten 24 = .ok (.aload_n 0, 1) := by decide +kernel
theorem dX10_lengthWritten_25 : decode cX10_lengthWritten 25 = .ok (.getfield 37, 3) := by decide +kernel
theorem dX10_lengthWritten_28 : decode cX10_lengthWritten 28 = .ok (.aload_n 0, 1) := by decide +kernel
theorem dX10_lengthWritten_29 : decode cX10_lengthWritten 29 = .ok (.getfield 24, 3) := by decide +kernel
theorem dX10_lengthWritten_32 : decode cX10_lengthWritten 32 = .ok (.iload_n 3, 1) := by decide +kernel
theorem dX10_lengthWritten_33 : decode cX10_lengthWritten 33 = .ok (.aaload, 1) := by decide +kernel
theorem dX10_lengthWritten_34 : decode cX10_lengthWritten 34 = .ok (.iload_n 1, 1) := by decide +kernel
theorem dX10_lengthWritten_35 : decode cX10_lengthWritten 35 = .ok (.invokevirtual 179, 3) := by decide +kernel
theorem dX10_lengthWritten_38 : decode cX10_lengthWritten 38 = .ok (.iadd, 1) := by decide +kernel
theorem dX10_lengthWritten_39 : decode cX10_lengthWritten 39 = .ok (.istore_n 2, 1) := by decide +kernel
theorem dX10_lengthWritten_40 : decode cX10_lengthWritten 40 = .ok (.iinc 3 1, 3) := by decide +kernel
theorem dX10_lengthWritten_43 : decode cX10_lengthWritten 43 = .ok (.goto (-37), 3) := by decide +kernel
theorem dX10_lengthWritten_46 : decode cX10_lengthWritten 46 = .ok (.iload_n 2, 1) := by decide +kernel
theorem dX10_lengthWritten_47 : decode cX10_lengthWritten 47 = .ok (.ireturn, 1) := by decide +kernel
theorem dX10_keepFirst_0 : decode cX10_keepFirst 0 = .ok (.aload_n 0, 1) := by decide +kernel
theorem dX10_keepFirst_1 : decode cX10_keepFirst 1 = .ok (.invokevirtual 56, 3) := by decide +kernel
theorem dX10_keepFirst_4 : decode cX10_keepFirst 4 = .ok (.istore_n 2, 1) := by decide +kernel
theorem dX10_keepFirst_5 : decode cX10_keepFirst 5 = .ok (.iload_n 1, 1) := by decide +kernel
theorem dX10_keepFirst_6 : decode cX10_keepFirst 6 = .ok (.ifCond .lt 8, 3) := by decide +kernel
theorem dX10_keepFirst_9 : decode cX10_keepFirst 9 = .ok (.iload_n 1, 1) := by decide +kernel
theorem dX10_keepFirst_10 : decode cX10_keepFirst 10 = .ok (.iload_n 2, 1) := by decide +kernel
theorem dX10_keepFirst_11 : decode cX10_keepFirst 11 = .ok (.if_icmp .le 5, 3) := by decide +kernel
theorem dX10_keepFirst_14 : decode cX10_keepFirst 14 = .ok (.iconst (-1), 1) := by decide +kernel
theorem dX10_keepFirst_15 : decode cX10_keepFirst 15 = .ok (.ireturn, 1) := by decide +kernel
theorem dX10_keepFirst_16 : decode cX10_keepFirst 16 = .ok (.aload_n 0, 1) := by decide +kernel
theorem dX10_keepFirst_17 : decode cX10_keepFirst 17 = .ok (.iload_n 1, 1) := by decide +kernel
theorem dX10_keepFirst_18 : decode cX10_keepFirst 18 = .ok (.invokevirtual 115, 3) := by decide +kernel
theorem dX10_keepFirst_21 : decode cX10_keepFirst 21 = .ok (.iload_n 2, 1) := by decide +kernel
theorem dX10_keepFirst_22 : decode cX10_keepFirst 22 = .ok (.iload_n 1, 1) := by decide +kernel
theorem dX10_keepFirst_23 : decode cX10_keepFirst 23 = .ok (.isub, 1) := by decide +kernel
theorem dX10_keepFirst_24 : decode cX10_keepFirst 24 = .ok (.ireturn, 1) := by decide +kernel
theorem dX10_isEntryKind_0 : decode cX10_isEntryKind 0 = .ok (.iload_n 0, 1) := by decide +kernel
theorem dX10_isEntryKind_1 : decode cX10_isEntryKind 1 = .ok (.bipush 48, 2) := by decide +kernel
theorem dX10_isEntryKind_3 : decode cX10_isEntryKind 3 = .ok (.if_icmp .eq 21, 3) := by decide +kernel
theorem dX10_isEntryKind_6 : decode cX10_isEntryKind 6 = .ok (.iload_n 0, 1) := by decide +kernel
theorem dX10_isEntryKind_7 : decode cX10_isEntryKind 7 = .ok (.bipush 49, 2) := by decide +kernel
theorem dX10_isEntryKind_9 : decode cX10_isEntryKind 9 = .ok (.if_icmp .eq 15, 3) := by decide +kernel
theorem dX10_isEntryKind_12 : decode cX10_isEntryKind 12 = .ok (.iload_n 0, 1) := by decide +kernel
theorem dX10_isEntryKind_13 : decode cX10_isEntryKind 13 = .ok (.bipush 50, 2) := by decide +kernel
theorem dX10_isEntryKind_15 : decode cX10_isEntryKind 15 = .ok (.if_icmp .eq 9, 3) := by decide +kernel
theorem dX10_isEntryKind_18 : decode cX10_isEntryKind 18 = .ok (.iload_n 0, 1) := by decide +kernel
theorem dX10_isEntryKind_19 : decode cX10_isEntryKind 19 = .ok (.bipush 53, 2) := by decide +kernel
theorem dX10_isEntryKind_21 : decode cX10_isEntryKind 21 = .ok (.if_icmp .ne 7, 3) := by decide +kernel
theorem dX10_isEntryKind_24 : decode cX10_isEntryKind 24 = .ok (.iconst 1, 1) := by decide +kernel
theorem dX10_isEntryKind_25 : decode cX10_isEntryKind 25 = .ok (.goto 4, 3) := by decide +kernel
theorem dX10_isEntryKind_28 : decode cX10_isEntryKind 28 = .ok (.iconst 0, 1) := by decide +kernel
theorem dX10_isEntryKind_29 : decode cX10_isEntryKind 29 = .ok (.ireturn, 1) := by decide +kernel
theorem dX10_filled_0 : decode cX10_filled 0 = .ok (.iload_n 0, 1) := by decide +kernel
theorem dX10_filled_1 : decode cX10_filled 1 = .ok (.sipush 512, 3) := by decide +kernel
theorem dX10_filled_4 : decode cX10_filled 4 = .ok (.iadd, 1) := by decide +kernel
theorem dX10_filled_5 : decode cX10_filled 5 = .ok (.iconst 1, 1) := by decide +kernel
theorem dX10_filled_6 : decode cX10_filled 6 = .ok (.isub, 1) := by decide +kernel
theorem dX10_filled_7 : decode cX10_filled 7 = .ok (.sipush 512, 3) := by decide +kernel
theorem dX10_filled_10 : decode cX10_filled 10 = .ok (.idiv, 1) := by decide +kernel
theorem dX10_filled_11 : decode cX10_filled 11 = .ok (.sipush 512, 3) := by decide +kernel
theorem dX10_filled_14 : decode cX10_filled 14 = .ok (.imul, 1) := by decide +kernel
theorem dX10_filled_15 : decode cX10_filled 15 = .ok (.ireturn, 1) := by decide +kernel
theorem dX10_sumOf_0 : decode cX10_sumOf 0 = .ok (.iconst 0, 1) := by decide +kernel
theorem dX10_sumOf_1 : decode cX10_sumOf 1 = .ok (.istore_n 3, 1) := by decide +kernel
theorem dX10_sumOf_2 : decode cX10_sumOf 2 = .ok (.iconst 0, 1) := by decide +kernel
theorem dX10_sumOf_3 : decode cX10_sumOf 3 = .ok (.istore 4, 2) := by decide +kernel
theorem dX10_sumOf_5 : decode cX10_sumOf 5 = .ok (.iload 4, 2) := by decide +kernel
theorem dX10_sumOf_7 : decode cX10_sumOf 7 = .ok (.sipush 512, 3) := by decide +kernel
theorem dX10_sumOf_10 : decode cX10_sumOf 10 = .ok (.if_icmp .ge 54, 3) := by decide +kernel
theorem dX10_sumOf_13 : decode cX10_sumOf 13 = .ok (.aload_n 0, 1) := by decide +kernel
theorem dX10_sumOf_14 : decode cX10_sumOf 14 = .ok (.iload_n 1, 1) := by decide +kernel
theorem dX10_sumOf_15 : decode cX10_sumOf 15 = .ok (.iload 4, 2) := by decide +kernel
theorem dX10_sumOf_17 : decode cX10_sumOf 17 = .ok (.iadd, 1) := by decide +kernel
theorem dX10_sumOf_18 : decode cX10_sumOf 18 = .ok (.invokevirtual 125, 3) := by decide +kernel
theorem dX10_sumOf_21 : decode cX10_sumOf 21 = .ok (.istore 5, 2) := by decide +kernel
theorem dX10_sumOf_23 : decode cX10_sumOf 23 = .ok (.iload 4, 2) := by decide +kernel
theorem dX10_sumOf_25 : decode cX10_sumOf 25 = .ok (.sipush 148, 3) := by decide +kernel
theorem dX10_sumOf_28 : decode cX10_sumOf 28 = .ok (.if_icmp .lt 15, 3) := by decide +kernel
theorem dX10_sumOf_31 : decode cX10_sumOf 31 = .ok (.iload 4, 2) := by decide +kernel
theorem dX10_sumOf_33 : decode cX10_sumOf 33 = .ok (.sipush 156, 3) := by decide +kernel
theorem dX10_sumOf_36 : decode cX10_sumOf 36 = .ok (.if_icmp .ge 7, 3) := by decide +kernel
theorem dX10_sumOf_39 : decode cX10_sumOf 39 = .ok (.bipush 32, 2) := by decide +kernel
theorem dX10_sumOf_41 : decode cX10_sumOf 41 = .ok (.istore 5, 2) := by decide +kernel
theorem dX10_sumOf_43 : decode cX10_sumOf 43 = .ok (.iload_n 3, 1) := by decide +kernel
theorem dX10_sumOf_44 : decode cX10_sumOf 44 = .ok (.iload_n 2, 1) := by decide +kernel
theorem dX10_sumOf_45 : decode cX10_sumOf 45 = .ok (.ifCond .eq 9, 3) := by decide +kernel
theorem dX10_sumOf_48 : decode cX10_sumOf 48 = .ok (.iload 5, 2) := by decide +kernel
theorem dX10_sumOf_50 : decode cX10_sumOf 50 = .ok (.i2b, 1) := by decide +kernel
theorem dX10_sumOf_51 : decode cX10_sumOf 51 = .ok (.goto 5, 3) := by decide +kernel
theorem dX10_sumOf_54 : decode cX10_sumOf 54 = .ok (.iload 5, 2) := by decide +kernel
theorem dX10_sumOf_56 : decode cX10_sumOf 56 = .ok (.iadd, 1) := by decide +kernel
theorem dX10_sumOf_57 : decode cX10_sumOf 57 = .ok (.istore_n 3, 1) := by decide +kernel
theorem dX10_sumOf_58 : decode cX10_sumOf 58 = .ok (.iinc 4 1, 3) := by decide +kernel
theorem dX10_sumOf_61 : decode cX10_sumOf 61 = .ok (.goto (-56), 3) := by decide +kernel
theorem dX10_sumOf_64 : decode cX10_sumOf 64 = .ok (.iload_n 3, 1) := by decide +kernel
theorem dX10_sumOf_65 : decode cX10_sumOf 65 = .ok (.ireturn, 1) := by decide +kernel
theorem dX11_feed_0 : decode cX11_feed 0 = .ok (.aload_n 0, 1) := by decide +kernel
theorem dX11_feed_1 : decode cX11_feed 1 = .ok (.getfield 1, 3) := by decide +kernel
theorem dX11_feed_4 : decode cX11_feed 4 = .ok (.bipush 16, 2) := by decide +kernel
theorem dX11_feed_6 : decode cX11_feed 6 = .ok (.iadd, 1) := by decide +kernel
theorem dX11_feed_7 : decode cX11_feed 7 = .ok (.sipush 512, 3) := by decide +kernel
theorem dX11_feed_10 : decode cX11_feed 10 = .ok (.if_icmp .le 6, 3) := by decide +kernel
theorem dX11_feed_13 : decode cX11_feed 13 = .ok (.bipush (-3), 2) := by decide +kernel
theorem dX11_feed_15 : decode cX11_feed 15 = .ok (.ireturn, 1) := by decide +kernel
theorem dX11_feed_16 : decode cX11_feed 16 = .ok (.iconst 0, 1) := by decide +kernel
theorem dX11_feed_17 : decode cX11_feed 17 = .ok (.istore 5, 2) := by decide +kernel
theorem dX11_feed_19 : decode cX11_feed 19 = .ok (.iload 5, 2) := by decide +kernel
theorem dX11_feed_21 : decode cX11_feed 21 = .ok (.bipush 16, 2) := by decide +kernel
theorem dX11_feed_23 : decode cX11_feed 23 = .ok (.if_icmp .ge 74, 3) := by decide +kernel
theorem dX11_feed_26 : decode cX11_feed 26 = .ok (.aload_n 0, 1) := by decide +kernel
theorem dX11_feed_27 : decode cX11_feed 27 = .ok (.getfield 7, 3) := by decide +kernel
theorem dX11_feed_30 : decode cX11_feed 30 = .ok (.aload_n 0, 1) := by decide +kernel
theorem dX11_feed_31 : decode cX11_feed 31 = .ok (.dup, 1) := by decide +kernel
theorem dX11_feed_32 : decode cX11_feed 32 = .ok (.getfield 1, 3) := by decide +kernel
theorem dX11_feed_35 : decode cX11_feed 35 = .ok (.dup_x1, 1) := by decide +kernel
theorem dX11_feed_36 : decode cX11_feed 36 = .ok (.iconst 1, 1) := by decide +kernel
theorem dX11_feed_37 : decode cX11_feed 37 = .ok (.iadd, 1) := by decide +kernel
theorem dX11_feed_38 : decode cX11_feed 38 = .ok (.putfield 1, 3) := by decide +kernel
theorem dX11_feed_41 : decode cX11_feed 41 = .ok (.iload 5, 2) := by decide +kernel
theorem dX11_feed_43 : decode cX11_feed 43 = .ok (.iconst 4, 1) := by decide +kernel
theorem dX11_feed_44 : decode cX11_feed 44 = .ok (.if_icmp .ge 7, 3) := by decide +kernel
theorem dX11_feed_47 : decode cX11_feed 47 = .ok (.iload_n 1, 1) := by decide +kernel
theorem dX11_feed_48 : decode cX11_feed 48 = .ok (.goto 27, 3) := by decide +kernel
theorem dX11_feed_51 : decode cX11_feed 51 = .ok (.iload 5, 2) := by decide +kernel
theorem dX11_feed_53 : decode cX11_feed 53 = .ok (.bipush 8, 2) := by decide +kernel
theorem dX11_feed_55 : decode cX11_feed 55 = .ok (.if_icmp .ge 7, 3) := by decide +kernel
theorem dX11_feed_58 : decode cX11_feed 58 = .ok (.iload_n 2, 1) := by decide +kernel
theorem dX11_feed_59 : decode cX11_feed 59 = .ok (.goto 16, 3) := by decide +kernel
theorem dX11_feed_62 : decode cX11_feed 62 = .ok (.iload 5, 2) := by decide +kernel
theorem dX11_feed_64 : decode cX11_feed 64 = .ok (.bipush 12, 2) := by decide +kernel
theorem dX11_feed_66 : decode cX11_feed 66 = .ok (.if_icmp .ge 7, 3) := by decide +kernel
theorem dX11_feed_69 : decode cX11_feed 69 = .ok (.iload_n 3, 1) := by decide +kernel
theorem dX11_feed_70 : decode cX11_feed 70 = .ok (.goto 5, 3) := by decide +kernel
theorem dX11_feed_73 : decode cX11_feed 73 = .ok (.iload 4, 2) := by decide +kernel
theorem dX11_feed_75 : decode cX11_feed 75 = .ok (.bipush 24, 2) := by decide +kernel
theorem dX11_feed_77 : decode cX11_feed 77 = .ok (.bipush 8, 2) := by decide +kernel
theorem dX11_feed_79 : decode cX11_feed 79 = .ok (.iload 5, 2) := by decide +kernel
theorem dX11_feed_81 : decode cX11_feed 81 = .ok (.iconst 4, 1) := by decide +kernel
theorem dX11_feed_82 : decode cX11_feed 82 = .ok (.irem, 1) := by decide +kernel
theorem dX11_feed_83 : decode cX11_feed 83 = .ok (.imul, 1) := by decide +kernel
theorem dX11_feed_84 : decode cX11_feed 84 = .ok (.isub, 1) := by decide +kernel
theorem dX11_feed_85 : decode cX11_feed 85 = .ok (.ishr, 1) := by decide +kernel
theorem dX11_feed_86 : decode cX11_feed 86 = .ok (.sipush 255, 3) := by decide +kernel
theorem dX11_feed_89 : decode cX11_feed 89 = .ok (.iand, 1) := by decide +kernel
theorem dX11_feed_90 : decode cX11_feed 90 = .ok (.iastore, 1) := by decide +kernel
theorem dX11_feed_91 : decode cX11_feed 91 = .ok (.iinc 5 1, 3) := by decide +kernel
theorem dX11_feed_94 : decode cX11_feed 94 = .ok (.goto (-75), 3) := by decide +kernel
theorem dX11_feed_97 : decode cX11_feed 97 = .ok (.aload_n 0, 1) := by decide +kernel
theorem dX11_feed_98 : decode cX11_feed 98 = .ok (.getfield 1, 3) := by decide +kernel
theorem dX11_feed_101 : decode cX11_feed 101 = .ok (.ireturn, 1) := by decide +kernel
theorem dX11_cut_0 : decode cX11_cut 0 = .ok (.iload_n 1, 1) := by decide +kernel
theorem dX11_cut_1 : decode cX11_cut 1 = .ok (.ifCond .lt 11, 3) := by decide +kernel
theorem dX11_cut_4 : decode cX11_cut 4 = .ok (.iload_n 1, 1) := by decide +kernel
theorem dX11_cut_5 : decode cX11_cut 5 = .ok (.aload_n 0, 1) := by decide +kernel
theorem dX11_cut_6 : decode cX11_cut 6 = .ok (.getfield 1, 3) := by decide +kernel
theorem dX11_cut_9 : decode cX11_cut 9 = .ok (.if_icmp .le 5, 3) := by decide +kernel
theorem dX11_cut_12 : decode cX11_cut 12 = .ok (.iconst (-1), 1) := by decide +kernel
theorem dX11_cut_13 : decode cX11_cut 13 = .ok (.ireturn, 1) := by decide +kernel
theorem dX11_cut_14 : decode cX11_cut 14 = .ok (.aload_n 0, 1) := by decide +kernel
theorem dX11_cut_15 : decode cX11_cut 15 = .ok (.getfield 1, 3) := by decide +kernel
theorem dX11_cut_18 : decode cX11_cut 18 = .ok (.iload_n 1, 1) := by decide +kernel
theorem dX11_cut_19 : decode cX11_cut 19 = .ok (.isub, 1) := by decide +kernel
theorem dX11_cut_20 : decode cX11_cut 20 = .ok (.istore_n 2, 1) := by decide +kernel
theorem dX11_cut_21 : decode cX11_cut 21 = .ok (.aload_n 0, 1) := by decide +kernel
theorem dX11_cut_22 : decode cX11_cut 22 = .ok (.iload_n 1, 1) := by decide +kernel
theorem dX11_cut_23 : decode cX11_cut 23 = .ok (.putfield 1, 3) := by decide +kernel
theorem dX11_cut_26 : decode cX11_cut 26 = .ok (.iload_n 2, 1) := by decide +kernel
theorem dX11_cut_27 : decode cX11_cut 27 = .ok (.ireturn, 1) := by decide +kernel
theorem dX11_init_0 : decode cX11_init 0 = .ok (.aload_n 0, 1) := by decide +kernel
theorem dX11_init_1 : decode cX11_init 1 = .ok (.invokespecial 11, 3) := by decide +kernel
theorem dX11_init_4 : decode cX11_init 4 = .ok (.aload_n 0, 1) := by decide +kernel
theorem dX11_init_5 : decode cX11_init 5 = .ok (.sipush 512, 3) := by decide +kernel
theorem dX11_init_8 : decode cX11_init 8 = .ok (.newarray .int, 2) := by decide +kernel
theorem dX11_init_10 : decode cX11_init 10 = .ok (.putfield 7, 3) := by decide +kernel
theorem dX11_init_13 : decode cX11_init 13 = .ok (.aload_n 0, 1) := by decide +kernel
theorem dX11_init_14 : decode cX11_init 14 = .ok (.bipush 9, 2) := by decide +kernel
theorem dX11_init_16 : decode cX11_init 16 = .ok (.newarray .int, 2) := by decide +kernel
theorem dX11_init_18 : decode cX11_init 18 = .ok (.putfield 17, 3) := by decide +kernel
theorem dX11_init_21 : decode cX11_init 21 = .ok (.aload_n 0, 1) := by decide +kernel
theorem dX11_init_22 : decode cX11_init 22 = .ok (.sipush 3600, 3) := by decide +kernel
theorem dX11_init_25 : decode cX11_init 25 = .ok (.newarray .int, 2) := by decide +kernel
theorem dX11_init_27 : decode cX11_init 27 = .ok (.putfield 20, 3) := by decide +kernel
theorem dX11_init_30 : decode cX11_init 30 = .ok (.aload_n 0, 1) := by decide +kernel
theorem dX11_init_31 : decode cX11_init 31 = .ok (.bipush 9, 2) := by decide +kernel
theorem dX11_init_33 : decode cX11_init 33 = .ok (.newarray .int, 2) := by decide +kernel
theorem dX11_init_35 : decode cX11_init 35 = .ok (.putfield 23, 3) := by decide +kernel
theorem dX11_init_38 : decode cX11_init 38 = .ok (.aload_n 0, 1) := by decide +kernel
theorem dX11_init_39 : decode cX11_init 39 = .ok (.sipush 3600, 3) := by decide +kernel
theorem dX11_init_42 : decode cX11_init 42 = .ok (.newarray .int, 2) := by decide +kernel
theorem dX11_init_44 : decode cX11_init 44 = .ok (.putfield 26, 3) := by decide +kernel
theorem dX11_init_47 : decode cX11_init 47 = .ok (.aload_n 0, 1) := by decide +kernel
theorem dX11_init_48 : decode cX11_init 48 = .ok (.bipush 9, 2) := by decide +kernel
theorem dX11_init_50 : decode cX11_init 50 = .ok (.newarray .int, 2) := by decide +kernel
theorem dX11_init_52 : decode cX11_init 52 = .ok (.putfield 29, 3) := by decide +kernel
theorem dX11_init_55 : decode cX11_init 55 = .ok (.aload_n 0, 1) := by decide +kernel
theorem dX11_init_56 : decode cX11_init 56 = .ok (.bipush 45, 2) := by decide +kernel
theorem dX11_init_58 : decode cX11_init 58 = .ok (.newarray .long, 2) := by decide +kernel
theorem dX11_init_60 : decode cX11_init 60 = .ok (.putfield 32, 3) := by decide +kernel
theorem dX11_init_63 : decode cX11_init 63 = .ok (.aload_n 0, 1) := by decide +kernel
theorem dX11_init_64 : decode cX11_init 64 = .ok (.bipush 9, 2) := by decide +kernel
theorem dX11_init_66 : decode cX11_init 66 = .ok (.newarray .int, 2) := by decide +kernel
theorem dX11_init_68 : decode cX11_init 68 = .ok (.putfield 36, 3) := by decide +kernel
theorem dX11_init_71 : decode cX11_init 71 = .ok (.aload_n 0, 1) := by decide +kernel
theorem dX11_init_72 : decode cX11_init 72 = .ok (.bipush 9, 2) := by decide +kernel
theorem dX11_init_74 : decode cX11_init 74 = .ok (.newarray .int, 2) := by decide +kernel
theorem dX11_init_76 : decode cX11_init 76 = .ok (.putfield 39, 3) := by decide +kernel
theorem dX11_init_79 : decode cX11_init 79 = .ok (.aload_n 0, 1) := by decide +kernel
theorem dX11_init_80 : decode cX11_init 80 = .ok (.ldc 42, 2) := by decide +kernel
theorem dX11_init_82 : decode cX11_init 82 = .ok (.newarray .int, 2) := by decide +kernel
theorem dX11_init_84 : decode cX11_init 84 = .ok (.putfield 43, 3) := by decide +kernel
theorem dX11_init_87 : decode cX11_init 87 = .ok (.aload_n 0, 1) := by decide +kernel
theorem dX11_init_88 : decode cX11_init 88 = .ok (.ldc 46, 2) := by decide +kernel
theorem dX11_init_90 : decode cX11_init 90 = .ok (.newarray .int, 2) := by decide +kernel
theorem dX11_init_92 : decode cX11_init 92 = .ok (.putfield 47, 3) := by decide +kernel
theorem dX11_init_95 : decode cX11_init 95 = .ok (.aload_n 0, 1) := by decide +kernel
theorem dX11_init_96 : decode cX11_init 96 = .ok (.sipush 420, 3) := by decide +kernel
theorem dX11_init_99 : decode cX11_init 99 = .ok (.newarray .int, 2) := by decide +kernel
theorem dX11_init_101 : decode cX11_init 101 = .ok (.putfield 50, 3) := by decide +kernel
theorem dX11_init_104 : decode cX11_init 104 = .ok (.aload_n 0, 1) := by decide +kernel
theorem dX11_init_105 : decode cX11_init 105 = .ok (.sipush 480, 3) := by decide +kernel
theorem dX11_init_108 : decode cX11_init 108 = .ok (.newarray .long, 2) := by decide +kernel
theorem dX11_init_110 : decode cX11_init 110 = .ok (.putfield 53, 3) := by decide +kernel
theorem dX11_init_113 : decode cX11_init 113 = .ok (.aload_n 0, 1) := by decide +kernel
theorem dX11_init_114 : decode cX11_init 114 = .ok (.sipush 16000, 3) := by decide +kernel
theorem dX11_init_117 : decode cX11_init 117 = .ok (.newarray .int, 2) := by decide +kernel
theorem dX11_init_119 : decode cX11_init 119 = .ok (.putfield 56, 3) := by decide +kernel
theorem dX11_init_122 : decode cX11_init 122 = .ok (.aload_n 0, 1) := by decide +kernel
theorem dX11_init_123 : decode cX11_init 123 = .ok (.sipush 16000, 3) := by decide +kernel
theorem dX11_init_126 : decode cX11_init 126 = .ok (.newarray .int, 2) := by decide +kernel
theorem dX11_init_128 : decode cX11_init 128 = .ok (.putfield 59, 3) := by decide +kernel
theorem dX11_init_131 : decode cX11_init 131 = .ok (.aload_n 0, 1) := by decide +kernel
theorem dX11_init_132 : decode cX11_init 132 = .ok (.sipush 800, 3) := by decide +kernel
theorem dX11_init_135 : decode cX11_init 135 = .ok (.newarray .int, 2) := by decide +kernel
theorem dX11_init_137 : decode cX11_init 137 = .ok (.putfield 62, 3) := by decide +kernel
theorem dX11_init_140 : decode cX11_init 140 = .ok (.aload_n 0, 1) := by decide +kernel
theorem dX11_init_141 : decode cX11_init 141 = .ok (.iconst 2, 1) := by decide +kernel
theorem dX11_init_142 : decode cX11_init 142 = .ok (.newarray .int, 2) := by decide +kernel
theorem dX11_init_144 : decode cX11_init 144 = .ok (.putfield 65, 3) := by decide +kernel
theorem dX11_init_147 : decode cX11_init 147 = .ok (.aload_n 0, 1) := by decide +kernel
theorem dX11_init_148 : decode cX11_init 148 = .ok (.sipush 800, 3) := by decide +kernel
theorem dX11_init_151 : decode cX11_init 151 = .ok (.newarray .int, 2) := by decide +kernel
theorem dX11_init_153 : decode cX11_init 153 = .ok (.putfield 68, 3) := by decide +kernel
theorem dX11_init_156 : decode cX11_init 156 = .ok (.aload_n 0, 1) := by decide +kernel
theorem dX11_init_157 : decode cX11_init 157 = .ok (.iconst 2, 1) := by decide +kernel
theorem dX11_init_158 : decode cX11_init 158 = .ok (.newarray .int, 2) := by decide +kernel
theorem dX11_init_160 : decode cX11_init 160 = .ok (.putfield 71, 3) := by decide +kernel
theorem dX11_init_163 : decode cX11_init 163 = .ok (.aload_n 0, 1) := by decide +kernel
theorem dX11_init_164 : decode cX11_init 164 = .ok (.bipush 8, 2) := by decide +kernel
theorem dX11_init_166 : decode cX11_init 166 = .ok (.newarray .boolean, 2) := by decide +kernel
theorem dX11_init_168 : decode cX11_init 168 = .ok (.putfield 74, 3) := by decide +kernel
theorem dX11_init_171 : decode cX11_init 171 = .ok (.aload_n 0, 1) := by decide +kernel
theorem dX11_init_172 : decode cX11_init 172 = .ok (.bipush 10, 2) := by decide +kernel
theorem dX11_init_174 : decode cX11_init 174 = .ok (.newarray .long, 2) := by decide +kernel
theorem dX11_init_176 : decode cX11_init 176 = .ok (.putfield 78, 3) := by decide +kernel
theorem dX11_init_179 : decode cX11_init 179 = .ok (.aload_n 0, 1) := by decide +kernel
theorem dX11_init_180 : decode cX11_init 180 = .ok (.iconst 5, 1) := by decide +kernel
theorem dX11_init_181 : decode cX11_init 181 = .ok (.newarray .long, 2) := by decide +kernel
theorem dX11_init_183 : decode cX11_init 183 = .ok (.putfield 81, 3) := by decide +kernel
theorem dX11_init_186 : decode cX11_init 186 = .ok (.aload_n 0, 1) := by decide +kernel
theorem dX11_init_187 : decode cX11_init 187 = .ok (.getfield 32, 3) := by decide +kernel
theorem dX11_init_190 : decode cX11_init 190 = .ok (.bipush 40, 2) := by decide +kernel
theorem dX11_init_192 : decode cX11_init 192 = .ok (.ldc2_w 84, 3) := by decide +kernel
theorem dX11_init_195 : decode cX11_init 195 = .ok (.lastore, 1) := by decide +kernel
theorem dX11_init_196 : decode cX11_init 196 = .ok (.return_, 1) := by decide +kernel
theorem dX11_name_0 : decode cX11_name 0 = .ok (.aload_n 0, 1) := by decide +kernel
theorem dX11_name_1 : decode cX11_name 1 = .ok (.getfield 1, 3) := by decide +kernel
theorem dX11_name_4 : decode cX11_name 4 = .ok (.ifCond .le 17, 3) := by decide +kernel
theorem dX11_name_7 : decode cX11_name 7 = .ok (.aload_n 0, 1) := by decide +kernel
theorem dX11_name_8 : decode cX11_name 8 = .ok (.getfield 1, 3) := by decide +kernel
theorem dX11_name_11 : decode cX11_name 11 = .ok (.sipush 400, 3) := by decide +kernel
theorem dX11_name_14 : decode cX11_name 14 = .ok (.if_icmp .gt 7, 3) := by decide +kernel
theorem dX11_name_17 : decode cX11_name 17 = .ok (.iconst 1, 1) := by decide +kernel
theorem dX11_name_18 : decode cX11_name 18 = .ok (.goto 4, 3) := by decide +kernel
theorem dX11_name_21 : decode cX11_name 21 = .ok (.iconst 0, 1) := by decide +kernel
theorem dX11_name_22 : decode cX11_name 22 = .ok (.istore_n 2, 1) := by decide +kernel
theorem dX11_name_23 : decode cX11_name 23 = .ok (.iconst 0, 1) := by decide +kernel
theorem dX11_name_24 : decode cX11_name 24 = .ok (.istore_n 3, 1) := by decide +kernel
theorem dX11_name_25 : decode cX11_name 25 = .ok (.iload_n 3, 1) := by decide +kernel
theorem dX11_name_26 : decode cX11_name 26 = .ok (.aload_n 0, 1) := by decide +kernel
theorem dX11_name_27 : decode cX11_name 27 = .ok (.getfield 1, 3) := by decide +kernel
theorem dX11_name_30 : decode cX11_name 30 = .ok (.if_icmp .ge 28, 3) := by decide +kernel
theorem dX11_name_33 : decode cX11_name 33 = .ok (.iload_n 2, 1) := by decide +kernel
theorem dX11_name_34 : decode cX11_name 34 = .ok (.ifCond .eq 16, 3) := by decide +kernel
theorem dX11_name_37 : decode cX11_name 37 = .ok (.aload_n 0, 1) := by decide +kernel
theorem dX11_name_38 : decode cX11_name 38 = .ok (.getfield 7, 3) := by decide +kernel
theorem dX11_name_41 : decode cX11_name 41 = .ok (.iload_n 3, 1) := by decide +kernel
theorem dX11_name_42 : decode cX11_name 42 = .ok (.iaload, 1) := by decide +kernel
theorem dX11_name_43 : decode cX11_name 43 = .ok (.ifCond .eq 7, 3) := by decide +kernel
theorem dX11_name_46 : decode cX11_name 46 = .ok (.iconst 1, 1) := by decide +kernel
theorem dX11_name_47 : decode cX11_name 47 = .ok (.goto 4, 3) := by decide +kernel
theorem dX11_name_50 : decode cX11_name 50 = .ok (.iconst 0, 1) := by decide +kernel
theorem dX11_name_51 : decode cX11_name 51 = .ok (.istore_n 2, 1) := by decide +kernel
theorem dX11_name_52 : decode cX11_name 52 = .ok (.iinc 3 1, 3) := by decide +kernel
theorem dX11_name_55 : decode cX11_name 55 = .ok (.goto (-30), 3) := by decide +kernel
theorem dX11_name_58 : decode cX11_name 58 = .ok (.iload_n 2, 1) := by decide +kernel
theorem dX11_name_59 : decode cX11_name 59 = .ok (.ifCond .ne 6, 3) := by decide +kernel
theorem dX11_name_62 : decode cX11_name 62 = .ok (.bipush (-2), 2) := by decide +kernel
theorem dX11_name_64 : decode cX11_name 64 = .ok (.ireturn, 1) := by decide +kernel
theorem dX11_name_65 : decode cX11_name 65 = .ok (.iconst 0, 1) := by decide +kernel
theorem dX11_name_66 : decode cX11_name 66 = .ok (.istore_n 3, 1) := by decide +kernel
theorem dX11_name_67 : decode cX11_name 67 = .ok (.iload_n 3, 1) := by decide +kernel
theorem dX11_name_68 : decode cX11_name 68 = .ok (.aload_n 0, 1) := by decide +kernel
theorem dX11_name_69 : decode cX11_name 69 = .ok (.getfield 1, 3) := by decide +kernel
theorem dX11_name_72 : decode cX11_name 72 = .ok (.if_icmp .ge 48, 3) := by decide +kernel
theorem dX11_name_75 : decode cX11_name 75 = .ok (.iload_n 1, 1) := by decide +kernel
theorem dX11_name_76 : decode cX11_name 76 = .ok (.ifCond .eq 22, 3) := by decide +kernel
theorem dX11_name_79 : decode cX11_name 79 = .ok (.aload_n 0, 1) := by decide +kernel
theorem dX11_name_80 : decode cX11_name 80 = .ok (.getfield 26, 3) := by decide +kernel
theorem dX11_name_83 : decode cX11_name 83 = .ok (.sipush 3200, 3) := by decide +kernel
theorem dX11_name_86 : decode cX11_name 86 = .ok (.iload_n 3, 1) := by decide +kernel
theorem dX11_name_87 : decode cX11_name 87 = .ok (.iadd, 1) := by decide +kernel
theorem dX11_name_88 : decode cX11_name 88 = .ok (.aload_n 0, 1) := by decide +kernel
theorem dX11_name_89 : decode cX11_name 89 = .ok (.getfield 7, 3) := by decide +kernel
theorem dX11_name_92 : decode cX11_name 92 = .ok (.iload_n 3, 1) := by decide +kernel
theorem dX11_name_93 : decode cX11_name 93 = .ok (.iaload, 1) := by decide +kernel
theorem dX11_name_94 : decode cX11_name 94 = .ok (.iastore, 1) := by decide +kernel
theorem dX11_name_95 : decode cX11_name 95 = .ok (.goto 19, 3) := by decide +kernel
theorem dX11_name_98 : decode cX11_name 98 = .ok (.aload_n 0, 1) := by decide +kernel
theorem dX11_name_99 : decode cX11_name 99 = .ok (.getfield 20, 3) := by decide +kernel
theorem dX11_name_102 : decode cX11_name 102 = .ok (.sipush 3200, 3) := by decide +kernel
theorem dX11_name_105 : decode cX11_name 105 = .ok (.iload_n 3, 1) := by decide +kernel
theorem dX11_name_106 : decode cX11_name 106 = .ok (.iadd, 1) := by decide +kernel
theorem dX11_name_107 : decode cX11_name 107 = .ok (.aload_n 0, 1) := by decide +kernel
theorem dX11_name_108 : decode cX11_name 108 = .ok (.getfield 7, 3) := by decide +kernel
theorem dX11_name_111 : decode cX11_name 111 = .ok (.iload_n 3, 1) := by decide +kernel
theorem dX11_name_112 : decode cX11_name 112 = .ok (.iaload, 1) := by decide +kernel
theorem dX11_name_113 : decode cX11_name 113 = .ok (.iastore, 1) := by decide +kernel
theorem dX11_name_114 : decode cX11_name 114 = .ok (.iinc 3 1, 3) := by decide +kernel
theorem dX11_name_117 : decode cX11_name 117 = .ok (.goto (-50), 3) := by decide +kernel
theorem dX11_name_120 : decode cX11_name 120 = .ok (.iload_n 1, 1) := by decide +kernel
theorem dX11_name_121 : decode cX11_name 121 = .ok (.ifCond .eq 17, 3) := by decide +kernel
theorem dX11_name_124 : decode cX11_name 124 = .ok (.aload_n 0, 1) := by decide +kernel
theorem dX11_name_125 : decode cX11_name 125 = .ok (.getfield 29, 3) := by decide +kernel
theorem dX11_name_128 : decode cX11_name 128 = .ok (.bipush 8, 2) := by decide +kernel
theorem dX11_name_130 : decode cX11_name 130 = .ok (.aload_n 0, 1) := by decide +kernel
theorem dX11_name_131 : decode cX11_name 131 = .ok (.getfield 1, 3) := by decide +kernel
theorem dX11_name_134 : decode cX11_name 134 = .ok (.iastore, 1) := by decide +kernel
theorem dX11_name_135 : decode cX11_name 135 = .ok (.goto 14, 3) := by decide +kernel
theorem dX11_name_138 : decode cX11_name 138 = .ok (.aload_n 0, 1) := by decide +kernel
theorem dX11_name_139 : decode cX11_name 139 = .ok (.getfield 23, 3) := by decide +kernel
theorem dX11_name_142 : decode cX11_name 142 = .ok (.bipush 8, 2) := by decide +kernel
theorem dX11_name_144 : decode cX11_name 144 = .ok (.aload_n 0, 1) := by decide +kernel
theorem dX11_name_145 : decode cX11_name 145 = .ok (.getfield 1, 3) := by decide +kernel
theorem dX11_name_148 : decode cX11_name 148 = .ok (.iastore, 1) := by decide +kernel
theorem dX11_name_149 : decode cX11_name 149 = .ok (.aload_n 0, 1) := by decide +kernel
theorem dX11_name_150 : decode cX11_name 150 = .ok (.getfield 1, 3) := by decide +kernel
theorem dX11_name_153 : decode cX11_name 153 = .ok (.istore_n 3, 1) := by decide +kernel
theorem dX11_name_154 : decode cX11_name 154 = .ok (.aload_n 0, 1) := by decide +kernel
theorem dX11_name_155 : decode cX11_name 155 = .ok (.iconst 0, 1) := by decide +kernel
theorem dX11_name_156 : decode cX11_name 156 = .ok (.putfield 1, 3) := by decide +kernel
theorem dX11_name_159 : decode cX11_name 159 = .ok (.iload_n 3, 1) := by decide +kernel
theorem dX11_name_160 : decode cX11_name 160 = .ok (.ireturn, 1) := by decide +kernel
theorem dX11_number_0 : decode cX11_number 0 = .ok (.iload_n 1, 1) := by decide +kernel
theorem dX11_number_1 : decode cX11_number 1 = .ok (.ifCond .lt 8, 3) := by decide +kernel
theorem dX11_number_4 : decode cX11_number 4 = .ok (.iload_n 1, 1) := by decide +kernel
theorem dX11_number_5 : decode cX11_number 5 = .ok (.iconst 4, 1) := by decide +kernel
theorem dX11_number_6 : decode cX11_number 6 = .ok (.if_icmp .le 5, 3) := by decide +kernel
theorem dX11_number_9 : decode cX11_number 9 = .ok (.iconst (-1), 1) := by decide +kernel
theorem dX11_number_10 : decode cX11_number 10 = .ok (.ireturn, 1) := by decide +kernel
theorem dX11_number_11 : decode cX11_number 11 = .ok (.iload_n 1, 1) := by decide +kernel
theorem dX11_number_12 : decode cX11_number 12 = .ok (.iconst 3, 1) := by decide +kernel
theorem dX11_number_13 : decode cX11_number 13 = .ok (.if_icmp .ne 9, 3) := by decide +kernel
theorem dX11_number_16 : decode cX11_number 16 = .ok (.ldc2_w 86, 3) := by decide +kernel
theorem dX11_number_19 : decode cX11_number 19 = .ok (.goto 4, 3) := by decide +kernel
theorem dX11_number_22 : decode cX11_number 22 = .ok (.lconst 0, 1) := by decide +kernel
theorem dX11_number_23 : decode cX11_number 23 = .ok (.lstore 4, 2) := by decide +kernel
theorem dX11_number_25 : decode cX11_number 25 = .ok (.iload_n 1, 1) := by decide +kernel
theorem dX11_number_26 : decode cX11_number 26 = .ok (.ifCond .ne 9, 3) := by decide +kernel
theorem dX11_number_29 : decode cX11_number 29 = .ok (.ldc2_w 88, 3) := by decide +kernel
theorem dX11_number_32 : decode cX11_number 32 = .ok (.goto 28, 3) := by decide +kernel
theorem dX11_number_35 : decode cX11_number 35 = .ok (.iload_n 1, 1) := by decide +kernel
theorem dX11_number_36 : decode cX11_number 36 = .ok (.iconst 3, 1) := by decide +kernel
theorem dX11_number_37 : decode cX11_number 37 = .ok (.if_icmp .ge 9, 3) := by decide +kernel
theorem dX11_number_40 : decode cX11_number 40 = .ok (.ldc2_w 90, 3) := by decide +kernel
theorem dX11_number_43 : decode cX11_number 43 = .ok (.goto 17, 3) := by decide +kernel
theorem dX11_number_46 : decode cX11_number 46 = .ok (.iload_n 1, 1) := by decide +kernel
theorem dX11_number_47 : decode cX11_number 47 = .ok (.iconst 3, 1) := by decide +kernel
theorem dX11_number_48 : decode cX11_number 48 = .ok (.if_icmp .ne 9, 3) := by decide +kernel
theorem dX11_number_51 : decode cX11_number 51 = .ok (.ldc2_w 92, 3) := by decide +kernel
theorem dX11_number_54 : decode cX11_number 54 = .ok (.goto 6, 3) := by decide +kernel
theorem dX11_number_57 : decode cX11_number 57 = .ok (.ldc2_w 94, 3) := by decide +kernel
theorem dX11_number_60 : decode cX11_number 60 = .ok (.lstore 6, 2) := by decide +kernel
theorem dX11_number_62 : decode cX11_number 62 = .ok (.lload_n 2, 1) := by decide +kernel
theorem dX11_number_63 : decode cX11_number 63 = .ok (.lload 4, 2) := by decide +kernel
theorem dX11_number_65 : decode cX11_number 65 = .ok (.lcmp, 1) := by decide +kernel
theorem dX11_number_66 : decode cX11_number 66 = .ok (.ifCond .lt 10, 3) := by decide +kernel
theorem dX11_number_69 : decode cX11_number 69 = .ok (.lload_n 2, 1) := by decide +kernel
theorem dX11_number_70 : decode cX11_number 70 = .ok (.lload 6, 2) := by decide +kernel
theorem dX11_number_72 : decode cX11_number 72 = .ok (.lcmp, 1) := by decide +kernel
theorem dX11_number_73 : decode cX11_number 73 = .ok (.ifCond .le 5, 3) := by decide +kernel
theorem dX11_number_76 : decode cX11_number 76 = .ok (.iconst (-1), 1) := by decide +kernel
theorem dX11_number_77 : decode cX11_number 77 = .ok (.ireturn, 1) := by decide +kernel
theorem dX11_number_78 : decode cX11_number 78 = .ok (.aload_n 0, 1) := by decide +kernel
theorem dX11_number_79 : decode cX11_number 79 = .ok (.getfield 32, 3) := by decide +kernel
theorem dX11_number_82 : decode cX11_number 82 = .ok (.bipush 40, 2) := by decide +kernel
theorem dX11_number_84 : decode cX11_number 84 = .ok (.iload_n 1, 1) := by decide +kernel
theorem dX11_number_85 : decode cX11_number 85 = .ok (.iadd, 1) := by decide +kernel
theorem dX11_number_86 : decode cX11_number 86 = .ok (.lload_n 2, 1) := by decide +kernel
theorem dX11_number_87 : decode cX11_number 87 = .ok (.lastore, 1) := by decide +kernel
theorem dX11_number_88 : decode cX11_number 88 = .ok (.iconst 1, 1) := by decide +kernel
theorem dX11_number_89 : decode cX11_number 89 = .ok (.ireturn, 1) := by decide +kernel
theorem dX11_emptyDraft_0 : decode cX11_emptyDraft 0 = .ok (.aload_n 0, 1) := by decide +kernel
theorem dX11_emptyDraft_1 : decode cX11_emptyDraft 1 = .ok (.getfield 23, 3) := by decide +kernel
theorem dX11_emptyDraft_4 : decode cX11_emptyDraft 4 = .ok (.bipush 8, 2) := by decide +kernel
theorem dX11_emptyDraft_6 : decode cX11_emptyDraft 6 = .ok (.iconst 0, 1) := by decide +kernel
theorem dX11_emptyDraft_7 : decode cX11_emptyDraft 7 = .ok (.iastore, 1) := by decide +kernel
theorem dX11_emptyDraft_8 : decode cX11_emptyDraft 8 = .ok (.aload_n 0, 1) := by decide +kernel
theorem dX11_emptyDraft_9 : decode cX11_emptyDraft 9 = .ok (.getfield 29, 3) := by decide +kernel
theorem dX11_emptyDraft_12 : decode cX11_emptyDraft 12 = .ok (.bipush 8, 2) := by decide +kernel
theorem dX11_emptyDraft_14 : decode cX11_emptyDraft 14 = .ok (.iconst 0, 1) := by decide +kernel
theorem dX11_emptyDraft_15 : decode cX11_emptyDraft 15 = .ok (.iastore, 1) := by decide +kernel
theorem dX11_emptyDraft_16 : decode cX11_emptyDraft 16 = .ok (.aload_n 0, 1) := by decide +kernel
theorem dX11_emptyDraft_17 : decode cX11_emptyDraft 17 = .ok (.getfield 32, 3) := by decide +kernel
theorem dX11_emptyDraft_20 : decode cX11_emptyDraft 20 = .ok (.bipush 40, 2) := by decide +kernel
theorem dX11_emptyDraft_22 : decode cX11_emptyDraft 22 = .ok (.ldc2_w 84, 3) := by decide +kernel
theorem dX11_emptyDraft_25 : decode cX11_emptyDraft 25 = .ok (.lastore, 1) := by decide +kernel
theorem dX11_emptyDraft_26 : decode cX11_emptyDraft 26 = .ok (.bipush 41, 2) := by decide +kernel
theorem dX11_emptyDraft_28 : decode cX11_emptyDraft 28 = .ok (.istore_n 1, 1) := by decide +kernel
theorem dX11_emptyDraft_29 : decode cX11_emptyDraft 29 = .ok (.iload_n 1, 1) := by decide +kernel
theorem dX11_emptyDraft_30 : decode cX11_emptyDraft 30 = .ok (.bipush 45, 2) := by decide +kernel
theorem dX11_emptyDraft_32 : decode cX11_emptyDraft 32 = .ok (.if_icmp .ge 16, 3) := by decide +kernel
theorem dX11_emptyDraft_35 : decode cX11_emptyDraft 35 = .ok (.aload_n 0, 1) := by decide +kernel
theorem dX11_emptyDraft_36 : decode cX11_emptyDraft 36 = .ok (.getfield 32, 3) := by decide +kernel
theorem dX11_emptyDraft_39 : decode cX11_emptyDraft 39 = .ok (.iload_n 1, 1) := by decide +kernel
theorem dX11_emptyDraft_40 : decode cX11_emptyDraft 40 = .ok (.lconst 0, 1) := by decide +kernel
theorem dX11_emptyDraft_41 : decode cX11_emptyDraft 41 = .ok (.lastore, 1) := by decide +kernel
theorem dX11_emptyDraft_42 : decode cX11_emptyDraft 42 = .ok (.iinc 1 1, 3) := by decide +kernel
theorem dX11_emptyDraft_45 : decode cX11_emptyDraft 45 = .ok (.goto (-16), 3) := by decide +kernel
theorem dX11_emptyDraft_48 : decode cX11_emptyDraft 48 = .ok (.return_, 1) := by decide +kernel
theorem dX11_entry_0 : decode cX11_entry 0 = .ok (.iload_n 1, 1) := by decide +kernel
theorem dX11_entry_1 : decode cX11_entry 1 = .ok (.bipush 48, 2) := by decide +kernel
theorem dX11_entry_3 : decode cX11_entry 3 = .ok (.if_icmp .eq 21, 3) := by decide +kernel
theorem dX11_entry_6 : decode cX11_entry 6 = .ok (.iload_n 1, 1) := by decide +kernel
theorem dX11_entry_7 : decode cX11_entry 7 = .ok (.bipush 49, 2) := by decide +kernel
theorem dX11_entry_9 : decode cX11_entry 9 = .ok (.if_icmp .eq 15, 3) := by decide +kernel
theorem dX11_entry_12 : decode cX11_entry 12 = .ok (.iload_n 1, 1) := by decide +kernel
theorem dX11_entry_13 : decode cX11_entry 13 = .ok (.bipush 50, 2) := by decide +kernel
theorem dX11_entry_15 : decode cX11_entry 15 = .ok (.if_icmp .eq 9, 3) := by decide +kernel
theorem dX11_entry_18 : decode cX11_entry 18 = .ok (.iload_n 1, 1) := by decide +kernel
theorem dX11_entry_19 : decode cX11_entry 19 = .ok (.bipush 53, 2) := by decide +kernel
theorem dX11_entry_21 : decode cX11_entry 21 = .ok (.if_icmp .ne 7, 3) := by decide +kernel
theorem dX11_entry_24 : decode cX11_entry 24 = .ok (.iconst 1, 1) := by decide +kernel
theorem dX11_entry_25 : decode cX11_entry 25 = .ok (.goto 4, 3) := by decide +kernel
theorem dX11_entry_28 : decode cX11_entry 28 = .ok (.iconst 0, 1) := by decide +kernel
theorem dX11_entry_29 : decode cX11_entry 29 = .ok (.istore 4, 2) := by decide +kernel
theorem dX11_entry_31 : decode cX11_entry 31 = .ok (.iload 4, 2) := by decide +kernel
theorem dX11_entry_33 : decode cX11_entry 33 = .ok (.ifCond .eq 24, 3) := by decide +kernel
theorem dX11_entry_36 : decode cX11_entry 36 = .ok (.iload_n 2, 1) := by decide +kernel
theorem dX11_entry_37 : decode cX11_entry 37 = .ok (.ifCond .lt 20, 3) := by decide +kernel
theorem dX11_entry_40 : decode cX11_entry 40 = .ok (.iload_n 2, 1) := by decide +kernel
theorem dX11_entry_41 : decode cX11_entry 41 = .ok (.iload_n 1, 1) := by decide +kernel
theorem dX11_entry_42 : decode cX11_entry 42 = .ok (.bipush 48, 2) := by decide +kernel
theorem dX11_entry_44 : decode cX11_entry 44 = .ok (.if_icmp .ne 9, 3) := by decide +kernel
theorem dX11_entry_47 : decode cX11_entry 47 = .ok (.sipush 4000, 3) := by decide +kernel
theorem dX11_entry_50 : decode cX11_entry 50 = .ok (.goto 4, 3) := by decide +kernel
theorem dX11_entry_53 : decode cX11_entry 53 = .ok (.iconst 0, 1) := by decide +kernel
theorem dX11_entry_54 : decode cX11_entry 54 = .ok (.if_icmp .le 5, 3) := by decide +kernel
theorem dX11_entry_57 : decode cX11_entry 57 = .ok (.iconst (-1), 1) := by decide +kernel
theorem dX11_entry_58 : decode cX11_entry 58 = .ok (.ireturn, 1) := by decide +kernel
theorem dX11_entry_59 : decode cX11_entry 59 = .ok (.iload_n 1, 1) := by decide +kernel
theorem dX11_entry_60 : decode cX11_entry 60 = .ok (.bipush 49, 2) := by decide +kernel
theorem dX11_entry_62 : decode cX11_entry 62 = .ok (.if_icmp .eq 9, 3) := by decide +kernel
theorem dX11_entry_65 : decode cX11_entry 65 = .ok (.iload_n 1, 1) := by decide +kernel
theorem dX11_entry_66 : decode cX11_entry 66 = .ok (.bipush 50, 2) := by decide +kernel
theorem dX11_entry_68 : decode cX11_entry 68 = .ok (.if_icmp .ne 7, 3) := by decide +kernel
theorem dX11_entry_71 : decode cX11_entry 71 = .ok (.iconst 1, 1) := by decide +kernel
theorem dX11_entry_72 : decode cX11_entry 72 = .ok (.goto 4, 3) := by decide +kernel
theorem dX11_entry_75 : decode cX11_entry 75 = .ok (.iconst 0, 1) := by decide +kernel
theorem dX11_entry_76 : decode cX11_entry 76 = .ok (.istore 5, 2) := by decide +kernel
theorem dX11_entry_78 : decode cX11_entry 78 = .ok (.aload_n 0, 1) := by decide +kernel
theorem dX11_entry_79 : decode cX11_entry 79 = .ok (.getfield 23, 3) := by decide +kernel
theorem dX11_entry_82 : decode cX11_entry 82 = .ok (.bipush 8, 2) := by decide +kernel
theorem dX11_entry_84 : decode cX11_entry 84 = .ok (.iaload, 1) := by decide +kernel
theorem dX11_entry_85 : decode cX11_entry 85 = .ok (.ifCond .eq 23, 3) := by decide +kernel
theorem dX11_entry_88 : decode cX11_entry 88 = .ok (.iload 5, 2) := by decide +kernel
theorem dX11_entry_90 : decode cX11_entry 90 = .ok (.aload_n 0, 1) := by decide +kernel
theorem dX11_entry_91 : decode cX11_entry 91 = .ok (.getfield 29, 3) := by decide +kernel
theorem dX11_entry_94 : decode cX11_entry 94 = .ok (.bipush 8, 2) := by decide +kernel
theorem dX11_entry_96 : decode cX11_entry 96 = .ok (.iaload, 1) := by decide +kernel
theorem dX11_entry_97 : decode cX11_entry 97 = .ok (.ifCond .le 7, 3) := by decide +kernel
theorem dX11_entry_100 : decode cX11_entry 100 = .ok (.iconst 1, 1) := by decide +kernel
theorem dX11_entry_101 : decode cX11_entry 101 = .ok (.goto 4, 3) := by decide +kernel
theorem dX11_entry_104 : decode cX11_entry 104 = .ok (.iconst 0, 1) := by decide +kernel
theorem dX11_entry_105 : decode cX11_entry 105 = .ok (.if_icmp .eq 6, 3) := by decide +kernel
theorem dX11_entry_108 : decode cX11_entry 108 = .ok (.bipush (-2), 2) := by decide +kernel
theorem dX11_entry_110 : decode cX11_entry 110 = .ok (.ireturn, 1) := by decide +kernel
theorem dX11_entry_111 : decode cX11_entry 111 = .ok (.aload_n 0, 1) := by decide +kernel
theorem dX11_entry_112 : decode cX11_entry 112 = .ok (.getfield 96, 3) := by decide +kernel
theorem dX11_entry_115 : decode cX11_entry 115 = .ok (.bipush 8, 2) := by decide +kernel
theorem dX11_entry_117 : decode cX11_entry 117 = .ok (.if_icmp .ne 6, 3) := by decide +kernel
theorem dX11_entry_120 : decode cX11_entry 120 = .ok (.bipush (-3), 2) := by decide +kernel
theorem dX11_entry_122 : decode cX11_entry 122 = .ok (.ireturn, 1) := by decide +kernel
theorem dX11_entry_123 : decode cX11_entry 123 = .ok (.aload_n 0, 1) := by decide +kernel
theorem dX11_entry_124 : decode cX11_entry 124 = .ok (.dup, 1) := by decide +kernel
theorem dX11_entry_125 : decode cX11_entry 125 = .ok (.getfield 96, 3) := by decide +kernel
theorem dX11_entry_128 : decode cX11_entry 128 = .ok (.dup_x1, 1) := by decide +kernel
theorem dX11_entry_129 : decode cX11_entry 129 = .ok (.iconst 1, 1) := by decide +kernel
theorem dX11_entry_130 : decode cX11_entry 130 = .ok (.iadd, 1) := by decide +kernel
theorem dX11_entry_131 : decode cX11_entry 131 = .ok (.putfield 96, 3) := by decide +kernel
theorem dX11_entry_134 : decode cX11_entry 134 = .ok (.istore 6, 2) := by decide +kernel
theorem dX11_entry_136 : decode cX11_entry 136 = .ok (.aload_n 0, 1) := by decide +kernel
theorem dX11_entry_137 : decode cX11_entry 137 = .ok (.getfield 17, 3) := by decide +kernel
theorem dX11_entry_140 : decode cX11_entry 140 = .ok (.iload 6, 2) := by decide +kernel
theorem dX11_entry_142 : decode cX11_entry 142 = .ok (.iload_n 1, 1) := by decide +kernel
theorem dX11_entry_143 : decode cX11_entry 143 = .ok (.iastore, 1) := by decide +kernel
theorem dX11_entry_144 : decode cX11_entry 144 = .ok (.aload_n 0, 1) := by decide +kernel
theorem dX11_entry_145 : decode cX11_entry 145 = .ok (.getfield 36, 3) := by decide +kernel
theorem dX11_entry_148 : decode cX11_entry 148 = .ok (.iload 6, 2) := by decide +kernel
theorem dX11_entry_150 : decode cX11_entry 150 = .ok (.iload_n 2, 1) := by decide +kernel
theorem dX11_entry_151 : decode cX11_entry 151 = .ok (.iastore, 1) := by decide +kernel
theorem dX11_entry_152 : decode cX11_entry 152 = .ok (.aload_n 0, 1) := by decide +kernel
theorem dX11_entry_153 : decode cX11_entry 153 = .ok (.getfield 39, 3) := by decide +kernel
theorem dX11_entry_156 : decode cX11_entry 156 = .ok (.iload 6, 2) := by decide +kernel
theorem dX11_entry_158 : decode cX11_entry 158 = .ok (.iload_n 3, 1) := by decide +kernel
theorem dX11_entry_159 : decode cX11_entry 159 = .ok (.iastore, 1) := by decide +kernel
theorem dX11_entry_160 : decode cX11_entry 160 = .ok (.aload_n 0, 1) := by decide +kernel
theorem dX11_entry_161 : decode cX11_entry 161 = .ok (.getfield 23, 3) := by decide +kernel
theorem dX11_entry_164 : decode cX11_entry 164 = .ok (.iload 6, 2) := by decide +kernel
theorem dX11_entry_166 : decode cX11_entry 166 = .ok (.aload_n 0, 1) := by decide +kernel
theorem dX11_entry_167 : decode cX11_entry 167 = .ok (.getfield 23, 3) := by decide +kernel
theorem dX11_entry_170 : decode cX11_entry 170 = .ok (.bipush 8, 2) := by decide +kernel
theorem dX11_entry_172 : decode cX11_entry 172 = .ok (.iaload, 1) := by decide +kernel
theorem dX11_entry_173 : decode cX11_entry 173 = .ok (.iastore, 1) := by decide +kernel
theorem dX11_entry_174 : decode cX11_entry 174 = .ok (.aload_n 0, 1) := by decide +kernel
theorem dX11_entry_175 : decode cX11_entry 175 = .ok (.getfield 29, 3) := by decide +kernel
theorem dX11_entry_178 : decode cX11_entry 178 = .ok (.iload 6, 2) := by decide +kernel
theorem dX11_entry_180 : decode cX11_entry 180 = .ok (.aload_n 0, 1) := by decide +kernel
theorem dX11_entry_181 : decode cX11_entry 181 = .ok (.getfield 29, 3) := by decide +kernel
theorem dX11_entry_184 : decode cX11_entry 184 = .ok (.bipush 8, 2) := by decide +kernel
theorem dX11_entry_186 : decode cX11_entry 186 = .ok (.iaload, 1) := by decide +kernel
theorem dX11_entry_187 : decode cX11_entry 187 = .ok (.iastore, 1) := by decide +kernel
theorem dX11_entry_188 : decode cX11_entry 188 = .ok (.iconst 0, 1) := by decide +kernel
theorem dX11_entry_189 : decode cX11_entry 189 = .ok (.istore 7, 2) := by decide +kernel
theorem dX11_entry_191 : decode cX11_entry 191 = .ok (.iload 7, 2) := by decide +kernel
theorem dX11_entry_193 : decode cX11_entry 193 = .ok (.sipush 400, 3) := by decide +kernel
theorem dX11_entry_196 : decode cX11_entry 196 = .ok (.if_icmp .ge 59, 3) := by decide +kernel
theorem dX11_entry_199 : decode cX11_entry 199 = .ok (.aload_n 0, 1) := by decide +kernel
theorem dX11_entry_200 : decode cX11_entry 200 = .ok (.getfield 20, 3) := by decide +kernel
theorem dX11_entry_203 : decode cX11_entry 203 = .ok (.sipush 400, 3) := by decide +kernel
theorem dX11_entry_206 : decode cX11_entry 206 = .ok (.iload 6, 2) := by decide +kernel
theorem dX11_entry_208 : decode cX11_entry 208 = .ok (.imul, 1) := by decide +kernel
theorem dX11_entry_209 : decode cX11_entry 209 = .ok (.iload 7, 2) := by decide +kernel
theorem dX11_entry_211 : decode cX11_entry 211 = .ok (.iadd, 1) := by decide +kernel
theorem dX11_entry_212 : decode cX11_entry 212 = .ok (.aload_n 0, 1) := by decide +kernel
theorem dX11_entry_213 : decode cX11_entry 213 = .ok (.getfield 20, 3) := by decide +kernel
theorem dX11_entry_216 : decode cX11_entry 216 = .ok (.sipush 3200, 3) := by decide +kernel
theorem dX11_entry_219 : decode cX11_entry 219 = .ok (.iload 7, 2) := by decide +kernel
theorem dX11_entry_221 : decode cX11_entry 221 = .ok (.iadd, 1) := by decide +kernel
theorem dX11_entry_222 : decode cX11_entry 222 = .ok (.iaload, 1) := by decide +kernel
theorem dX11_entry_223 : decode cX11_entry 223 = .ok (.iastore, 1) := by decide +kernel
theorem dX11_entry_224 : decode cX11_entry 224 = .ok (.aload_n 0, 1) := by decide +kernel
theorem dX11_entry_225 : decode cX11_entry 225 = .ok (.getfield 26, 3) := by decide +kernel
theorem dX11_entry_228 : decode cX11_entry 228 = .ok (.sipush 400, 3) := by decide +kernel
theorem dX11_entry_231 : decode cX11_entry 231 = .ok (.iload 6, 2) := by decide +kernel
theorem dX11_entry_233 : decode cX11_entry 233 = .ok (.imul, 1) := by decide +kernel
theorem dX11_entry_234 : decode cX11_entry 234 = .ok (.iload 7, 2) := by decide +kernel
theorem dX11_entry_236 : decode cX11_entry 236 = .ok (.iadd, 1) := by decide +kernel
theorem dX11_entry_237 : decode cX11_entry 237 = .ok (.aload_n 0, 1) := by decide +kernel
theorem dX11_entry_238 : decode cX11_entry 238 = .ok (.getfield 26, 3) := by decide +kernel
theorem dX11_entry_241 : decode cX11_entry 241 = .ok (.sipush 3200, 3) := by decide +kernel
theorem dX11_entry_244 : decode cX11_entry 244 = .ok (.iload 7, 2) := by decide +kernel
theorem dX11_entry_246 : decode cX11_entry 246 = .ok (.iadd, 1) := by decide +kernel
theorem dX11_entry_247 : decode cX11_entry 247 = .ok (.iaload, 1) := by decide +kernel
theorem dX11_entry_248 : decode cX11_entry 248 = .ok (.iastore, 1) := by decide +kernel
theorem dX11_entry_249 : decode cX11_entry 249 = .ok (.iinc 7 1, 3) := by decide +kernel
theorem dX11_entry_252 : decode cX11_entry 252 = .ok (.goto (-61), 3) := by decide +kernel
theorem dX11_entry_255 : decode cX11_entry 255 = .ok (.iconst 0, 1) := by decide +kernel
theorem dX11_entry_256 : decode cX11_entry 256 = .ok (.istore 7, 2) := by decide +kernel
theorem dX11_entry_258 : decode cX11_entry 258 = .ok (.iload 7, 2) := by decide +kernel
theorem dX11_entry_260 : decode cX11_entry 260 = .ok (.iconst 5, 1) := by decide +kernel
theorem dX11_entry_261 : decode cX11_entry 261 = .ok (.if_icmp .ge 31, 3) := by decide +kernel
theorem dX11_entry_264 : decode cX11_entry 264 = .ok (.aload_n 0, 1) := by decide +kernel
theorem dX11_entry_265 : decode cX11_entry 265 = .ok (.getfield 32, 3) := by decide +kernel
theorem dX11_entry_268 : decode cX11_entry 268 = .ok (.iconst 5, 1) := by decide +kernel
theorem dX11_entry_269 : decode cX11_entry 269 = .ok (.iload 6, 2) := by decide +kernel
theorem dX11_entry_271 : decode cX11_entry 271 = .ok (.imul, 1) := by decide +kernel
theorem dX11_entry_272 : decode cX11_entry 272 = .ok (.iload 7, 2) := by decide +kernel
theorem dX11_entry_274 : decode cX11_entry 274 = .ok (.iadd, 1) := by decide +kernel
theorem dX11_entry_275 : decode cX11_entry 275 = .ok (.aload_n 0, 1) := by decide +kernel
theorem dX11_entry_276 : decode cX11_entry 276 = .ok (.getfield 32, 3) := by decide +kernel
theorem dX11_entry_279 : decode cX11_entry 279 = .ok (.bipush 40, 2) := by decide +kernel
theorem dX11_entry_281 : decode cX11_entry 281 = .ok (.iload 7, 2) := by decide +kernel
theorem dX11_entry_283 : decode cX11_entry 283 = .ok (.iadd, 1) := by decide +kernel
theorem dX11_entry_284 : decode cX11_entry 284 = .ok (.laload, 1) := by decide +kernel
theorem dX11_entry_285 : decode cX11_entry 285 = .ok (.lastore, 1) := by decide +kernel
theorem dX11_entry_286 : decode cX11_entry 286 = .ok (.iinc 7 1, 3) := by decide +kernel
theorem dX11_entry_289 : decode cX11_entry 289 = .ok (.goto (-31), 3) := by decide +kernel
theorem dX11_entry_292 : decode cX11_entry 292 = .ok (.aload_n 0, 1) := by decide +kernel
theorem dX11_entry_293 : decode cX11_entry 293 = .ok (.invokevirtual 99, 3) := by decide +kernel
theorem dX11_entry_296 : decode cX11_entry 296 = .ok (.iload 6, 2) := by decide +kernel
theorem dX11_entry_298 : decode cX11_entry 298 = .ok (.ireturn, 1) := by decide +kernel
theorem dX11_clear_0 : decode cX11_clear 0 = .ok (.aload_n 0, 1) := by decide +kernel
theorem dX11_clear_1 : decode cX11_clear 1 = .ok (.getfield 96, 3) := by decide +kernel
theorem dX11_clear_4 : decode cX11_clear 4 = .ok (.istore_n 1, 1) := by decide +kernel
theorem dX11_clear_5 : decode cX11_clear 5 = .ok (.aload_n 0, 1) := by decide +kernel
theorem dX11_clear_6 : decode cX11_clear 6 = .ok (.iconst 0, 1) := by decide +kernel
theorem dX11_clear_7 : decode cX11_clear 7 = .ok (.putfield 96, 3) := by decide +kernel
theorem dX11_clear_10 : decode cX11_clear 10 = .ok (.aload_n 0, 1) := by decide +kernel
theorem dX11_clear_11 : decode cX11_clear 11 = .ok (.invokevirtual 99, 3) := by decide +kernel
theorem dX11_clear_14 : decode cX11_clear 14 = .ok (.iload_n 1, 1) := by decide +kernel
theorem dX11_clear_15 : decode cX11_clear 15 = .ok (.ireturn, 1) := by decide +kernel
theorem dX11_fits_0 : decode cX11_fits 0 = .ok (.lload_n 0, 1) := by decide +kernel
theorem dX11_fits_1 : decode cX11_fits 1 = .ok (.lconst 0, 1) := by decide +kernel
theorem dX11_fits_2 : decode cX11_fits 2 = .ok (.lcmp, 1) := by decide +kernel
theorem dX11_fits_3 : decode cX11_fits 3 = .ok (.ifCond .lt 19, 3) := by decide +kernel
theorem dX11_fits_6 : decode cX11_fits 6 = .ok (.lload_n 0, 1) := by decide +kernel
theorem dX11_fits_7 : decode cX11_fits 7 = .ok (.lconst 1, 1) := by decide +kernel
theorem dX11_fits_8 : decode cX11_fits 8 = .ok (.iconst 3, 1) := by decide +kernel
theorem dX11_fits_9 : decode cX11_fits 9 = .ok (.iload_n 2, 1) := by decide +kernel
theorem dX11_fits_10 : decode cX11_fits 10 = .ok (.iconst 1, 1) := by decide +kernel
theorem dX11_fits_11 : decode cX11_fits 11 = .ok (.isub, 1) := by decide +kernel
theorem dX11_fits_12 : decode cX11_fits 12 = .ok (.imul, 1) := by decide +kernel
theorem dX11_fits_13 : decode cX11_fits 13 = .ok (.lshl, 1) := by decide +kernel
theorem dX11_fits_14 : decode cX11_fits 14 = .ok (.lcmp, 1) := by decide +kernel
theorem dX11_fits_15 : decode cX11_fits 15 = .ok (.ifCond .ge 7, 3) := by decide +kernel
theorem dX11_fits_18 : decode cX11_fits 18 = .ok (.iconst 1, 1) := by decide +kernel
theorem dX11_fits_19 : decode cX11_fits 19 = .ok (.goto 4, 3) := by decide +kernel
theorem dX11_fits_22 : decode cX11_fits 22 = .ok (.iconst 0, 1) := by decide +kernel
theorem dX11_fits_23 : decode cX11_fits 23 = .ok (.ireturn, 1) := by decide +kernel
theorem dX11_splitOf_0 : decode cX11_splitOf 0 = .ok (.iconst (-1), 1) := by decide +kernel
theorem dX11_splitOf_1 : decode cX11_splitOf 1 = .ok (.istore_n 2, 1) := by decide +kernel
theorem dX11_splitOf_2 : decode cX11_splitOf 2 = .ok (.iconst 1, 1) := by decide +kernel
theorem dX11_splitOf_3 : decode cX11_splitOf 3 = .ok (.istore_n 3, 1) := by decide +kernel
theorem dX11_splitOf_4 : decode cX11_splitOf 4 = .ok (.iload_n 3, 1) := by decide +kernel
theorem dX11_splitOf_5 : decode cX11_splitOf 5 = .ok (.aload_n 0, 1) := by decide +kernel
theorem dX11_splitOf_6 : decode cX11_splitOf 6 = .ok (.getfield 23, 3) := by decide +kernel
theorem dX11_splitOf_9 : decode cX11_splitOf 9 = .ok (.iload_n 1, 1) := by decide +kernel
theorem dX11_splitOf_10 : decode cX11_splitOf 10 = .ok (.iaload, 1) := by decide +kernel
theorem dX11_splitOf_11 : decode cX11_splitOf 11 = .ok (.if_icmp .ge 64, 3) := by decide +kernel
theorem dX11_splitOf_14 : decode cX11_splitOf 14 = .ok (.iload_n 3, 1) := by decide +kernel
theorem dX11_splitOf_15 : decode cX11_splitOf 15 = .ok (.sipush 155, 3) := by decide +kernel
theorem dX11_splitOf_18 : decode cX11_splitOf 18 = .ok (.if_icmp .gt 57, 3) := by decide +kernel
theorem dX11_splitOf_21 : decode cX11_splitOf 21 = .ok (.aload_n 0, 1) := by decide +kernel
theorem dX11_splitOf_22 : decode cX11_splitOf 22 = .ok (.getfield 23, 3) := by decide +kernel
theorem dX11_splitOf_25 : decode cX11_splitOf 25 = .ok (.iload_n 1, 1) := by decide +kernel
theorem dX11_splitOf_26 : decode cX11_splitOf 26 = .ok (.iaload, 1) := by decide +kernel
theorem dX11_splitOf_27 : decode cX11_splitOf 27 = .ok (.iload_n 3, 1) := by decide +kernel
theorem dX11_splitOf_28 : decode cX11_splitOf 28 = .ok (.isub, 1) := by decide +kernel
theorem dX11_splitOf_29 : decode cX11_splitOf 29 = .ok (.iconst 1, 1) := by decide +kernel
theorem dX11_splitOf_30 : decode cX11_splitOf 30 = .ok (.isub, 1) := by decide +kernel
theorem dX11_splitOf_31 : decode cX11_splitOf 31 = .ok (.istore 4, 2) := by decide +kernel
theorem dX11_splitOf_33 : decode cX11_splitOf 33 = .ok (.aload_n 0, 1) := by decide +kernel
theorem dX11_splitOf_34 : decode cX11_splitOf 34 = .ok (.getfield 20, 3) := by decide +kernel
theorem dX11_splitOf_37 : decode cX11_splitOf 37 = .ok (.sipush 400, 3) := by decide +kernel
theorem dX11_splitOf_40 : decode cX11_splitOf 40 = .ok (.iload_n 1, 1) := by decide +kernel
theorem dX11_splitOf_41 : decode cX11_splitOf 41 = .ok (.imul, 1) := by decide +kernel
theorem dX11_splitOf_42 : decode cX11_splitOf 42 = .ok (.iload_n 3, 1) := by decide +kernel
theorem dX11_splitOf_43 : decode cX11_splitOf 43 = .ok (.iadd, 1) := by decide +kernel
theorem dX11_splitOf_44 : decode cX11_splitOf 44 = .ok (.iaload, 1) := by decide +kernel
theorem dX11_splitOf_45 : decode cX11_splitOf 45 = .ok (.bipush 47, 2) := by decide +kernel
theorem dX11_splitOf_47 : decode cX11_splitOf 47 = .ok (.if_icmp .ne 20, 3) := by decide +kernel
theorem dX11_splitOf_50 : decode cX11_splitOf 50 = .ok (.iload 4, 2) := by decide +kernel
theorem dX11_splitOf_52 : decode cX11_splitOf 52 = .ok (.iconst 1, 1) := by decide +kernel
theorem dX11_splitOf_53 : decode cX11_splitOf 53 = .ok (.if_icmp .lt 14, 3) := by decide +kernel
theorem dX11_splitOf_56 : decode cX11_splitOf 56 = .ok (.iload 4, 2) := by decide +kernel
theorem dX11_splitOf_58 : decode cX11_splitOf 58 = .ok (.bipush 100, 2) := by decide +kernel
theorem dX11_splitOf_60 : decode cX11_splitOf 60 = .ok (.if_icmp .gt 7, 3) := by decide +kernel
theorem dX11_splitOf_63 : decode cX11_splitOf 63 = .ok (.iload_n 3, 1) := by decide +kernel
theorem dX11_splitOf_64 : decode cX11_splitOf 64 = .ok (.goto 4, 3) := by decide +kernel
theorem dX11_splitOf_67 : decode cX11_splitOf 67 = .ok (.iload_n 2, 1) := by decide +kernel
theorem dX11_splitOf_68 : decode cX11_splitOf 68 = .ok (.istore_n 2, 1) := by decide +kernel
theorem dX11_splitOf_69 : decode cX11_splitOf 69 = .ok (.iinc 3 1, 3) := by decide +kernel
theorem dX11_splitOf_72 : decode cX11_splitOf 72 = .ok (.goto (-68), 3) := by decide +kernel
theorem dX11_splitOf_75 : decode cX11_splitOf 75 = .ok (.iload_n 2, 1) := by decide +kernel
theorem dX11_splitOf_76 : decode cX11_splitOf 76 = .ok (.ireturn, 1) := by decide +kernel
theorem dX11_isOf_0 : decode cX11_isOf 0 = .ok (.iload_n 2, 1) := by decide +kernel
theorem dX11_isOf_1 : decode cX11_isOf 1 = .ok (.iconst 2, 1) := by decide +kernel
theorem dX11_isOf_2 : decode cX11_isOf 2 = .ok (.if_icmp .ne 5, 3) := by decide +kernel
theorem dX11_isOf_5 : decode cX11_isOf 5 = .ok (.iconst 1, 1) := by decide +kernel
theorem dX11_isOf_6 : decode cX11_isOf 6 = .ok (.ireturn, 1) := by decide +kernel
theorem dX11_isOf_7 : decode cX11_isOf 7 = .ok (.aload_n 0, 1) := by decide +kernel
theorem dX11_isOf_8 : decode cX11_isOf 8 = .ok (.getfield 32, 3) := by decide +kernel
theorem dX11_isOf_11 : decode cX11_isOf 11 = .ok (.iconst 5, 1) := by decide +kernel
theorem dX11_isOf_12 : decode cX11_isOf 12 = .ok (.iload_n 1, 1) := by decide +kernel
theorem dX11_isOf_13 : decode cX11_isOf 13 = .ok (.imul, 1) := by decide +kernel
theorem dX11_isOf_14 : decode cX11_isOf 14 = .ok (.iconst 4, 1) := by decide +kernel
theorem dX11_isOf_15 : decode cX11_isOf 15 = .ok (.iadd, 1) := by decide +kernel
theorem dX11_isOf_16 : decode cX11_isOf 16 = .ok (.laload, 1) := by decide +kernel
theorem dX11_isOf_17 : decode cX11_isOf 17 = .ok (.lconst 0, 1) := by decide +kernel
theorem dX11_isOf_18 : decode cX11_isOf 18 = .ok (.lcmp, 1) := by decide +kernel
theorem dX11_isOf_19 : decode cX11_isOf 19 = .ok (.ifCond .eq 5, 3) := by decide +kernel
theorem dX11_isOf_22 : decode cX11_isOf 22 = .ok (.iconst 0, 1) := by decide +kernel
theorem dX11_isOf_23 : decode cX11_isOf 23 = .ok (.ireturn, 1) := by decide +kernel
theorem dX11_isOf_24 : decode cX11_isOf 24 = .ok (.iload_n 2, 1) := by decide +kernel
theorem dX11_isOf_25 : decode cX11_isOf 25 = .ok (.iconst 3, 1) := by decide +kernel
theorem dX11_isOf_26 : decode cX11_isOf 26 = .ok (.if_icmp .ne 5, 3) := by decide +kernel
theorem dX11_isOf_29 : decode cX11_isOf 29 = .ok (.iconst 1, 1) := by decide +kernel
theorem dX11_isOf_30 : decode cX11_isOf 30 = .ok (.ireturn, 1) := by decide +kernel
theorem dX11_isOf_31 : decode cX11_isOf 31 = .ok (.aload_n 0, 1) := by decide +kernel
theorem dX11_isOf_32 : decode cX11_isOf 32 = .ok (.getfield 32, 3) := by decide +kernel
theorem dX11_isOf_35 : decode cX11_isOf 35 = .ok (.iconst 5, 1) := by decide +kernel
theorem dX11_isOf_36 : decode cX11_isOf 36 = .ok (.iload_n 1, 1) := by decide +kernel
theorem dX11_isOf_37 : decode cX11_isOf 37 = .ok (.imul, 1) := by decide +kernel
theorem dX11_isOf_38 : decode cX11_isOf 38 = .ok (.iconst 1, 1) := by decide +kernel
theorem dX11_isOf_39 : decode cX11_isOf 39 = .ok (.iadd, 1) := by decide +kernel
theorem dX11_isOf_40 : decode cX11_isOf 40 = .ok (.laload, 1) := by decide +kernel
theorem dX11_isOf_41 : decode cX11_isOf 41 = .ok (.bipush 8, 2) := by decide +kernel
theorem dX11_isOf_43 : decode cX11_isOf 43 = .ok (.invokestatic 102, 3) := by decide +kernel
theorem dX11_isOf_46 : decode cX11_isOf 46 = .ok (.ifCond .eq 43, 3) := by decide +kernel
theorem dX11_isOf_49 : decode cX11_isOf 49 = .ok (.aload_n 0, 1) := by decide +kernel
theorem dX11_isOf_50 : decode cX11_isOf 50 = .ok (.getfield 32, 3) := by decide +kernel
theorem dX11_isOf_53 : decode cX11_isOf 53 = .ok (.iconst 5, 1) := by decide +kernel
theorem dX11_isOf_54 : decode cX11_isOf 54 = .ok (.iload_n 1, 1) := by decide +kernel
theorem dX11_isOf_55 : decode cX11_isOf 55 = .ok (.imul, 1) := by decide +kernel
theorem dX11_isOf_56 : decode cX11_isOf 56 = .ok (.iconst 2, 1) := by decide +kernel
theorem dX11_isOf_57 : decode cX11_isOf 57 = .ok (.iadd, 1) := by decide +kernel
theorem dX11_isOf_58 : decode cX11_isOf 58 = .ok (.laload, 1) := by decide +kernel
theorem dX11_isOf_59 : decode cX11_isOf 59 = .ok (.bipush 8, 2) := by decide +kernel
theorem dX11_isOf_61 : decode cX11_isOf 61 = .ok (.invokestatic 102, 3) := by decide +kernel
theorem dX11_isOf_64 : decode cX11_isOf 64 = .ok (.ifCond .eq 25, 3) := by decide +kernel
theorem dX11_isOf_67 : decode cX11_isOf 67 = .ok (.aload_n 0, 1) := by decide +kernel
theorem dX11_isOf_68 : decode cX11_isOf 68 = .ok (.getfield 32, 3) := by decide +kernel
theorem dX11_isOf_71 : decode cX11_isOf 71 = .ok (.iconst 5, 1) := by decide +kernel
theorem dX11_isOf_72 : decode cX11_isOf 72 = .ok (.iload_n 1, 1) := by decide +kernel
theorem dX11_isOf_73 : decode cX11_isOf 73 = .ok (.imul, 1) := by decide +kernel
theorem dX11_isOf_74 : decode cX11_isOf 74 = .ok (.iconst 3, 1) := by decide +kernel
theorem dX11_isOf_75 : decode cX11_isOf 75 = .ok (.iadd, 1) := by decide +kernel
theorem dX11_isOf_76 : decode cX11_isOf 76 = .ok (.laload, 1) := by decide +kernel
theorem dX11_isOf_77 : decode cX11_isOf 77 = .ok (.bipush 12, 2) := by decide +kernel
theorem dX11_isOf_79 : decode cX11_isOf 79 = .ok (.invokestatic 102, 3) := by decide +kernel
theorem dX11_isOf_82 : decode cX11_isOf 82 = .ok (.ifCond .eq 7, 3) := by decide +kernel
theorem dX11_isOf_85 : decode cX11_isOf 85 = .ok (.iconst 1, 1) := by decide +kernel
theorem dX11_isOf_86 : decode cX11_isOf 86 = .ok (.goto 4, 3) := by decide +kernel
theorem dX11_isOf_89 : decode cX11_isOf 89 = .ok (.iconst 0, 1) := by decide +kernel
theorem dX11_isOf_90 : decode cX11_isOf 90 = .ok (.istore_n 3, 1) := by decide +kernel
theorem dX11_isOf_91 : decode cX11_isOf 91 = .ok (.iload_n 3, 1) := by decide +kernel
theorem dX11_isOf_92 : decode cX11_isOf 92 = .ok (.ifCond .eq 14, 3) := by decide +kernel
theorem dX11_isOf_95 : decode cX11_isOf 95 = .ok (.aload_n 0, 1) := by decide +kernel
theorem dX11_isOf_96 : decode cX11_isOf 96 = .ok (.getfield 29, 3) := by decide +kernel
theorem dX11_isOf_99 : decode cX11_isOf 99 = .ok (.iload_n 1, 1) := by decide +kernel
theorem dX11_isOf_100 : decode cX11_isOf 100 = .ok (.iaload, 1) := by decide +kernel
theorem dX11_isOf_101 : decode cX11_isOf 101 = .ok (.bipush 100, 2) := by decide +kernel
theorem dX11_isOf_103 : decode cX11_isOf 103 = .ok (.if_icmp .le 5, 3) := by decide +kernel
theorem dX11_isOf_106 : decode cX11_isOf 106 = .ok (.iconst 0, 1) := by decide +kernel
theorem dX11_isOf_107 : decode cX11_isOf 107 = .ok (.ireturn, 1) := by decide +kernel
theorem dX11_isOf_108 : decode cX11_isOf 108 = .ok (.iload_n 2, 1) := by decide +kernel
theorem dX11_isOf_109 : decode cX11_isOf 109 = .ok (.iconst 1, 1) := by decide +kernel
theorem dX11_isOf_110 : decode cX11_isOf 110 = .ok (.if_icmp .ne 28, 3) := by decide +kernel
theorem dX11_isOf_113 : decode cX11_isOf 113 = .ok (.aload_n 0, 1) := by decide +kernel
theorem dX11_isOf_114 : decode cX11_isOf 114 = .ok (.getfield 23, 3) := by decide +kernel
theorem dX11_isOf_117 : decode cX11_isOf 117 = .ok (.iload_n 1, 1) := by decide +kernel
theorem dX11_isOf_118 : decode cX11_isOf 118 = .ok (.iaload, 1) := by decide +kernel
theorem dX11_isOf_119 : decode cX11_isOf 119 = .ok (.bipush 100, 2) := by decide +kernel
theorem dX11_isOf_121 : decode cX11_isOf 121 = .ok (.if_icmp .le 11, 3) := by decide +kernel
theorem dX11_isOf_124 : decode cX11_isOf 124 = .ok (.aload_n 0, 1) := by decide +kernel
theorem dX11_isOf_125 : decode cX11_isOf 125 = .ok (.iload_n 1, 1) := by decide +kernel
theorem dX11_isOf_126 : decode cX11_isOf 126 = .ok (.invokevirtual 106, 3) := by decide +kernel
theorem dX11_isOf_129 : decode cX11_isOf 129 = .ok (.ifCond .le 7, 3) := by decide +kernel
theorem dX11_isOf_132 : decode cX11_isOf 132 = .ok (.iconst 1, 1) := by decide +kernel
theorem dX11_isOf_133 : decode cX11_isOf 133 = .ok (.goto 4, 3) := by decide +kernel
theorem dX11_isOf_136 : decode cX11_isOf 136 = .ok (.iconst 0, 1) := by decide +kernel
theorem dX11_isOf_137 : decode cX11_isOf 137 = .ok (.ireturn, 1) := by decide +kernel
theorem dX11_isOf_138 : decode cX11_isOf 138 = .ok (.aload_n 0, 1) := by decide +kernel
theorem dX11_isOf_139 : decode cX11_isOf 139 = .ok (.getfield 20, 3) := by decide +kernel
theorem dX11_isOf_142 : decode cX11_isOf 142 = .ok (.sipush 400, 3) := by decide +kernel
theorem dX11_isOf_145 : decode cX11_isOf 145 = .ok (.iload_n 1, 1) := by decide +kernel
theorem dX11_isOf_146 : decode cX11_isOf 146 = .ok (.imul, 1) := by decide +kernel
theorem dX11_isOf_147 : decode cX11_isOf 147 = .ok (.aload_n 0, 1) := by decide +kernel
theorem dX11_isOf_148 : decode cX11_isOf 148 = .ok (.getfield 23, 3) := by decide +kernel
