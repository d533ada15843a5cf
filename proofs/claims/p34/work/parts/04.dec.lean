theorem dJ9_max_7cf53_0 : decode cJ9_max_7cf53 0 = .ok (.iload_n 0, 1) := by decide +kernel
theorem dJ9_max_7cf53_1 : decode cJ9_max_7cf53 1 = .ok (.iload_n 1, 1) := by decide +kernel
theorem dJ9_max_7cf53_2 : decode cJ9_max_7cf53 2 = .ok (.if_icmp .lt 7, 3) := by decide +kernel
theorem dJ9_max_7cf53_5 : decode cJ9_max_7cf53 5 = .ok (.iload_n 0, 1) := by decide +kernel
theorem dJ9_max_7cf53_6 : decode cJ9_max_7cf53 6 = .ok (.goto 4, 3) := by decide +kernel
theorem dJ9_max_7cf53_9 : decode cJ9_max_7cf53 9 = .ok (.iload_n 1, 1) := by decide +kernel
theorem dJ9_max_7cf53_10 : decode cJ9_max_7cf53 10 = .ok (.ireturn, 1) := by decide +kernel
theorem dJ9_min_7cf53_0 : decode cJ9_min_7cf53 0 = .ok (.iload_n 0, 1) := by decide +kernel
theorem dJ9_min_7cf53_1 : decode cJ9_min_7cf53 1 = .ok (.iload_n 1, 1) := by decide +kernel
theorem dJ9_min_7cf53_2 : decode cJ9_min_7cf53 2 = .ok (.if_icmp .gt 7, 3) := by decide +kernel
theorem dJ9_min_7cf53_5 : decode cJ9_min_7cf53 5 = .ok (.iload_n 0, 1) := by decide +kernel
theorem dJ9_min_7cf53_6 : decode cJ9_min_7cf53 6 = .ok (.goto 4, 3) := by decide +kernel
theorem dJ9_min_7cf53_9 : decode cJ9_min_7cf53 9 = .ok (.iload_n 1, 1) := by decide +kernel
theorem dJ9_min_7cf53_10 : decode cJ9_min_7cf53 10 = .ok (.ireturn, 1) := by decide +kernel
theorem dJ0_length_8abf5_0 : decode cJ0_length_8abf5 0 = .ok (.aload_n 0, 1) := by decide +kernel
theorem dJ0_length_8abf5_1 : decode cJ0_length_8abf5 1 = .ok (.getfield 9, 3) := by decide +kernel
theorem dJ0_length_8abf5_4 : decode cJ0_length_8abf5 4 = .ok (.arraylength, 1) := by decide +kernel
theorem dJ0_length_8abf5_5 : decode cJ0_length_8abf5 5 = .ok (.aload_n 0, 1) := by decide +kernel
theorem dJ0_length_8abf5_6 : decode cJ0_length_8abf5 6 = .ok (.invokevirtual 335, 3) := by decide +kernel
theorem dJ0_length_8abf5_9 : decode cJ0_length_8abf5 9 = .ok (.ishr, 1) := by decide +kernel
theorem dJ0_length_8abf5_10 : decode cJ0_length_8abf5 10 = .ok (.ireturn, 1) := by decide +kernel
theorem dJ0_charAt_5068e_0 : decode cJ0_charAt_5068e 0 = .ok (.aload_n 0, 1) := by decide +kernel
theorem dJ0_charAt_5068e_1 : decode cJ0_charAt_5068e 1 = .ok (.invokevirtual 492, 3) := by decide +kernel
theorem dJ0_charAt_5068e_4 : decode cJ0_charAt_5068e 4 = .ok (.ifCond .eq 12, 3) := by decide +kernel
theorem dJ0_charAt_5068e_7 : decode cJ0_charAt_5068e 7 = .ok (.aload_n 0, 1) := by decide +kernel
theorem dJ0_charAt_5068e_8 : decode cJ0_charAt_5068e 8 = .ok (.getfield 9, 3) := by decide +kernel
theorem dJ0_charAt_5068e_11 : decode cJ0_charAt_5068e 11 = .ok (.iload_n 1, 1) := by decide +kernel
theorem dJ0_charAt_5068e_12 : decode cJ0_charAt_5068e 12 = .ok (.invokestatic 495, 3) := by decide +kernel
theorem dJ0_charAt_5068e_15 : decode cJ0_charAt_5068e 15 = .ok (.ireturn, 1) := by decide +kernel
theorem dJ0_charAt_5068e_16 : decode cJ0_charAt_5068e 16 = .ok (.aload_n 0, 1) := by decide +kernel
theorem dJ0_charAt_5068e_17 : decode cJ0_charAt_5068e 17 = .ok (.getfield 9, 3) := by decide +kernel
theorem dJ0_charAt_5068e_20 : decode cJ0_charAt_5068e 20 = .ok (.iload_n 1, 1) := by decide +kernel
theorem dJ0_charAt_5068e_21 : decode cJ0_charAt_5068e 21 = .ok (.invokestatic 498, 3) := by decide +kernel
theorem dJ0_charAt_5068e_24 : decode cJ0_charAt_5068e 24 = .ok (.ireturn, 1) := by decide +kernel
theorem dJ0_coder_7d493_0 : decode cJ0_coder_7d493 0 = .ok (.getstatic 38, 3) := by decide +kernel
theorem dJ0_coder_7d493_3 : decode cJ0_coder_7d493 3 = .ok (.ifCond .eq 10, 3) := by decide +kernel
theorem dJ0_coder_7d493_6 : decode cJ0_coder_7d493 6 = .ok (.aload_n 0, 1) := by decide +kernel
theorem dJ0_coder_7d493_7 : decode cJ0_coder_7d493 7 = .ok (.getfield 15, 3) := by decide +kernel
theorem dJ0_coder_7d493_10 : decode cJ0_coder_7d493 10 = .ok (.goto 4, 3) := by decide +kernel
theorem dJ0_coder_7d493_13 : decode cJ0_coder_7d493 13 = .ok (.iconst 1, 1) := by decide +kernel
theorem dJ0_coder_7d493_14 : decode cJ0_coder_7d493 14 = .ok (.ireturn, 1) := by decide +kernel
theorem dJ0_isLatin1_aae02_0 : decode cJ0_isLatin1_aae02 0 = .ok (.getstatic 38, 3) := by decide +kernel
theorem dJ0_isLatin1_aae02_3 : decode cJ0_isLatin1_aae02 3 = .ok (.ifCond .eq 14, 3) := by decide +kernel
theorem dJ0_isLatin1_aae02_6 : decode cJ0_isLatin1_aae02 6 = .ok (.aload_n 0, 1) := by decide +kernel
theorem dJ0_isLatin1_aae02_7 : decode cJ0_isLatin1_aae02 7 = .ok (.getfield 15, 3) := by decide +kernel
theorem dJ0_isLatin1_aae02_10 : decode cJ0_isLatin1_aae02 10 = .ok (.ifCond .ne 7, 3) := by decide +kernel
theorem dJ0_isLatin1_aae02_13 : decode cJ0_isLatin1_aae02 13 = .ok (.iconst 1, 1) := by decide +kernel
theorem dJ0_isLatin1_aae02_14 : decode cJ0_isLatin1_aae02 14 = .ok (.goto 4, 3) := by decide +kernel
theorem dJ0_isLatin1_aae02_17 : decode cJ0_isLatin1_aae02 17 = .ok (.iconst 0, 1) := by decide +kernel
theorem dJ0_isLatin1_aae02_18 : decode cJ0_isLatin1_aae02 18 = .ok (.ireturn, 1) := by decide +kernel
theorem dJ0_checkIndex_df160_0 : decode cJ0_checkIndex_df160 0 = .ok (.iload_n 0, 1) := by decide +kernel
theorem dJ0_checkIndex_df160_1 : decode cJ0_checkIndex_df160 1 = .ok (.iload_n 1, 1) := by decide +kernel
theorem dJ0_checkIndex_df160_2 : decode cJ0_checkIndex_df160 2 = .ok (.getstatic 1053, 3) := by decide +kernel
theorem dJ0_checkIndex_df160_5 : decode cJ0_checkIndex_df160 5 = .ok (.invokestatic 1059, 3) := by decide +kernel
theorem dJ0_checkIndex_df160_8 : decode cJ0_checkIndex_df160 8 = .ok (.pop, 1) := by decide +kernel
theorem dJ0_checkIndex_df160_9 : decode cJ0_checkIndex_df160 9 = .ok (.return_, 1) := by decide +kernel
theorem dJ1_charAt_3b067_0 : decode cJ1_charAt_3b067 0 = .ok (.iload_n 1, 1) := by decide +kernel
theorem dJ1_charAt_3b067_1 : decode cJ1_charAt_3b067 1 = .ok (.aload_n 0, 1) := by decide +kernel
theorem dJ1_charAt_3b067_2 : decode cJ1_charAt_3b067 2 = .ok (.arraylength, 1) := by decide +kernel
theorem dJ1_charAt_3b067_3 : decode cJ1_charAt_3b067 3 = .ok (.invokestatic 9, 3) := by decide +kernel
theorem dJ1_charAt_3b067_6 : decode cJ1_charAt_3b067 6 = .ok (.aload_n 0, 1) := by decide +kernel
theorem dJ1_charAt_3b067_7 : decode cJ1_charAt_3b067 7 = .ok (.iload_n 1, 1) := by decide +kernel
theorem dJ1_charAt_3b067_8 : decode cJ1_charAt_3b067 8 = .ok (.baload, 1) := by decide +kernel
theorem dJ1_charAt_3b067_9 : decode cJ1_charAt_3b067 9 = .ok (.sipush 255, 3) := by decide +kernel
theorem dJ1_charAt_3b067_12 : decode cJ1_charAt_3b067 12 = .ok (.iand, 1) := by decide +kernel
theorem dJ1_charAt_3b067_13 : decode cJ1_charAt_3b067 13 = .ok (.i2c, 1) := by decide +kernel
theorem dJ1_charAt_3b067_14 : decode cJ1_charAt_3b067 14 = .ok (.ireturn, 1) := by decide +kernel
theorem dJ2_getChar_3b067_0 : decode cJ2_getChar_3b067 0 = .ok (.getstatic 44, 3) := by decide +kernel
theorem dJ2_getChar_3b067_3 : decode cJ2_getChar_3b067 3 = .ok (.ifCond .ne 25, 3) := by decide +kernel
theorem dJ2_getChar_3b067_6 : decode cJ2_getChar_3b067 6 = .ok (.iload_n 1, 1) := by decide +kernel
theorem dJ2_getChar_3b067_7 : decode cJ2_getChar_3b067 7 = .ok (.ifCond .lt 11, 3) := by decide +kernel
theorem dJ2_getChar_3b067_10 : decode cJ2_getChar_3b067 10 = .ok (.iload_n 1, 1) := by decide +kernel
theorem dJ2_getChar_3b067_11 : decode cJ2_getChar_3b067 11 = .ok (.aload_n 0, 1) := by decide +kernel
theorem dJ2_getChar_3b067_12 : decode cJ2_getChar_3b067 12 = .ok (.invokestatic 48, 3) := by decide +kernel
theorem dJ2_getChar_3b067_15 : decode cJ2_getChar_3b067 15 = .ok (.if_icmp .lt 13, 3) := by decide +kernel
theorem dJ2_getChar_3b067_18 : decode cJ2_getChar_3b067 18 = .ok (.new 52, 3) := by decide +kernel
theorem dJ2_getChar_3b067_21 : decode cJ2_getChar_3b067 21 = .ok (.dup, 1) := by decide +kernel
theorem dJ2_getChar_3b067_22 : decode cJ2_getChar_3b067 22 = .ok (.ldc 54, 2) := by decide +kernel
theorem dJ2_getChar_3b067_24 : decode cJ2_getChar_3b067 24 = .ok (.invokespecial 56, 3) := by decide +kernel
theorem dJ2_getChar_3b067_27 : decode cJ2_getChar_3b067 27 = .ok (.athrow, 1) := by decide +kernel
theorem dJ2_getChar_3b067_28 : decode cJ2_getChar_3b067 28 = .ok (.iload_n 1, 1) := by decide +kernel
theorem dJ2_getChar_3b067_29 : decode cJ2_getChar_3b067 29 = .ok (.iconst 1, 1) := by decide +kernel
theorem dJ2_getChar_3b067_30 : decode cJ2_getChar_3b067 30 = .ok (.ishl, 1) := by decide +kernel
theorem dJ2_getChar_3b067_31 : decode cJ2_getChar_3b067 31 = .ok (.istore_n 1, 1) := by decide +kernel
theorem dJ2_getChar_3b067_32 : decode cJ2_getChar_3b067 32 = .ok (.aload_n 0, 1) := by decide +kernel
theorem dJ2_getChar_3b067_33 : decode cJ2_getChar_3b067 33 = .ok (.iload_n 1, 1) := by decide +kernel
theorem dJ2_getChar_3b067_34 : decode cJ2_getChar_3b067 34 = .ok (.iinc 1 1, 3) := by decide +kernel
theorem dJ2_getChar_3b067_37 : decode cJ2_getChar_3b067 37 = .ok (.baload, 1) := by decide +kernel
theorem dJ2_getChar_3b067_38 : decode cJ2_getChar_3b067 38 = .ok (.sipush 255, 3) := by decide +kernel
theorem dJ2_getChar_3b067_41 : decode cJ2_getChar_3b067 41 = .ok (.iand, 1) := by decide +kernel
theorem dJ2_getChar_3b067_42 : decode cJ2_getChar_3b067 42 = .ok (.getstatic 59, 3) := by decide +kernel
theorem dJ2_getChar_3b067_45 : decode cJ2_getChar_3b067 45 = .ok (.ishl, 1) := by decide +kernel
theorem dJ2_getChar_3b067_46 : decode cJ2_getChar_3b067 46 = .ok (.aload_n 0, 1) := by decide +kernel
theorem dJ2_getChar_3b067_47 : decode cJ2_getChar_3b067 47 = .ok (.iload_n 1, 1) := by decide +kernel
theorem dJ2_getChar_3b067_48 : decode cJ2_getChar_3b067 48 = .ok (.baload, 1) := by decide +kernel
theorem dJ2_getChar_3b067_49 : decode cJ2_getChar_3b067 49 = .ok (.sipush 255, 3) := by decide +kernel
theorem dJ2_getChar_3b067_52 : decode cJ2_getChar_3b067 52 = .ok (.iand, 1) := by decide +kernel
theorem dJ2_getChar_3b067_53 : decode cJ2_getChar_3b067 53 = .ok (.getstatic 63, 3) := by decide +kernel
theorem dJ2_getChar_3b067_56 : decode cJ2_getChar_3b067 56 = .ok (.ishl, 1) := by decide +kernel
theorem dJ2_getChar_3b067_57 : decode cJ2_getChar_3b067 57 = .ok (.ior, 1) := by decide +kernel
theorem dJ2_getChar_3b067_58 : decode cJ2_getChar_3b067 58 = .ok (.i2c, 1) := by decide +kernel
theorem dJ2_getChar_3b067_59 : decode cJ2_getChar_3b067 59 = .ok (.ireturn, 1) := by decide +kernel
theorem dJ2_length_9d52b_0 : decode cJ2_length_9d52b 0 = .ok (.aload_n 0, 1) := by decide +kernel
theorem dJ2_length_9d52b_1 : decode cJ2_length_9d52b 1 = .ok (.arraylength, 1) := by decide +kernel
theorem dJ2_length_9d52b_2 : decode cJ2_length_9d52b 2 = .ok (.iconst 1, 1) := by decide +kernel
theorem dJ2_length_9d52b_3 : decode cJ2_length_9d52b 3 = .ok (.ishr, 1) := by decide +kernel
theorem dJ2_length_9d52b_4 : decode cJ2_length_9d52b 4 = .ok (.ireturn, 1) := by decide +kernel
theorem dJ2_charAt_3b067_0 : decode cJ2_charAt_3b067 0 = .ok (.iload_n 1, 1) := by decide +kernel
theorem dJ2_charAt_3b067_1 : decode cJ2_charAt_3b067 1 = .ok (.aload_n 0, 1) := by decide +kernel
theorem dJ2_charAt_3b067_2 : decode cJ2_charAt_3b067 2 = .ok (.invokestatic 67, 3) := by decide +kernel
theorem dJ2_charAt_3b067_5 : decode cJ2_charAt_3b067 5 = .ok (.aload_n 0, 1) := by decide +kernel
theorem dJ2_charAt_3b067_6 : decode cJ2_charAt_3b067 6 = .ok (.iload_n 1, 1) := by decide +kernel
theorem dJ2_charAt_3b067_7 : decode cJ2_charAt_3b067 7 = .ok (.invokestatic 71, 3) := by decide +kernel
theorem dJ2_charAt_3b067_10 : decode cJ2_charAt_3b067 10 = .ok (.ireturn, 1) := by decide +kernel
theorem dJ2_checkIndex_2214a_0 : decode cJ2_checkIndex_2214a 0 = .ok (.iload_n 0, 1) := by decide +kernel
theorem dJ2_checkIndex_2214a_1 : decode cJ2_checkIndex_2214a 1 = .ok (.aload_n 1, 1) := by decide +kernel
theorem dJ2_checkIndex_2214a_2 : decode cJ2_checkIndex_2214a 2 = .ok (.invokestatic 48, 3) := by decide +kernel
theorem dJ2_checkIndex_2214a_5 : decode cJ2_checkIndex_2214a 5 = .ok (.invokestatic 414, 3) := by decide +kernel
theorem dJ2_checkIndex_2214a_8 : decode cJ2_checkIndex_2214a 8 = .ok (.return_, 1) := by decide +kernel
theorem dJ3_checkIndex_8e157_0 : decode cJ3_checkIndex_8e157 0 = .ok (.iload_n 0, 1) := by decide +kernel
theorem dJ3_checkIndex_8e157_1 : decode cJ3_checkIndex_8e157 1 = .ok (.ifCond .lt 8, 3) := by decide +kernel
theorem dJ3_checkIndex_8e157_4 : decode cJ3_checkIndex_8e157 4 = .ok (.iload_n 0, 1) := by decide +kernel
theorem dJ3_checkIndex_8e157_5 : decode cJ3_checkIndex_8e157 5 = .ok (.iload_n 1, 1) := by decide +kernel
theorem dJ3_checkIndex_8e157_6 : decode cJ3_checkIndex_8e157 6 = .ok (.if_icmp .lt 10, 3) := by decide +kernel
theorem dJ3_checkIndex_8e157_9 : decode cJ3_checkIndex_8e157 9 = .ok (.aload_n 2, 1) := by decide +kernel
theorem dJ3_checkIndex_8e157_10 : decode cJ3_checkIndex_8e157 10 = .ok (.iload_n 0, 1) := by decide +kernel
theorem dJ3_checkIndex_8e157_11 : decode cJ3_checkIndex_8e157 11 = .ok (.iload_n 1, 1) := by decide +kernel
theorem dJ3_checkIndex_8e157_12 : decode cJ3_checkIndex_8e157 12 = .ok (.invokestatic 95, 3) := by decide +kernel
theorem dJ3_checkIndex_8e157_15 : decode cJ3_checkIndex_8e157 15 = .ok (.athrow, 1) := by decide +kernel
theorem dJ3_checkIndex_8e157_16 : decode cJ3_checkIndex_8e157 16 = .ok (.iload_n 0, 1) := by decide +kernel
theorem dJ3_checkIndex_8e157_17 : decode cJ3_checkIndex_8e157 17 = .ok (.ireturn, 1) := by decide +kernel
theorem dL_cell_0 : decode cL_cell 0 = .ok (.iload_n 1, 1) := by decide +kernel
theorem dL_cell_1 : decode cL_cell 1 = .ok (.aload_n 0, 1) := by decide +kernel
theorem dL_cell_2 : decode cL_cell 2 = .ok (.arraylength, 1) := by decide +kernel
theorem dL_cell_3 : decode cL_cell 3 = .ok (.if_icmp .ge 9, 3) := by decide +kernel
theorem dL_cell_6 : decode cL_cell 6 = .ok (.aload_n 0, 1) := by decide +kernel
theorem dL_cell_7 : decode cL_cell 7 = .ok (.iload_n 1, 1) := by decide +kernel
theorem dL_cell_8 : decode cL_cell 8 = .ok (.iaload, 1) := by decide +kernel
theorem dL_cell_9 : decode cL_cell 9 = .ok (.goto 15, 3) := by decide +kernel
theorem dL_cell_12 : decode cL_cell 12 = .ok (.sipush 7919, 3) := by decide +kernel
theorem dL_cell_15 : decode cL_cell 15 = .ok (.iload_n 1, 1) := by decide +kernel
theorem dL_cell_16 : decode cL_cell 16 = .ok (.iconst 3, 1) := by decide +kernel
theorem dL_cell_17 : decode cL_cell 17 = .ok (.iadd, 1) := by decide +kernel
theorem dL_cell_18 : decode cL_cell 18 = .ok (.imul, 1) := by decide +kernel
theorem dL_cell_19 : decode cL_cell 19 = .ok (.iload_n 1, 1) := by decide +kernel
theorem dL_cell_20 : decode cL_cell 20 = .ok (.bipush 11, 2) := by decide +kernel
theorem dL_cell_22 : decode cL_cell 22 = .ok (.iadd, 1) := by decide +kernel
theorem dL_cell_23 : decode cL_cell 23 = .ok (.imul, 1) := by decide +kernel
theorem dL_cell_24 : decode cL_cell 24 = .ok (.ireturn, 1) := by decide +kernel
theorem dL_low_0 : decode cL_low 0 = .ok (.iload_n 0, 1) := by decide +kernel
theorem dL_low_1 : decode cL_low 1 = .ok (.ldc 7, 2) := by decide +kernel
theorem dL_low_3 : decode cL_low 3 = .ok (.iand, 1) := by decide +kernel
theorem dL_low_4 : decode cL_low 4 = .ok (.iload_n 1, 1) := by decide +kernel
theorem dL_low_5 : decode cL_low 5 = .ok (.irem, 1) := by decide +kernel
theorem dL_low_6 : decode cL_low 6 = .ok (.ireturn, 1) := by decide +kernel
theorem dL_isSound_0 : decode cL_isSound 0 = .ok (.bipush 13, 2) := by decide +kernel
theorem dL_isSound_2 : decode cL_isSound 2 = .ok (.newarray .int, 2) := by decide +kernel
theorem dL_isSound_4 : decode cL_isSound 4 = .ok (.astore_n 1, 1) := by decide +kernel
theorem dL_isSound_5 : decode cL_isSound 5 = .ok (.iconst 0, 1) := by decide +kernel
theorem dL_isSound_6 : decode cL_isSound 6 = .ok (.istore_n 2, 1) := by decide +kernel
theorem dL_isSound_7 : decode cL_isSound 7 = .ok (.iload_n 2, 1) := by decide +kernel
theorem dL_isSound_8 : decode cL_isSound 8 = .ok (.aload_n 0, 1) := by decide +kernel
theorem dL_isSound_9 : decode cL_isSound 9 = .ok (.iconst 1, 1) := by decide +kernel
theorem dL_isSound_10 : decode cL_isSound 10 = .ok (.invokevirtual 8, 3) := by decide +kernel
theorem dL_isSound_13 : decode cL_isSound 13 = .ok (.if_icmp .ge 291, 3) := by decide +kernel
theorem dL_isSound_16 : decode cL_isSound 16 = .ok (.aload_n 0, 1) := by decide +kernel
theorem dL_isSound_17 : decode cL_isSound 17 = .ok (.iload_n 2, 1) := by decide +kernel
theorem dL_isSound_18 : decode cL_isSound 18 = .ok (.iconst 3, 1) := by decide +kernel
theorem dL_isSound_19 : decode cL_isSound 19 = .ok (.invokevirtual 14, 3) := by decide +kernel
theorem dL_isSound_22 : decode cL_isSound 22 = .ok (.istore_n 3, 1) := by decide +kernel
theorem dL_isSound_23 : decode cL_isSound 23 = .ok (.aload_n 1, 1) := by decide +kernel
theorem dL_isSound_24 : decode cL_isSound 24 = .ok (.iload_n 3, 1) := by decide +kernel
theorem dL_isSound_25 : decode cL_isSound 25 = .ok (.dup2, 1) := by decide +kernel
theorem dL_isSound_26 : decode cL_isSound 26 = .ok (.iaload, 1) := by decide +kernel
theorem dL_isSound_27 : decode cL_isSound 27 = .ok (.iconst 1, 1) := by decide +kernel
theorem dL_isSound_28 : decode cL_isSound 28 = .ok (.iadd, 1) := by decide +kernel
theorem dL_isSound_29 : decode cL_isSound 29 = .ok (.iastore, 1) := by decide +kernel
theorem dL_isSound_30 : decode cL_isSound 30 = .ok (.aload_n 0, 1) := by decide +kernel
theorem dL_isSound_31 : decode cL_isSound 31 = .ok (.iload_n 2, 1) := by decide +kernel
theorem dL_isSound_32 : decode cL_isSound 32 = .ok (.bipush 6, 2) := by decide +kernel
theorem dL_isSound_34 : decode cL_isSound 34 = .ok (.invokevirtual 14, 3) := by decide +kernel
theorem dL_isSound_37 : decode cL_isSound 37 = .ok (.istore 4, 2) := by decide +kernel
theorem dL_isSound_39 : decode cL_isSound 39 = .ok (.iload_n 3, 1) := by decide +kernel
theorem dL_isSound_40 : decode cL_isSound 40 = .ok (.iconst 1, 1) := by decide +kernel
theorem dL_isSound_41 : decode cL_isSound 41 = .ok (.if_icmp .ne 7, 3) := by decide +kernel
theorem dL_isSound_44 : decode cL_isSound 44 = .ok (.iconst 1, 1) := by decide +kernel
theorem dL_isSound_45 : decode cL_isSound 45 = .ok (.goto 4, 3) := by decide +kernel
theorem dL_isSound_48 : decode cL_isSound 48 = .ok (.iconst 0, 1) := by decide +kernel
theorem dL_isSound_49 : decode cL_isSound 49 = .ok (.istore 5, 2) := by decide +kernel
theorem dL_isSound_51 : decode cL_isSound 51 = .ok (.iload 5, 2) := by decide +kernel
theorem dL_isSound_53 : decode cL_isSound 53 = .ok (.ifCond .eq 32, 3) := by decide +kernel
theorem dL_isSound_56 : decode cL_isSound 56 = .ok (.aload_n 0, 1) := by decide +kernel
theorem dL_isSound_57 : decode cL_isSound 57 = .ok (.iconst 3, 1) := by decide +kernel
theorem dL_isSound_58 : decode cL_isSound 58 = .ok (.invokevirtual 8, 3) := by decide +kernel
theorem dL_isSound_61 : decode cL_isSound 61 = .ok (.aload_n 0, 1) := by decide +kernel
theorem dL_isSound_62 : decode cL_isSound 62 = .ok (.iload_n 2, 1) := by decide +kernel
theorem dL_isSound_63 : decode cL_isSound 63 = .ok (.iconst 5, 1) := by decide +kernel
theorem dL_isSound_64 : decode cL_isSound 64 = .ok (.invokevirtual 14, 3) := by decide +kernel
theorem dL_isSound_67 : decode cL_isSound 67 = .ok (.if_icmp .le 18, 3) := by decide +kernel
theorem dL_isSound_70 : decode cL_isSound 70 = .ok (.aload_n 0, 1) := by decide +kernel
theorem dL_isSound_71 : decode cL_isSound 71 = .ok (.iconst 3, 1) := by decide +kernel
theorem dL_isSound_72 : decode cL_isSound 72 = .ok (.invokevirtual 8, 3) := by decide +kernel
theorem dL_isSound_75 : decode cL_isSound 75 = .ok (.aload_n 0, 1) := by decide +kernel
theorem dL_isSound_76 : decode cL_isSound 76 = .ok (.iload_n 2, 1) := by decide +kernel
theorem dL_isSound_77 : decode cL_isSound 77 = .ok (.iconst 5, 1) := by decide +kernel
theorem dL_isSound_78 : decode cL_isSound 78 = .ok (.invokevirtual 14, 3) := by decide +kernel
theorem dL_isSound_81 : decode cL_isSound 81 = .ok (.isub, 1) := by decide +kernel
theorem dL_isSound_82 : decode cL_isSound 82 = .ok (.goto 4, 3) := by decide +kernel
theorem dL_isSound_85 : decode cL_isSound 85 = .ok (.iconst 0, 1) := by decide +kernel
theorem dL_isSound_86 : decode cL_isSound 86 = .ok (.istore 6, 2) := by decide +kernel
theorem dL_isSound_88 : decode cL_isSound 88 = .ok (.iload 5, 2) := by decide +kernel
theorem dL_isSound_90 : decode cL_isSound 90 = .ok (.aload_n 0, 1) := by decide +kernel
theorem dL_isSound_91 : decode cL_isSound 91 = .ok (.iload_n 2, 1) := by decide +kernel
theorem dL_isSound_92 : decode cL_isSound 92 = .ok (.iconst 4, 1) := by decide +kernel
theorem dL_isSound_93 : decode cL_isSound 93 = .ok (.invokevirtual 14, 3) := by decide +kernel
theorem dL_isSound_96 : decode cL_isSound 96 = .ok (.ifCond .lt 7, 3) := by decide +kernel
theorem dL_isSound_99 : decode cL_isSound 99 = .ok (.iconst 1, 1) := by decide +kernel
theorem dL_isSound_100 : decode cL_isSound 100 = .ok (.goto 4, 3) := by decide +kernel
theorem dL_isSound_103 : decode cL_isSound 103 = .ok (.iconst 0, 1) := by decide +kernel
theorem dL_isSound_104 : decode cL_isSound 104 = .ok (.if_icmp .ne 91, 3) := by decide +kernel
theorem dL_isSound_107 : decode cL_isSound 107 = .ok (.iload 5, 2) := by decide +kernel
theorem dL_isSound_109 : decode cL_isSound 109 = .ok (.aload_n 0, 1) := by decide +kernel
theorem dL_isSound_110 : decode cL_isSound 110 = .ok (.iload_n 2, 1) := by decide +kernel
theorem dL_isSound_111 : decode cL_isSound 111 = .ok (.iconst 5, 1) := by decide +kernel
theorem dL_isSound_112 : decode cL_isSound 112 = .ok (.invokevirtual 14, 3) := by decide +kernel
theorem dL_isSound_115 : decode cL_isSound 115 = .ok (.ifCond .lt 7, 3) := by decide +kernel
theorem dL_isSound_118 : decode cL_isSound 118 = .ok (.iconst 1, 1) := by decide +kernel
theorem dL_isSound_119 : decode cL_isSound 119 = .ok (.goto 4, 3) := by decide +kernel
theorem dL_isSound_122 : decode cL_isSound 122 = .ok (.iconst 0, 1) := by decide +kernel
theorem dL_isSound_123 : decode cL_isSound 123 = .ok (.if_icmp .ne 72, 3) := by decide +kernel
theorem dL_isSound_126 : decode cL_isSound 126 = .ok (.iload 4, 2) := by decide +kernel
theorem dL_isSound_128 : decode cL_isSound 128 = .ok (.ifCond .lt 67, 3) := by decide +kernel
theorem dL_isSound_131 : decode cL_isSound 131 = .ok (.iload 4, 2) := by decide +kernel
theorem dL_isSound_133 : decode cL_isSound 133 = .ok (.aload_n 0, 1) := by decide +kernel
theorem dL_isSound_134 : decode cL_isSound 134 = .ok (.aload_n 0, 1) := by decide +kernel
theorem dL_isSound_135 : decode cL_isSound 135 = .ok (.iload_n 2, 1) := by decide +kernel
theorem dL_isSound_136 : decode cL_isSound 136 = .ok (.iconst 0, 1) := by decide +kernel
theorem dL_isSound_137 : decode cL_isSound 137 = .ok (.invokevirtual 14, 3) := by decide +kernel
theorem dL_isSound_140 : decode cL_isSound 140 = .ok (.iconst 0, 1) := by decide +kernel
theorem dL_isSound_141 : decode cL_isSound 141 = .ok (.invokevirtual 18, 3) := by decide +kernel
theorem dL_isSound_144 : decode cL_isSound 144 = .ok (.if_icmp .gt 51, 3) := by decide +kernel
theorem dL_isSound_147 : decode cL_isSound 147 = .ok (.aload_n 0, 1) := by decide +kernel
theorem dL_isSound_148 : decode cL_isSound 148 = .ok (.iload_n 2, 1) := by decide +kernel
theorem dL_isSound_149 : decode cL_isSound 149 = .ok (.bipush 7, 2) := by decide +kernel
theorem dL_isSound_151 : decode cL_isSound 151 = .ok (.invokevirtual 14, 3) := by decide +kernel
theorem dL_isSound_154 : decode cL_isSound 154 = .ok (.iload 4, 2) := by decide +kernel
theorem dL_isSound_156 : decode cL_isSound 156 = .ok (.bipush 30, 2) := by decide +kernel
theorem dL_isSound_158 : decode cL_isSound 158 = .ok (.imul, 1) := by decide +kernel
theorem dL_isSound_159 : decode cL_isSound 159 = .ok (.bipush 100, 2) := by decide +kernel
theorem dL_isSound_161 : decode cL_isSound 161 = .ok (.idiv, 1) := by decide +kernel
theorem dL_isSound_162 : decode cL_isSound 162 = .ok (.if_icmp .ne 33, 3) := by decide +kernel
theorem dL_isSound_165 : decode cL_isSound 165 = .ok (.aload_n 0, 1) := by decide +kernel
theorem dL_isSound_166 : decode cL_isSound 166 = .ok (.iload_n 2, 1) := by decide +kernel
theorem dL_isSound_167 : decode cL_isSound 167 = .ok (.bipush 8, 2) := by decide +kernel
theorem dL_isSound_169 : decode cL_isSound 169 = .ok (.invokevirtual 14, 3) := by decide +kernel
theorem dL_isSound_172 : decode cL_isSound 172 = .ok (.iload 4, 2) := by decide +kernel
theorem dL_isSound_174 : decode cL_isSound 174 = .ok (.bipush 75, 2) := by decide +kernel
theorem dL_isSound_176 : decode cL_isSound 176 = .ok (.imul, 1) := by decide +kernel
theorem dL_isSound_177 : decode cL_isSound 177 = .ok (.bipush 100, 2) := by decide +kernel
theorem dL_isSound_179 : decode cL_isSound 179 = .ok (.idiv, 1) := by decide +kernel
theorem dL_isSound_180 : decode cL_isSound 180 = .ok (.if_icmp .ne 15, 3) := by decide +kernel
theorem dL_isSound_183 : decode cL_isSound 183 = .ok (.aload_n 0, 1) := by decide +kernel
theorem dL_isSound_184 : decode cL_isSound 184 = .ok (.iload_n 2, 1) := by decide +kernel
theorem dL_isSound_185 : decode cL_isSound 185 = .ok (.bipush 10, 2) := by decide +kernel
theorem dL_isSound_187 : decode cL_isSound 187 = .ok (.invokevirtual 14, 3) := by decide +kernel
theorem dL_isSound_190 : decode cL_isSound 190 = .ok (.iload 6, 2) := by decide +kernel
theorem dL_isSound_192 : decode cL_isSound 192 = .ok (.if_icmp .eq 5, 3) := by decide +kernel
theorem dL_isSound_195 : decode cL_isSound 195 = .ok (.iconst 0, 1) := by decide +kernel
theorem dL_isSound_196 : decode cL_isSound 196 = .ok (.ireturn, 1) := by decide +kernel
theorem dL_isSound_197 : decode cL_isSound 197 = .ok (.iload 5, 2) := by decide +kernel
theorem dL_isSound_199 : decode cL_isSound 199 = .ok (.ifCond .eq 17, 3) := by decide +kernel
theorem dL_isSound_202 : decode cL_isSound 202 = .ok (.aload_n 1, 1) := by decide +kernel
theorem dL_isSound_203 : decode cL_isSound 203 = .ok (.iconst 5, 1) := by decide +kernel
theorem dL_isSound_204 : decode cL_isSound 204 = .ok (.aload_n 0, 1) := by decide +kernel
theorem dL_isSound_205 : decode cL_isSound 205 = .ok (.iload_n 2, 1) := by decide +kernel
theorem dL_isSound_206 : decode cL_isSound 206 = .ok (.iconst 4, 1) := by decide +kernel
theorem dL_isSound_207 : decode cL_isSound 207 = .ok (.invokevirtual 14, 3) := by decide +kernel
theorem dL_isSound_210 : decode cL_isSound 210 = .ok (.iadd, 1) := by decide +kernel
theorem dL_isSound_211 : decode cL_isSound 211 = .ok (.dup2, 1) := by decide +kernel
theorem dL_isSound_212 : decode cL_isSound 212 = .ok (.iaload, 1) := by decide +kernel
theorem dL_isSound_213 : decode cL_isSound 213 = .ok (.iconst 1, 1) := by decide +kernel
theorem dL_isSound_214 : decode cL_isSound 214 = .ok (.iadd, 1) := by decide +kernel
theorem dL_isSound_215 : decode cL_isSound 215 = .ok (.iastore, 1) := by decide +kernel
theorem dL_isSound_216 : decode cL_isSound 216 = .ok (.iconst 0, 1) := by decide +kernel
theorem dL_isSound_217 : decode cL_isSound 217 = .ok (.istore 7, 2) := by decide +kernel
theorem dL_isSound_219 : decode cL_isSound 219 = .ok (.iload 7, 2) := by decide +kernel
theorem dL_isSound_221 : decode cL_isSound 221 = .ok (.aload_n 0, 1) := by decide +kernel
theorem dL_isSound_222 : decode cL_isSound 222 = .ok (.iconst 1, 1) := by decide +kernel
theorem dL_isSound_223 : decode cL_isSound 223 = .ok (.invokevirtual 8, 3) := by decide +kernel
theorem dL_isSound_226 : decode cL_isSound 226 = .ok (.if_icmp .ge 72, 3) := by decide +kernel
theorem dL_isSound_229 : decode cL_isSound 229 = .ok (.aload_n 0, 1) := by decide +kernel
theorem dL_isSound_230 : decode cL_isSound 230 = .ok (.iload 7, 2) := by decide +kernel
theorem dL_isSound_232 : decode cL_isSound 232 = .ok (.iconst 0, 1) := by decide +kernel
theorem dL_isSound_233 : decode cL_isSound 233 = .ok (.invokevirtual 14, 3) := by decide +kernel
theorem dL_isSound_236 : decode cL_isSound 236 = .ok (.aload_n 0, 1) := by decide +kernel
theorem dL_isSound_237 : decode cL_isSound 237 = .ok (.iload_n 2, 1) := by decide +kernel
theorem dL_isSound_238 : decode cL_isSound 238 = .ok (.iconst 0, 1) := by decide +kernel
theorem dL_isSound_239 : decode cL_isSound 239 = .ok (.invokevirtual 14, 3) := by decide +kernel
theorem dL_isSound_242 : decode cL_isSound 242 = .ok (.if_icmp .ne 50, 3) := by decide +kernel
theorem dL_isSound_245 : decode cL_isSound 245 = .ok (.aload_n 0, 1) := by decide +kernel
theorem dL_isSound_246 : decode cL_isSound 246 = .ok (.iload 7, 2) := by decide +kernel
theorem dL_isSound_248 : decode cL_isSound 248 = .ok (.iconst 1, 1) := by decide +kernel
theorem dL_isSound_249 : decode cL_isSound 249 = .ok (.invokevirtual 14, 3) := by decide +kernel
theorem dL_isSound_252 : decode cL_isSound 252 = .ok (.aload_n 0, 1) := by decide +kernel
theorem dL_isSound_253 : decode cL_isSound 253 = .ok (.iload_n 2, 1) := by decide +kernel
theorem dL_isSound_254 : decode cL_isSound 254 = .ok (.iconst 1, 1) := by decide +kernel
theorem dL_isSound_255 : decode cL_isSound 255 = .ok (.invokevirtual 14, 3) := by decide +kernel
theorem dL_isSound_258 : decode cL_isSound 258 = .ok (.if_icmp .gt 34, 3) := by decide +kernel
theorem dL_isSound_261 : decode cL_isSound 261 = .ok (.aload_n 0, 1) := by decide +kernel
theorem dL_isSound_262 : decode cL_isSound 262 = .ok (.iload 7, 2) := by decide +kernel
theorem dL_isSound_264 : decode cL_isSound 264 = .ok (.iconst 2, 1) := by decide +kernel
theorem dL_isSound_265 : decode cL_isSound 265 = .ok (.invokevirtual 14, 3) := by decide +kernel
theorem dL_isSound_268 : decode cL_isSound 268 = .ok (.aload_n 0, 1) := by decide +kernel
theorem dL_isSound_269 : decode cL_isSound 269 = .ok (.iload_n 2, 1) := by decide +kernel
theorem dL_isSound_270 : decode cL_isSound 270 = .ok (.iconst 2, 1) := by decide +kernel
theorem dL_isSound_271 : decode cL_isSound 271 = .ok (.invokevirtual 14, 3) := by decide +kernel
theorem dL_isSound_274 : decode cL_isSound 274 = .ok (.if_icmp .lt 18, 3) := by decide +kernel
theorem dL_isSound_277 : decode cL_isSound 277 = .ok (.aload_n 0, 1) := by decide +kernel
theorem dL_isSound_278 : decode cL_isSound 278 = .ok (.iload 7, 2) := by decide +kernel
theorem dL_isSound_280 : decode cL_isSound 280 = .ok (.bipush 6, 2) := by decide +kernel
theorem dL_isSound_282 : decode cL_isSound 282 = .ok (.invokevirtual 14, 3) := by decide +kernel
theorem dL_isSound_285 : decode cL_isSound 285 = .ok (.iload 4, 2) := by decide +kernel
theorem dL_isSound_287 : decode cL_isSound 287 = .ok (.if_icmp .le 5, 3) := by decide +kernel
theorem dL_isSound_290 : decode cL_isSound 290 = .ok (.iconst 0, 1) := by decide +kernel
theorem dL_isSound_291 : decode cL_isSound 291 = .ok (.ireturn, 1) := by decide +kernel
theorem dL_isSound_292 : decode cL_isSound 292 = .ok (.iinc 7 1, 3) := by decide +kernel
theorem dL_isSound_295 : decode cL_isSound 295 = .ok (.goto (-76), 3) := by decide +kernel
theorem dL_isSound_298 : decode cL_isSound 298 = .ok (.iinc 2 1, 3) := by decide +kernel
theorem dL_isSound_301 : decode cL_isSound 301 = .ok (.goto (-294), 3) := by decide +kernel
theorem dL_isSound_304 : decode cL_isSound 304 = .ok (.iconst 0, 1) := by decide +kernel
theorem dL_isSound_305 : decode cL_isSound 305 = .ok (.istore_n 2, 1) := by decide +kernel
theorem dL_isSound_306 : decode cL_isSound 306 = .ok (.iload_n 2, 1) := by decide +kernel
theorem dL_isSound_307 : decode cL_isSound 307 = .ok (.iconst 5, 1) := by decide +kernel
theorem dL_isSound_308 : decode cL_isSound 308 = .ok (.if_icmp .ge 24, 3) := by decide +kernel
theorem dL_isSound_311 : decode cL_isSound 311 = .ok (.aload_n 0, 1) := by decide +kernel
theorem dL_isSound_312 : decode cL_isSound 312 = .ok (.iconst 4, 1) := by decide +kernel
theorem dL_isSound_313 : decode cL_isSound 313 = .ok (.iload_n 2, 1) := by decide +kernel
theorem dL_isSound_314 : decode cL_isSound 314 = .ok (.iadd, 1) := by decide +kernel
theorem dL_isSound_315 : decode cL_isSound 315 = .ok (.invokevirtual 8, 3) := by decide +kernel
theorem dL_isSound_318 : decode cL_isSound 318 = .ok (.aload_n 1, 1) := by decide +kernel
theorem dL_isSound_319 : decode cL_isSound 319 = .ok (.iload_n 2, 1) := by decide +kernel
theorem dL_isSound_320 : decode cL_isSound 320 = .ok (.iaload, 1) := by decide +kernel
theorem dL_isSound_321 : decode cL_isSound 321 = .ok (.if_icmp .eq 5, 3) := by decide +kernel
theorem dL_isSound_324 : decode cL_isSound 324 = .ok (.iconst 0, 1) := by decide +kernel
theorem dL_isSound_325 : decode cL_isSound 325 = .ok (.ireturn, 1) := by decide +kernel
theorem dL_isSound_326 : decode cL_isSound 326 = .ok (.iinc 2 1, 3) := by decide +kernel
theorem dL_isSound_329 : decode cL_isSound 329 = .ok (.goto (-23), 3) := by decide +kernel
theorem dL_isSound_332 : decode cL_isSound 332 = .ok (.aload_n 0, 1) := by decide +kernel
theorem dL_isSound_333 : decode cL_isSound 333 = .ok (.bipush 9, 2) := by decide +kernel
theorem dL_isSound_335 : decode cL_isSound 335 = .ok (.invokevirtual 8, 3) := by decide +kernel
theorem dL_isSound_338 : decode cL_isSound 338 = .ok (.aload_n 1, 1) := by decide +kernel
theorem dL_isSound_339 : decode cL_isSound 339 = .ok (.iconst 0, 1) := by decide +kernel
theorem dL_isSound_340 : decode cL_isSound 340 = .ok (.iaload, 1) := by decide +kernel
theorem dL_isSound_341 : decode cL_isSound 341 = .ok (.aload_n 1, 1) := by decide +kernel
theorem dL_isSound_342 : decode cL_isSound 342 = .ok (.iconst 1, 1) := by decide +kernel
theorem dL_isSound_343 : decode cL_isSound 343 = .ok (.iaload, 1) := by decide +kernel
theorem dL_isSound_344 : decode cL_isSound 344 = .ok (.iadd, 1) := by decide +kernel
theorem dL_isSound_345 : decode cL_isSound 345 = .ok (.aload_n 1, 1) := by decide +kernel
theorem dL_isSound_346 : decode cL_isSound 346 = .ok (.iconst 4, 1) := by decide +kernel
theorem dL_isSound_347 : decode cL_isSound 347 = .ok (.iaload, 1) := by decide +kernel
theorem dL_isSound_348 : decode cL_isSound 348 = .ok (.iadd, 1) := by decide +kernel
theorem dL_isSound_349 : decode cL_isSound 349 = .ok (.if_icmp .ne 30, 3) := by decide +kernel
theorem dL_isSound_352 : decode cL_isSound 352 = .ok (.aload_n 1, 1) := by decide +kernel
theorem dL_isSound_353 : decode cL_isSound 353 = .ok (.iconst 0, 1) := by decide +kernel
theorem dL_isSound_354 : decode cL_isSound 354 = .ok (.iaload, 1) := by decide +kernel
theorem dL_isSound_355 : decode cL_isSound 355 = .ok (.aload_n 1, 1) := by decide +kernel
theorem dL_isSound_356 : decode cL_isSound 356 = .ok (.iconst 1, 1) := by decide +kernel
theorem dL_isSound_357 : decode cL_isSound 357 = .ok (.iaload, 1) := by decide +kernel
theorem dL_isSound_358 : decode cL_isSound 358 = .ok (.iadd, 1) := by decide +kernel
theorem dL_isSound_359 : decode cL_isSound 359 = .ok (.aload_n 1, 1) := by decide +kernel
theorem dL_isSound_360 : decode cL_isSound 360 = .ok (.iconst 2, 1) := by decide +kernel
theorem dL_isSound_361 : decode cL_isSound 361 = .ok (.iaload, 1) := by decide +kernel
theorem dL_isSound_362 : decode cL_isSound 362 = .ok (.iadd, 1) := by decide +kernel
theorem dL_isSound_363 : decode cL_isSound 363 = .ok (.aload_n 1, 1) := by decide +kernel
theorem dL_isSound_364 : decode cL_isSound 364 = .ok (.iconst 3, 1) := by decide +kernel
theorem dL_isSound_365 : decode cL_isSound 365 = .ok (.iaload, 1) := by decide +kernel
theorem dL_isSound_366 : decode cL_isSound 366 = .ok (.iadd, 1) := by decide +kernel
theorem dL_isSound_367 : decode cL_isSound 367 = .ok (.aload_n 1, 1) := by decide +kernel
theorem dL_isSound_368 : decode cL_isSound 368 = .ok (.iconst 4, 1) := by decide +kernel
theorem dL_isSound_369 : decode cL_isSound 369 = .ok (.iaload, 1) := by decide +kernel
theorem dL_isSound_370 : decode cL_isSound 370 = .ok (.iadd, 1) := by decide +kernel
theorem dL_isSound_371 : decode cL_isSound 371 = .ok (.aload_n 0, 1) := by decide +kernel
theorem dL_isSound_372 : decode cL_isSound 372 = .ok (.iconst 1, 1) := by decide +kernel
theorem dL_isSound_373 : decode cL_isSound 373 = .ok (.invokevirtual 8, 3) := by decide +kernel
theorem dL_isSound_376 : decode cL_isSound 376 = .ok (.if_icmp .eq 5, 3) := by decide +kernel
theorem dL_isSound_379 : decode cL_isSound 379 = .ok (.iconst 0, 1) := by decide +kernel
theorem dL_isSound_380 : decode cL_isSound 380 = .ok (.ireturn, 1) := by decide +kernel
theorem dL_isSound_381 : decode cL_isSound 381 = .ok (.iconst 0, 1) := by decide +kernel
theorem dL_isSound_382 : decode cL_isSound 382 = .ok (.istore_n 2, 1) := by decide +kernel
theorem dL_isSound_383 : decode cL_isSound 383 = .ok (.iconst 0, 1) := by decide +kernel
theorem dL_isSound_384 : decode cL_isSound 384 = .ok (.istore_n 3, 1) := by decide +kernel
theorem dL_isSound_385 : decode cL_isSound 385 = .ok (.iload_n 3, 1) := by decide +kernel
theorem dL_isSound_386 : decode cL_isSound 386 = .ok (.bipush 8, 2) := by decide +kernel
theorem dL_isSound_388 : decode cL_isSound 388 = .ok (.if_icmp .ge 57, 3) := by decide +kernel
theorem dL_isSound_391 : decode cL_isSound 391 = .ok (.iload_n 2, 1) := by decide +kernel
theorem dL_isSound_392 : decode cL_isSound 392 = .ok (.aload_n 0, 1) := by decide +kernel
theorem dL_isSound_393 : decode cL_isSound 393 = .ok (.iload_n 3, 1) := by decide +kernel
theorem dL_isSound_394 : decode cL_isSound 394 = .ok (.iconst 2, 1) := by decide +kernel
theorem dL_isSound_395 : decode cL_isSound 395 = .ok (.invokevirtual 21, 3) := by decide +kernel
theorem dL_isSound_398 : decode cL_isSound 398 = .ok (.iadd, 1) := by decide +kernel
theorem dL_isSound_399 : decode cL_isSound 399 = .ok (.istore_n 2, 1) := by decide +kernel
theorem dL_isSound_400 : decode cL_isSound 400 = .ok (.aload_n 0, 1) := by decide +kernel
theorem dL_isSound_401 : decode cL_isSound 401 = .ok (.iload_n 3, 1) := by decide +kernel
theorem dL_isSound_402 : decode cL_isSound 402 = .ok (.iconst 0, 1) := by decide +kernel
theorem dL_isSound_403 : decode cL_isSound 403 = .ok (.invokevirtual 21, 3) := by decide +kernel
theorem dL_isSound_406 : decode cL_isSound 406 = .ok (.aload_n 1, 1) := by decide +kernel
theorem dL_isSound_407 : decode cL_isSound 407 = .ok (.iconst 5, 1) := by decide +kernel
theorem dL_isSound_408 : decode cL_isSound 408 = .ok (.iload_n 3, 1) := by decide +kernel
theorem dL_isSound_409 : decode cL_isSound 409 = .ok (.iadd, 1) := by decide +kernel
theorem dL_isSound_410 : decode cL_isSound 410 = .ok (.iaload, 1) := by decide +kernel
theorem dL_isSound_411 : decode cL_isSound 411 = .ok (.if_icmp .ne 26, 3) := by decide +kernel
theorem dL_isSound_414 : decode cL_isSound 414 = .ok (.aload_n 1, 1) := by decide +kernel
theorem dL_isSound_415 : decode cL_isSound 415 = .ok (.iconst 5, 1) := by decide +kernel
theorem dL_isSound_416 : decode cL_isSound 416 = .ok (.iload_n 3, 1) := by decide +kernel
theorem dL_isSound_417 : decode cL_isSound 417 = .ok (.iadd, 1) := by decide +kernel
theorem dL_isSound_418 : decode cL_isSound 418 = .ok (.iaload, 1) := by decide +kernel
theorem dL_isSound_419 : decode cL_isSound 419 = .ok (.iconst 4, 1) := by decide +kernel
theorem dL_isSound_420 : decode cL_isSound 420 = .ok (.if_icmp .gt 17, 3) := by decide +kernel
theorem dL_isSound_423 : decode cL_isSound 423 = .ok (.aload_n 0, 1) := by decide +kernel
theorem dL_isSound_424 : decode cL_isSound 424 = .ok (.iload_n 3, 1) := by decide +kernel
theorem dL_isSound_425 : decode cL_isSound 425 = .ok (.iconst 1, 1) := by decide +kernel
theorem dL_isSound_426 : decode cL_isSound 426 = .ok (.invokevirtual 21, 3) := by decide +kernel
theorem dL_isSound_429 : decode cL_isSound 429 = .ok (.aload_n 1, 1) := by decide +kernel
theorem dL_isSound_430 : decode cL_isSound 430 = .ok (.iconst 5, 1) := by decide +kernel
theorem dL_isSound_431 : decode cL_isSound 431 = .ok (.iload_n 3, 1) := by decide +kernel
theorem dL_isSound_432 : decode cL_isSound 432 = .ok (.iadd, 1) := by decide +kernel
theorem dL_isSound_433 : decode cL_isSound 433 = .ok (.iaload, 1) := by decide +kernel
theorem dL_isSound_434 : decode cL_isSound 434 = .ok (.if_icmp .le 5, 3) := by decide +kernel
theorem dL_isSound_437 : decode cL_isSound 437 = .ok (.iconst 0, 1) := by decide +kernel
theorem dL_isSound_438 : decode cL_isSound 438 = .ok (.ireturn, 1) := by decide +kernel
theorem dL_isSound_439 : decode cL_isSound 439 = .ok (.iinc 3 1, 3) := by decide +kernel
theorem dL_isSound_442 : decode cL_isSound 442 = .ok (.goto (-57), 3) := by decide +kernel
theorem dL_isSound_445 : decode cL_isSound 445 = .ok (.iconst 0, 1) := by decide +kernel
theorem dL_isSound_446 : decode cL_isSound 446 = .ok (.istore_n 3, 1) := by decide +kernel
theorem dL_isSound_447 : decode cL_isSound 447 = .ok (.iconst 0, 1) := by decide +kernel
theorem dL_isSound_448 : decode cL_isSound 448 = .ok (.istore 4, 2) := by decide +kernel
theorem dL_isSound_450 : decode cL_isSound 450 = .ok (.iload 4, 2) := by decide +kernel
theorem dL_isSound_452 : decode cL_isSound 452 = .ok (.aload_n 0, 1) := by decide +kernel
theorem dL_isSound_453 : decode cL_isSound 453 = .ok (.iconst 0, 1) := by decide +kernel
theorem dL_isSound_454 : decode cL_isSound 454 = .ok (.invokevirtual 8, 3) := by decide +kernel
theorem dL_isSound_457 : decode cL_isSound 457 = .ok (.if_icmp .ge 235, 3) := by decide +kernel
theorem dL_isSound_460 : decode cL_isSound 460 = .ok (.iconst 0, 1) := by decide +kernel
theorem dL_isSound_461 : decode cL_isSound 461 = .ok (.istore 5, 2) := by decide +kernel
theorem dL_isSound_463 : decode cL_isSound 463 = .ok (.iconst 0, 1) := by decide +kernel
theorem dL_isSound_464 : decode cL_isSound 464 = .ok (.istore 6, 2) := by decide +kernel
theorem dL_isSound_466 : decode cL_isSound 466 = .ok (.iload 6, 2) := by decide +kernel
theorem dL_isSound_468 : decode cL_isSound 468 = .ok (.aload_n 0, 1) := by decide +kernel
theorem dL_isSound_469 : decode cL_isSound 469 = .ok (.iconst 2, 1) := by decide +kernel
theorem dL_isSound_470 : decode cL_isSound 470 = .ok (.invokevirtual 8, 3) := by decide +kernel
theorem dL_isSound_473 : decode cL_isSound 473 = .ok (.if_icmp .ge 124, 3) := by decide +kernel
theorem dL_isSound_476 : decode cL_isSound 476 = .ok (.iload 5, 2) := by decide +kernel
theorem dL_isSound_478 : decode cL_isSound 478 = .ok (.aload_n 0, 1) := by decide +kernel
theorem dL_isSound_479 : decode cL_isSound 479 = .ok (.iload 6, 2) := by decide +kernel
theorem dL_isSound_481 : decode cL_isSound 481 = .ok (.iconst 0, 1) := by decide +kernel
theorem dL_isSound_482 : decode cL_isSound 482 = .ok (.invokevirtual 24, 3) := by decide +kernel
theorem dL_isSound_485 : decode cL_isSound 485 = .ok (.iload 4, 2) := by decide +kernel
theorem dL_isSound_487 : decode cL_isSound 487 = .ok (.if_icmp .ne 13, 3) := by decide +kernel
theorem dL_isSound_490 : decode cL_isSound 490 = .ok (.aload_n 0, 1) := by decide +kernel
theorem dL_isSound_491 : decode cL_isSound 491 = .ok (.iload 6, 2) := by decide +kernel
theorem dL_isSound_493 : decode cL_isSound 493 = .ok (.iconst 2, 1) := by decide +kernel
theorem dL_isSound_494 : decode cL_isSound 494 = .ok (.invokevirtual 24, 3) := by decide +kernel
theorem dL_isSound_497 : decode cL_isSound 497 = .ok (.goto 4, 3) := by decide +kernel
theorem dL_isSound_500 : decode cL_isSound 500 = .ok (.iconst 0, 1) := by decide +kernel
theorem dL_isSound_501 : decode cL_isSound 501 = .ok (.iadd, 1) := by decide +kernel
theorem dL_isSound_502 : decode cL_isSound 502 = .ok (.istore 5, 2) := by decide +kernel
theorem dL_isSound_504 : decode cL_isSound 504 = .ok (.aload_n 0, 1) := by decide +kernel
theorem dL_isSound_505 : decode cL_isSound 505 = .ok (.iload 6, 2) := by decide +kernel
theorem dL_isSound_507 : decode cL_isSound 507 = .ok (.invokevirtual 27, 3) := by decide +kernel
theorem dL_isSound_510 : decode cL_isSound 510 = .ok (.istore 7, 2) := by decide +kernel
theorem dL_isSound_512 : decode cL_isSound 512 = .ok (.iload 7, 2) := by decide +kernel
theorem dL_isSound_514 : decode cL_isSound 514 = .ok (.ifCond .lt 7, 3) := by decide +kernel
theorem dL_isSound_517 : decode cL_isSound 517 = .ok (.iconst 1, 1) := by decide +kernel
theorem dL_isSound_518 : decode cL_isSound 518 = .ok (.goto 4, 3) := by decide +kernel
theorem dL_isSound_521 : decode cL_isSound 521 = .ok (.iconst 0, 1) := by decide +kernel
theorem dL_isSound_522 : decode cL_isSound 522 = .ok (.aload_n 0, 1) := by decide +kernel
theorem dL_isSound_523 : decode cL_isSound 523 = .ok (.iload 6, 2) := by decide +kernel
theorem dL_isSound_525 : decode cL_isSound 525 = .ok (.iconst 3, 1) := by decide +kernel
theorem dL_isSound_526 : decode cL_isSound 526 = .ok (.invokevirtual 24, 3) := by decide +kernel
theorem dL_isSound_529 : decode cL_isSound 529 = .ok (.ifCond .le 7, 3) := by decide +kernel
theorem dL_isSound_532 : decode cL_isSound 532 = .ok (.iconst 1, 1) := by decide +kernel
theorem dL_isSound_533 : decode cL_isSound 533 = .ok (.goto 4, 3) := by decide +kernel
theorem dL_isSound_536 : decode cL_isSound 536 = .ok (.iconst 0, 1) := by decide +kernel
theorem dL_isSound_537 : decode cL_isSound 537 = .ok (.if_icmp .ne 52, 3) := by decide +kernel
theorem dL_isSound_540 : decode cL_isSound 540 = .ok (.iload 7, 2) := by decide +kernel
theorem dL_isSound_542 : decode cL_isSound 542 = .ok (.ifCond .lt 49, 3) := by decide +kernel
theorem dL_isSound_545 : decode cL_isSound 545 = .ok (.aload_n 0, 1) := by decide +kernel
theorem dL_isSound_546 : decode cL_isSound 546 = .ok (.iload 7, 2) := by decide +kernel
theorem dL_isSound_548 : decode cL_isSound 548 = .ok (.iconst 3, 1) := by decide +kernel
theorem dL_isSound_549 : decode cL_isSound 549 = .ok (.invokevirtual 14, 3) := by decide +kernel
theorem dL_isSound_552 : decode cL_isSound 552 = .ok (.ifCond .ne 37, 3) := by decide +kernel
theorem dL_isSound_555 : decode cL_isSound 555 = .ok (.aload_n 0, 1) := by decide +kernel
theorem dL_isSound_556 : decode cL_isSound 556 = .ok (.iload 7, 2) := by decide +kernel
theorem dL_isSound_558 : decode cL_isSound 558 = .ok (.iconst 0, 1) := by decide +kernel
theorem dL_isSound_559 : decode cL_isSound 559 = .ok (.invokevirtual 14, 3) := by decide +kernel
theorem dL_isSound_562 : decode cL_isSound 562 = .ok (.aload_n 0, 1) := by decide +kernel
theorem dL_isSound_563 : decode cL_isSound 563 = .ok (.iload 6, 2) := by decide +kernel
theorem dL_isSound_565 : decode cL_isSound 565 = .ok (.iconst 0, 1) := by decide +kernel
theorem dL_isSound_566 : decode cL_isSound 566 = .ok (.invokevirtual 24, 3) := by decide +kernel
theorem dL_isSound_569 : decode cL_isSound 569 = .ok (.if_icmp .ne 20, 3) := by decide +kernel
theorem dL_isSound_572 : decode cL_isSound 572 = .ok (.aload_n 0, 1) := by decide +kernel
theorem dL_isSound_573 : decode cL_isSound 573 = .ok (.iload 7, 2) := by decide +kernel
theorem dL_isSound_575 : decode cL_isSound 575 = .ok (.iconst 1, 1) := by decide +kernel
theorem dL_isSound_576 : decode cL_isSound 576 = .ok (.invokevirtual 14, 3) := by decide +kernel
theorem dL_isSound_579 : decode cL_isSound 579 = .ok (.aload_n 0, 1) := by decide +kernel
theorem dL_isSound_580 : decode cL_isSound 580 = .ok (.iload 6, 2) := by decide +kernel
theorem dL_isSound_582 : decode cL_isSound 582 = .ok (.iconst 1, 1) := by decide +kernel
theorem dL_isSound_583 : decode cL_isSound 583 = .ok (.invokevirtual 24, 3) := by decide +kernel
theorem dL_isSound_586 : decode cL_isSound 586 = .ok (.if_icmp .ge 5, 3) := by decide +kernel
theorem dL_isSound_589 : decode cL_isSound 589 = .ok (.iconst 0, 1) := by decide +kernel
theorem dL_isSound_590 : decode cL_isSound 590 = .ok (.ireturn, 1) := by decide +kernel
theorem dL_isSound_591 : decode cL_isSound 591 = .ok (.iinc 6 1, 3) := by decide +kernel
theorem dL_isSound_594 : decode cL_isSound 594 = .ok (.goto (-128), 3) := by decide +kernel
theorem dL_isSound_597 : decode cL_isSound 597 = .ok (.aload_n 0, 1) := by decide +kernel
theorem dL_isSound_598 : decode cL_isSound 598 = .ok (.iload 4, 2) := by decide +kernel
theorem dL_isSound_600 : decode cL_isSound 600 = .ok (.iconst 3, 1) := by decide +kernel
theorem dL_isSound_601 : decode cL_isSound 601 = .ok (.invokevirtual 18, 3) := by decide +kernel
theorem dL_isSound_604 : decode cL_isSound 604 = .ok (.istore 6, 2) := by decide +kernel
theorem dL_isSound_606 : decode cL_isSound 606 = .ok (.iload_n 3, 1) := by decide +kernel
theorem dL_isSound_607 : decode cL_isSound 607 = .ok (.aload_n 0, 1) := by decide +kernel
theorem dL_isSound_608 : decode cL_isSound 608 = .ok (.iload 4, 2) := by decide +kernel
theorem dL_isSound_610 : decode cL_isSound 610 = .ok (.iconst 5, 1) := by decide +kernel
theorem dL_isSound_611 : decode cL_isSound 611 = .ok (.invokevirtual 18, 3) := by decide +kernel
theorem dL_isSound_614 : decode cL_isSound 614 = .ok (.iadd, 1) := by decide +kernel
theorem dL_isSound_615 : decode cL_isSound 615 = .ok (.istore_n 3, 1) := by decide +kernel
theorem dL_isSound_616 : decode cL_isSound 616 = .ok (.aload_n 0, 1) := by decide +kernel
theorem dL_isSound_617 : decode cL_isSound 617 = .ok (.iload 4, 2) := by decide +kernel
theorem dL_isSound_619 : decode cL_isSound 619 = .ok (.iconst 2, 1) := by decide +kernel
theorem dL_isSound_620 : decode cL_isSound 620 = .ok (.invokevirtual 18, 3) := by decide +kernel
theorem dL_isSound_623 : decode cL_isSound 623 = .ok (.iload 5, 2) := by decide +kernel
theorem dL_isSound_625 : decode cL_isSound 625 = .ok (.if_icmp .ne 59, 3) := by decide +kernel
theorem dL_isSound_628 : decode cL_isSound 628 = .ok (.aload_n 0, 1) := by decide +kernel
theorem dL_isSound_629 : decode cL_isSound 629 = .ok (.iload 4, 2) := by decide +kernel
theorem dL_isSound_631 : decode cL_isSound 631 = .ok (.iconst 4, 1) := by decide +kernel
theorem dL_isSound_632 : decode cL_isSound 632 = .ok (.invokevirtual 18, 3) := by decide +kernel
theorem dL_isSound_635 : decode cL_isSound 635 = .ok (.iload 5, 2) := by decide +kernel
theorem dL_isSound_637 : decode cL_isSound 637 = .ok (.iload 6, 2) := by decide +kernel
theorem dL_isSound_639 : decode cL_isSound 639 = .ok (.if_icmp .le 11, 3) := by decide +kernel
theorem dL_isSound_642 : decode cL_isSound 642 = .ok (.iload 5, 2) := by decide +kernel
theorem dL_isSound_644 : decode cL_isSound 644 = .ok (.iload 6, 2) := by decide +kernel
theorem dL_isSound_646 : decode cL_isSound 646 = .ok (.isub, 1) := by decide +kernel
theorem dL_isSound_647 : decode cL_isSound 647 = .ok (.goto 4, 3) := by decide +kernel
theorem dL_isSound_650 : decode cL_isSound 650 = .ok (.iconst 0, 1) := by decide +kernel
theorem dL_isSound_651 : decode cL_isSound 651 = .ok (.if_icmp .ne 33, 3) := by decide +kernel
theorem dL_isSound_654 : decode cL_isSound 654 = .ok (.iload 6, 2) := by decide +kernel
theorem dL_isSound_656 : decode cL_isSound 656 = .ok (.aload_n 0, 1) := by decide +kernel
theorem dL_isSound_657 : decode cL_isSound 657 = .ok (.iload 4, 2) := by decide +kernel
theorem dL_isSound_659 : decode cL_isSound 659 = .ok (.iconst 5, 1) := by decide +kernel
theorem dL_isSound_660 : decode cL_isSound 660 = .ok (.invokevirtual 18, 3) := by decide +kernel
theorem dL_isSound_663 : decode cL_isSound 663 = .ok (.if_icmp .gt 21, 3) := by decide +kernel
theorem dL_isSound_666 : decode cL_isSound 666 = .ok (.aload_n 0, 1) := by decide +kernel
theorem dL_isSound_667 : decode cL_isSound 667 = .ok (.iload 4, 2) := by decide +kernel
theorem dL_isSound_669 : decode cL_isSound 669 = .ok (.bipush 6, 2) := by decide +kernel
theorem dL_isSound_671 : decode cL_isSound 671 = .ok (.invokevirtual 18, 3) := by decide +kernel
theorem dL_isSound_674 : decode cL_isSound 674 = .ok (.aload_n 0, 1) := by decide +kernel
theorem dL_isSound_675 : decode cL_isSound 675 = .ok (.iload 4, 2) := by decide +kernel
theorem dL_isSound_677 : decode cL_isSound 677 = .ok (.iconst 5, 1) := by decide +kernel
theorem dL_isSound_678 : decode cL_isSound 678 = .ok (.invokevirtual 18, 3) := by decide +kernel
theorem dL_isSound_681 : decode cL_isSound 681 = .ok (.if_icmp .le 5, 3) := by decide +kernel
theorem dL_isSound_684 : decode cL_isSound 684 = .ok (.iconst 0, 1) := by decide +kernel
theorem dL_isSound_685 : decode cL_isSound 685 = .ok (.ireturn, 1) := by decide +kernel
theorem dL_isSound_686 : decode cL_isSound 686 = .ok (.iinc 4 1, 3) := by decide +kernel
theorem dL_isSound_689 : decode cL_isSound 689 = .ok (.goto (-239), 3) := by decide +kernel
theorem dL_isSound_692 : decode cL_isSound 692 = .ok (.iconst 0, 1) := by decide +kernel
theorem dL_isSound_693 : decode cL_isSound 693 = .ok (.istore 4, 2) := by decide +kernel
theorem dL_isSound_695 : decode cL_isSound 695 = .ok (.iconst 0, 1) := by decide +kernel
theorem dL_isSound_696 : decode cL_isSound 696 = .ok (.istore 5, 2) := by decide +kernel
theorem dL_isSound_698 : decode cL_isSound 698 = .ok (.iload 5, 2) := by decide +kernel
theorem dL_isSound_700 : decode cL_isSound 700 = .ok (.iconst 5, 1) := by decide +kernel
theorem dL_isSound_701 : decode cL_isSound 701 = .ok (.if_icmp .ge 20, 3) := by decide +kernel
theorem dL_isSound_704 : decode cL_isSound 704 = .ok (.iload 4, 2) := by decide +kernel
theorem dL_isSound_706 : decode cL_isSound 706 = .ok (.aload_n 0, 1) := by decide +kernel
theorem dL_isSound_707 : decode cL_isSound 707 = .ok (.iload 5, 2) := by decide +kernel
theorem dL_isSound_709 : decode cL_isSound 709 = .ok (.invokevirtual 30, 3) := by decide +kernel
theorem dL_isSound_712 : decode cL_isSound 712 = .ok (.iadd, 1) := by decide +kernel
theorem dL_isSound_713 : decode cL_isSound 713 = .ok (.istore 4, 2) := by decide +kernel
theorem dL_isSound_715 : decode cL_isSound 715 = .ok (.iinc 5 1, 3) := by decide +kernel
theorem dL_isSound_718 : decode cL_isSound 718 = .ok (.goto (-20), 3) := by decide +kernel
theorem dL_isSound_721 : decode cL_isSound 721 = .ok (.iload_n 3, 1) := by decide +kernel
theorem dL_isSound_722 : decode cL_isSound 722 = .ok (.aload_n 0, 1) := by decide +kernel
theorem dL_isSound_723 : decode cL_isSound 723 = .ok (.iconst 1, 1) := by decide +kernel
theorem dL_isSound_724 : decode cL_isSound 724 = .ok (.invokevirtual 8, 3) := by decide +kernel
theorem dL_isSound_727 : decode cL_isSound 727 = .ok (.if_icmp .ne 73, 3) := by decide +kernel
theorem dL_isSound_730 : decode cL_isSound 730 = .ok (.iload_n 2, 1) := by decide +kernel
theorem dL_isSound_731 : decode cL_isSound 731 = .ok (.aload_n 0, 1) := by decide +kernel
theorem dL_isSound_732 : decode cL_isSound 732 = .ok (.iconst 0, 1) := by decide +kernel
theorem dL_isSound_733 : decode cL_isSound 733 = .ok (.invokevirtual 30, 3) := by decide +kernel
theorem dL_isSound_736 : decode cL_isSound 736 = .ok (.aload_n 0, 1) := by decide +kernel
theorem dL_isSound_737 : decode cL_isSound 737 = .ok (.iconst 1, 1) := by decide +kernel
theorem dL_isSound_738 : decode cL_isSound 738 = .ok (.invokevirtual 30, 3) := by decide +kernel
theorem dL_isSound_741 : decode cL_isSound 741 = .ok (.iadd, 1) := by decide +kernel
theorem dL_isSound_742 : decode cL_isSound 742 = .ok (.aload_n 0, 1) := by decide +kernel
theorem dL_isSound_743 : decode cL_isSound 743 = .ok (.iconst 2, 1) := by decide +kernel
theorem dL_isSound_744 : decode cL_isSound 744 = .ok (.invokevirtual 30, 3) := by decide +kernel
theorem dL_isSound_747 : decode cL_isSound 747 = .ok (.iadd, 1) := by decide +kernel
theorem dL_isSound_748 : decode cL_isSound 748 = .ok (.aload_n 0, 1) := by decide +kernel
theorem dL_isSound_749 : decode cL_isSound 749 = .ok (.iconst 3, 1) := by decide +kernel
theorem dL_isSound_750 : decode cL_isSound 750 = .ok (.invokevirtual 30, 3) := by decide +kernel
theorem dL_isSound_753 : decode cL_isSound 753 = .ok (.iadd, 1) := by decide +kernel
theorem dL_isSound_754 : decode cL_isSound 754 = .ok (.if_icmp .ne 46, 3) := by decide +kernel
theorem dL_isSound_757 : decode cL_isSound 757 = .ok (.aload_n 0, 1) := by decide +kernel
theorem dL_isSound_758 : decode cL_isSound 758 = .ok (.bipush 7, 2) := by decide +kernel
theorem dL_isSound_760 : decode cL_isSound 760 = .ok (.invokevirtual 30, 3) := by decide +kernel
theorem dL_isSound_763 : decode cL_isSound 763 = .ok (.ldc 33, 2) := by decide +kernel
theorem dL_isSound_765 : decode cL_isSound 765 = .ok (.iload 4, 2) := by decide +kernel
theorem dL_isSound_767 : decode cL_isSound 767 = .ok (.iadd, 1) := by decide +kernel
theorem dL_isSound_768 : decode cL_isSound 768 = .ok (.aload_n 0, 1) := by decide +kernel
theorem dL_isSound_769 : decode cL_isSound 769 = .ok (.iconst 5, 1) := by decide +kernel
theorem dL_isSound_770 : decode cL_isSound 770 = .ok (.invokevirtual 30, 3) := by decide +kernel
theorem dL_isSound_773 : decode cL_isSound 773 = .ok (.isub, 1) := by decide +kernel
theorem dL_isSound_774 : decode cL_isSound 774 = .ok (.aload_n 0, 1) := by decide +kernel
theorem dL_isSound_775 : decode cL_isSound 775 = .ok (.bipush 6, 2) := by decide +kernel
theorem dL_isSound_777 : decode cL_isSound 777 = .ok (.invokevirtual 30, 3) := by decide +kernel
theorem dL_isSound_780 : decode cL_isSound 780 = .ok (.isub, 1) := by decide +kernel
theorem dL_isSound_781 : decode cL_isSound 781 = .ok (.if_icmp .ne 19, 3) := by decide +kernel
theorem dL_isSound_784 : decode cL_isSound 784 = .ok (.aload_n 0, 1) := by decide +kernel
theorem dL_isSound_785 : decode cL_isSound 785 = .ok (.invokevirtual 34, 3) := by decide +kernel
theorem dL_isSound_788 : decode cL_isSound 788 = .ok (.aload_n 0, 1) := by decide +kernel
theorem dL_isSound_789 : decode cL_isSound 789 = .ok (.iconst 4, 1) := by decide +kernel
theorem dL_isSound_790 : decode cL_isSound 790 = .ok (.invokevirtual 8, 3) := by decide +kernel
theorem dL_isSound_793 : decode cL_isSound 793 = .ok (.if_icmp .gt 7, 3) := by decide +kernel
theorem dL_isSound_796 : decode cL_isSound 796 = .ok (.iconst 1, 1) := by decide +kernel
theorem dL_isSound_797 : decode cL_isSound 797 = .ok (.goto 4, 3) := by decide +kernel
theorem dL_isSound_800 : decode cL_isSound 800 = .ok (.iconst 0, 1) := by decide +kernel
theorem dL_isSound_801 : decode cL_isSound 801 = .ok (.ireturn, 1) := by decide +kernel
theorem dL_isGivingTold_0 : decode cL_isGivingTold 0 = .ok (.aload_n 0, 1) := by decide +kernel
theorem dL_isGivingTold_1 : decode cL_isGivingTold 1 = .ok (.invokevirtual 38, 3) := by decide +kernel
theorem dL_isGivingTold_4 : decode cL_isGivingTold 4 = .ok (.lstore_n 3, 1) := by decide +kernel
theorem dL_isGivingTold_5 : decode cL_isGivingTold 5 = .ok (.aload_n 0, 1) := by decide +kernel
theorem dL_isGivingTold_6 : decode cL_isGivingTold 6 = .ok (.iload_n 1, 1) := by decide +kernel
theorem dL_isGivingTold_7 : decode cL_isGivingTold 7 = .ok (.iload_n 2, 1) := by decide +kernel
theorem dL_isGivingTold_8 : decode cL_isGivingTold 8 = .ok (.iconst 2, 1) := by decide +kernel
theorem dL_isGivingTold_9 : decode cL_isGivingTold 9 = .ok (.invokevirtual 42, 3) := by decide +kernel
theorem dL_isGivingTold_12 : decode cL_isGivingTold 12 = .ok (.istore 5, 2) := by decide +kernel
theorem dL_isGivingTold_14 : decode cL_isGivingTold 14 = .ok (.iload 5, 2) := by decide +kernel
theorem dL_isGivingTold_16 : decode cL_isGivingTold 16 = .ok (.ifCond .ge 29, 3) := by decide +kernel
theorem dL_isGivingTold_19 : decode cL_isGivingTold 19 = .ok (.aload_n 0, 1) := by decide +kernel
theorem dL_isGivingTold_20 : decode cL_isGivingTold 20 = .ok (.iload_n 1, 1) := by decide +kernel
theorem dL_isGivingTold_21 : decode cL_isGivingTold 21 = .ok (.iload_n 2, 1) := by decide +kernel
theorem dL_isGivingTold_22 : decode cL_isGivingTold 22 = .ok (.invokevirtual 46, 3) := by decide +kernel
theorem dL_isGivingTold_25 : decode cL_isGivingTold 25 = .ok (.iload 5, 2) := by decide +kernel
theorem dL_isGivingTold_27 : decode cL_isGivingTold 27 = .ok (.if_icmp .ne 16, 3) := by decide +kernel
theorem dL_isGivingTold_30 : decode cL_isGivingTold 30 = .ok (.aload_n 0, 1) := by decide +kernel
theorem dL_isGivingTold_31 : decode cL_isGivingTold 31 = .ok (.invokevirtual 38, 3) := by decide +kernel
theorem dL_isGivingTold_34 : decode cL_isGivingTold 34 = .ok (.lload_n 3, 1) := by decide +kernel
theorem dL_isGivingTold_35 : decode cL_isGivingTold 35 = .ok (.lcmp, 1) := by decide +kernel
theorem dL_isGivingTold_36 : decode cL_isGivingTold 36 = .ok (.ifCond .ne 7, 3) := by decide +kernel
theorem dL_isGivingTold_39 : decode cL_isGivingTold 39 = .ok (.iconst 1, 1) := by decide +kernel
theorem dL_isGivingTold_40 : decode cL_isGivingTold 40 = .ok (.goto 4, 3) := by decide +kernel
theorem dL_isGivingTold_43 : decode cL_isGivingTold 43 = .ok (.iconst 0, 1) := by decide +kernel
theorem dL_isGivingTold_44 : decode cL_isGivingTold 44 = .ok (.ireturn, 1) := by decide +kernel
theorem dL_isGivingTold_45 : decode cL_isGivingTold 45 = .ok (.aload_n 0, 1) := by decide +kernel
theorem dL_isGivingTold_46 : decode cL_isGivingTold 46 = .ok (.iload_n 1, 1) := by decide +kernel
theorem dL_isGivingTold_47 : decode cL_isGivingTold 47 = .ok (.iconst 4, 1) := by decide +kernel
theorem dL_isGivingTold_48 : decode cL_isGivingTold 48 = .ok (.invokevirtual 14, 3) := by decide +kernel
theorem dL_isGivingTold_51 : decode cL_isGivingTold 51 = .ok (.istore 6, 2) := by decide +kernel
theorem dL_isGivingTold_53 : decode cL_isGivingTold 53 = .ok (.aload_n 0, 1) := by decide +kernel
theorem dL_isGivingTold_54 : decode cL_isGivingTold 54 = .ok (.iload 6, 2) := by decide +kernel
theorem dL_isGivingTold_56 : decode cL_isGivingTold 56 = .ok (.iconst 2, 1) := by decide +kernel
theorem dL_isGivingTold_57 : decode cL_isGivingTold 57 = .ok (.invokevirtual 21, 3) := by decide +kernel
theorem dL_isGivingTold_60 : decode cL_isGivingTold 60 = .ok (.istore 7, 2) := by decide +kernel
theorem dL_isGivingTold_62 : decode cL_isGivingTold 62 = .ok (.aload_n 0, 1) := by decide +kernel
theorem dL_isGivingTold_63 : decode cL_isGivingTold 63 = .ok (.iload_n 1, 1) := by decide +kernel
theorem dL_isGivingTold_64 : decode cL_isGivingTold 64 = .ok (.iload_n 2, 1) := by decide +kernel
theorem dL_isGivingTold_65 : decode cL_isGivingTold 65 = .ok (.iconst 0, 1) := by decide +kernel
theorem dL_isGivingTold_66 : decode cL_isGivingTold 66 = .ok (.invokevirtual 42, 3) := by decide +kernel
theorem dL_isGivingTold_69 : decode cL_isGivingTold 69 = .ok (.istore 8, 2) := by decide +kernel
theorem dL_isGivingTold_71 : decode cL_isGivingTold 71 = .ok (.aload_n 0, 1) := by decide +kernel
theorem dL_isGivingTold_72 : decode cL_isGivingTold 72 = .ok (.iload_n 1, 1) := by decide +kernel
theorem dL_isGivingTold_73 : decode cL_isGivingTold 73 = .ok (.iload_n 2, 1) := by decide +kernel
theorem dL_isGivingTold_74 : decode cL_isGivingTold 74 = .ok (.iconst 1, 1) := by decide +kernel
theorem dL_isGivingTold_75 : decode cL_isGivingTold 75 = .ok (.invokevirtual 42, 3) := by decide +kernel
theorem dL_isGivingTold_78 : decode cL_isGivingTold 78 = .ok (.istore 9, 2) := by decide +kernel
theorem dL_isGivingTold_80 : decode cL_isGivingTold 80 = .ok (.aload_n 0, 1) := by decide +kernel
theorem dL_isGivingTold_81 : decode cL_isGivingTold 81 = .ok (.iload_n 1, 1) := by decide +kernel
theorem dL_isGivingTold_82 : decode cL_isGivingTold 82 = .ok (.iconst 2, 1) := by decide +kernel
theorem dL_isGivingTold_83 : decode cL_isGivingTold 83 = .ok (.invokevirtual 14, 3) := by decide +kernel
theorem dL_isGivingTold_86 : decode cL_isGivingTold 86 = .ok (.istore 10, 2) := by decide +kernel
theorem dL_isGivingTold_88 : decode cL_isGivingTold 88 = .ok (.aload_n 0, 1) := by decide +kernel
theorem dL_isGivingTold_89 : decode cL_isGivingTold 89 = .ok (.iconst 1, 1) := by decide +kernel
theorem dL_isGivingTold_90 : decode cL_isGivingTold 90 = .ok (.invokevirtual 30, 3) := by decide +kernel
theorem dL_isGivingTold_93 : decode cL_isGivingTold 93 = .ok (.istore 11, 2) := by decide +kernel
theorem dL_isGivingTold_95 : decode cL_isGivingTold 95 = .ok (.aload_n 0, 1) := by decide +kernel
theorem dL_isGivingTold_96 : decode cL_isGivingTold 96 = .ok (.iconst 2, 1) := by decide +kernel
theorem dL_isGivingTold_97 : decode cL_isGivingTold 97 = .ok (.invokevirtual 30, 3) := by decide +kernel
theorem dL_isGivingTold_100 : decode cL_isGivingTold 100 = .ok (.aload_n 0, 1) := by decide +kernel
theorem dL_isGivingTold_101 : decode cL_isGivingTold 101 = .ok (.iconst 3, 1) := by decide +kernel
theorem dL_isGivingTold_102 : decode cL_isGivingTold 102 = .ok (.invokevirtual 30, 3) := by decide +kernel
theorem dL_isGivingTold_105 : decode cL_isGivingTold 105 = .ok (.iadd, 1) := by decide +kernel
theorem dL_isGivingTold_106 : decode cL_isGivingTold 106 = .ok (.istore 12, 2) := by decide +kernel
theorem dL_isGivingTold_108 : decode cL_isGivingTold 108 = .ok (.iload 8, 2) := by decide +kernel
theorem dL_isGivingTold_110 : decode cL_isGivingTold 110 = .ok (.iload 9, 2) := by decide +kernel
theorem dL_isGivingTold_112 : decode cL_isGivingTold 112 = .ok (.iadd, 1) := by decide +kernel
theorem dL_isGivingTold_113 : decode cL_isGivingTold 113 = .ok (.iload 5, 2) := by decide +kernel
theorem dL_isGivingTold_115 : decode cL_isGivingTold 115 = .ok (.if_icmp .ne 65, 3) := by decide +kernel
theorem dL_isGivingTold_118 : decode cL_isGivingTold 118 = .ok (.aload_n 0, 1) := by decide +kernel
theorem dL_isGivingTold_119 : decode cL_isGivingTold 119 = .ok (.iload_n 1, 1) := by decide +kernel
theorem dL_isGivingTold_120 : decode cL_isGivingTold 120 = .ok (.iload_n 2, 1) := by decide +kernel
theorem dL_isGivingTold_121 : decode cL_isGivingTold 121 = .ok (.invokevirtual 46, 3) := by decide +kernel
theorem dL_isGivingTold_124 : decode cL_isGivingTold 124 = .ok (.iload 5, 2) := by decide +kernel
theorem dL_isGivingTold_126 : decode cL_isGivingTold 126 = .ok (.if_icmp .ne 54, 3) := by decide +kernel
theorem dL_isGivingTold_129 : decode cL_isGivingTold 129 = .ok (.aload_n 0, 1) := by decide +kernel
theorem dL_isGivingTold_130 : decode cL_isGivingTold 130 = .ok (.iload 6, 2) := by decide +kernel
theorem dL_isGivingTold_132 : decode cL_isGivingTold 132 = .ok (.iconst 2, 1) := by decide +kernel
theorem dL_isGivingTold_133 : decode cL_isGivingTold 133 = .ok (.invokevirtual 21, 3) := by decide +kernel
theorem dL_isGivingTold_136 : decode cL_isGivingTold 136 = .ok (.iload 7, 2) := by decide +kernel
theorem dL_isGivingTold_138 : decode cL_isGivingTold 138 = .ok (.iload 5, 2) := by decide +kernel
theorem dL_isGivingTold_140 : decode cL_isGivingTold 140 = .ok (.iadd, 1) := by decide +kernel
theorem dL_isGivingTold_141 : decode cL_isGivingTold 141 = .ok (.if_icmp .ne 39, 3) := by decide +kernel
theorem dL_isGivingTold_144 : decode cL_isGivingTold 144 = .ok (.aload_n 0, 1) := by decide +kernel
theorem dL_isGivingTold_145 : decode cL_isGivingTold 145 = .ok (.iconst 1, 1) := by decide +kernel
theorem dL_isGivingTold_146 : decode cL_isGivingTold 146 = .ok (.invokevirtual 30, 3) := by decide +kernel
theorem dL_isGivingTold_149 : decode cL_isGivingTold 149 = .ok (.iload 11, 2) := by decide +kernel
theorem dL_isGivingTold_151 : decode cL_isGivingTold 151 = .ok (.iload 8, 2) := by decide +kernel
theorem dL_isGivingTold_153 : decode cL_isGivingTold 153 = .ok (.iadd, 1) := by decide +kernel
theorem dL_isGivingTold_154 : decode cL_isGivingTold 154 = .ok (.if_icmp .ne 26, 3) := by decide +kernel
theorem dL_isGivingTold_157 : decode cL_isGivingTold 157 = .ok (.aload_n 0, 1) := by decide +kernel
theorem dL_isGivingTold_158 : decode cL_isGivingTold 158 = .ok (.iconst 2, 1) := by decide +kernel
theorem dL_isGivingTold_159 : decode cL_isGivingTold 159 = .ok (.invokevirtual 30, 3) := by decide +kernel
theorem dL_isGivingTold_162 : decode cL_isGivingTold 162 = .ok (.aload_n 0, 1) := by decide +kernel
theorem dL_isGivingTold_163 : decode cL_isGivingTold 163 = .ok (.iconst 3, 1) := by decide +kernel
theorem dL_isGivingTold_164 : decode cL_isGivingTold 164 = .ok (.invokevirtual 30, 3) := by decide +kernel
theorem dL_isGivingTold_167 : decode cL_isGivingTold 167 = .ok (.iadd, 1) := by decide +kernel
theorem dL_isGivingTold_168 : decode cL_isGivingTold 168 = .ok (.iload 12, 2) := by decide +kernel
theorem dL_isGivingTold_170 : decode cL_isGivingTold 170 = .ok (.iload 9, 2) := by decide +kernel
theorem dL_isGivingTold_172 : decode cL_isGivingTold 172 = .ok (.iadd, 1) := by decide +kernel
theorem dL_isGivingTold_173 : decode cL_isGivingTold 173 = .ok (.if_icmp .ne 7, 3) := by decide +kernel
theorem dL_isGivingTold_176 : decode cL_isGivingTold 176 = .ok (.iconst 1, 1) := by decide +kernel
theorem dL_isGivingTold_177 : decode cL_isGivingTold 177 = .ok (.goto 4, 3) := by decide +kernel
theorem dL_isGivingTold_180 : decode cL_isGivingTold 180 = .ok (.iconst 0, 1) := by decide +kernel
theorem dL_isGivingTold_181 : decode cL_isGivingTold 181 = .ok (.istore 13, 2) := by decide +kernel
theorem dL_isGivingTold_183 : decode cL_isGivingTold 183 = .ok (.iload 10, 2) := by decide +kernel
theorem dL_isGivingTold_185 : decode cL_isGivingTold 185 = .ok (.iload_n 2, 1) := by decide +kernel
theorem dL_isGivingTold_186 : decode cL_isGivingTold 186 = .ok (.iadd, 1) := by decide +kernel
theorem dL_isGivingTold_187 : decode cL_isGivingTold 187 = .ok (.iconst 4, 1) := by decide +kernel
theorem dL_isGivingTold_188 : decode cL_isGivingTold 188 = .ok (.if_icmp .le 7, 3) := by decide +kernel
theorem dL_isGivingTold_191 : decode cL_isGivingTold 191 = .ok (.iconst 1, 1) := by decide +kernel
theorem dL_isGivingTold_192 : decode cL_isGivingTold 192 = .ok (.goto 4, 3) := by decide +kernel
theorem dL_isGivingTold_195 : decode cL_isGivingTold 195 = .ok (.iconst 0, 1) := by decide +kernel
theorem dL_isGivingTold_196 : decode cL_isGivingTold 196 = .ok (.istore 14, 2) := by decide +kernel
theorem dL_isGivingTold_198 : decode cL_isGivingTold 198 = .ok (.iload 13, 2) := by decide +kernel
theorem dL_isGivingTold_200 : decode cL_isGivingTold 200 = .ok (.ifCond .eq 72, 3) := by decide +kernel
theorem dL_isGivingTold_203 : decode cL_isGivingTold 203 = .ok (.aload_n 0, 1) := by decide +kernel
theorem dL_isGivingTold_204 : decode cL_isGivingTold 204 = .ok (.iload_n 1, 1) := by decide +kernel
theorem dL_isGivingTold_205 : decode cL_isGivingTold 205 = .ok (.iconst 3, 1) := by decide +kernel
theorem dL_isGivingTold_206 : decode cL_isGivingTold 206 = .ok (.invokevirtual 14, 3) := by decide +kernel
theorem dL_isGivingTold_209 : decode cL_isGivingTold 209 = .ok (.iload 14, 2) := by decide +kernel
theorem dL_isGivingTold_211 : decode cL_isGivingTold 211 = .ok (.ifCond .eq 7, 3) := by decide +kernel
theorem dL_isGivingTold_214 : decode cL_isGivingTold 214 = .ok (.iconst 3, 1) := by decide +kernel
theorem dL_isGivingTold_215 : decode cL_isGivingTold 215 = .ok (.goto 4, 3) := by decide +kernel
theorem dL_isGivingTold_218 : decode cL_isGivingTold 218 = .ok (.iconst 0, 1) := by decide +kernel
theorem dL_isGivingTold_219 : decode cL_isGivingTold 219 = .ok (.if_icmp .ne 53, 3) := by decide +kernel
theorem dL_isGivingTold_222 : decode cL_isGivingTold 222 = .ok (.aload_n 0, 1) := by decide +kernel
theorem dL_isGivingTold_223 : decode cL_isGivingTold 223 = .ok (.iload_n 1, 1) := by decide +kernel
theorem dL_isGivingTold_224 : decode cL_isGivingTold 224 = .ok (.iconst 2, 1) := by decide +kernel
theorem dL_isGivingTold_225 : decode cL_isGivingTold 225 = .ok (.invokevirtual 14, 3) := by decide +kernel
theorem dL_isGivingTold_228 : decode cL_isGivingTold 228 = .ok (.iload 14, 2) := by decide +kernel
theorem dL_isGivingTold_230 : decode cL_isGivingTold 230 = .ok (.ifCond .eq 8, 3) := by decide +kernel
theorem dL_isGivingTold_233 : decode cL_isGivingTold 233 = .ok (.iload 10, 2) := by decide +kernel
theorem dL_isGivingTold_235 : decode cL_isGivingTold 235 = .ok (.goto 7, 3) := by decide +kernel
theorem dL_isGivingTold_238 : decode cL_isGivingTold 238 = .ok (.iload 10, 2) := by decide +kernel
theorem dL_isGivingTold_240 : decode cL_isGivingTold 240 = .ok (.iload_n 2, 1) := by decide +kernel
theorem dL_isGivingTold_241 : decode cL_isGivingTold 241 = .ok (.iadd, 1) := by decide +kernel
theorem dL_isGivingTold_242 : decode cL_isGivingTold 242 = .ok (.if_icmp .ne 30, 3) := by decide +kernel
theorem dL_isGivingTold_245 : decode cL_isGivingTold 245 = .ok (.aload_n 0, 1) := by decide +kernel
theorem dL_isGivingTold_246 : decode cL_isGivingTold 246 = .ok (.invokestatic 49, 3) := by decide +kernel
theorem dL_isGivingTold_249 : decode cL_isGivingTold 249 = .ok (.ifCond .eq 23, 3) := by decide +kernel
theorem dL_isGivingTold_252 : decode cL_isGivingTold 252 = .ok (.aload_n 0, 1) := by decide +kernel
theorem dL_isGivingTold_253 : decode cL_isGivingTold 253 = .ok (.invokevirtual 55, 3) := by decide +kernel
theorem dL_isGivingTold_256 : decode cL_isGivingTold 256 = .ok (.ifCond .lt 16, 3) := by decide +kernel
theorem dL_isGivingTold_259 : decode cL_isGivingTold 259 = .ok (.aload_n 0, 1) := by decide +kernel
theorem dL_isGivingTold_260 : decode cL_isGivingTold 260 = .ok (.invokevirtual 38, 3) := by decide +kernel
theorem dL_isGivingTold_263 : decode cL_isGivingTold 263 = .ok (.lload_n 3, 1) := by decide +kernel
theorem dL_isGivingTold_264 : decode cL_isGivingTold 264 = .ok (.lcmp, 1) := by decide +kernel
theorem dL_isGivingTold_265 : decode cL_isGivingTold 265 = .ok (.ifCond .ne 7, 3) := by decide +kernel
theorem dL_isGivingTold_268 : decode cL_isGivingTold 268 = .ok (.iconst 1, 1) := by decide +kernel
theorem dL_isGivingTold_269 : decode cL_isGivingTold 269 = .ok (.goto 4, 3) := by decide +kernel
theorem dL_isGivingTold_272 : decode cL_isGivingTold 272 = .ok (.iconst 0, 1) := by decide +kernel
theorem dL_isGivingTold_273 : decode cL_isGivingTold 273 = .ok (.ireturn, 1) := by decide +kernel
theorem dL_changes_0 : decode cL_changes 0 = .ok (.iload_n 1, 1) := by decide +kernel
theorem dL_changes_1 : decode cL_changes 1 = .ok (.iconst 4, 1) := by decide +kernel
theorem dL_changes_2 : decode cL_changes 2 = .ok (.ishr, 1) := by decide +kernel
theorem dL_changes_3 : decode cL_changes 3 = .ok (.aload_n 0, 1) := by decide +kernel
theorem dL_changes_4 : decode cL_changes 4 = .ok (.iconst 0, 1) := by decide +kernel
theorem dL_changes_5 : decode cL_changes 5 = .ok (.invokevirtual 8, 3) := by decide +kernel
theorem dL_changes_8 : decode cL_changes 8 = .ok (.iconst 1, 1) := by decide +kernel
theorem dL_changes_9 : decode cL_changes 9 = .ok (.iadd, 1) := by decide +kernel
theorem dL_changes_10 : decode cL_changes 10 = .ok (.invokestatic 58, 3) := by decide +kernel
theorem dL_changes_13 : decode cL_changes 13 = .ok (.istore_n 2, 1) := by decide +kernel
theorem dL_changes_14 : decode cL_changes 14 = .ok (.iload_n 1, 1) := by decide +kernel
theorem dL_changes_15 : decode cL_changes 15 = .ok (.iconst 4, 1) := by decide +kernel
theorem dL_changes_16 : decode cL_changes 16 = .ok (.ishr, 1) := by decide +kernel
theorem dL_changes_17 : decode cL_changes 17 = .ok (.aload_n 0, 1) := by decide +kernel
theorem dL_changes_18 : decode cL_changes 18 = .ok (.iconst 1, 1) := by decide +kernel
theorem dL_changes_19 : decode cL_changes 19 = .ok (.invokevirtual 8, 3) := by decide +kernel
theorem dL_changes_22 : decode cL_changes 22 = .ok (.iconst 1, 1) := by decide +kernel
theorem dL_changes_23 : decode cL_changes 23 = .ok (.iadd, 1) := by decide +kernel
theorem dL_changes_24 : decode cL_changes 24 = .ok (.invokestatic 58, 3) := by decide +kernel
theorem dL_changes_27 : decode cL_changes 27 = .ok (.istore_n 3, 1) := by decide +kernel
theorem dL_changes_28 : decode cL_changes 28 = .ok (.iload_n 1, 1) := by decide +kernel
theorem dL_changes_29 : decode cL_changes 29 = .ok (.iconst 4, 1) := by decide +kernel
theorem dL_changes_30 : decode cL_changes 30 = .ok (.ishr, 1) := by decide +kernel
theorem dL_changes_31 : decode cL_changes 31 = .ok (.aload_n 0, 1) := by decide +kernel
theorem dL_changes_32 : decode cL_changes 32 = .ok (.iconst 2, 1) := by decide +kernel
theorem dL_changes_33 : decode cL_changes 33 = .ok (.invokevirtual 8, 3) := by decide +kernel
theorem dL_changes_36 : decode cL_changes 36 = .ok (.iconst 1, 1) := by decide +kernel
theorem dL_changes_37 : decode cL_changes 37 = .ok (.iadd, 1) := by decide +kernel
theorem dL_changes_38 : decode cL_changes 38 = .ok (.invokestatic 58, 3) := by decide +kernel
theorem dL_changes_41 : decode cL_changes 41 = .ok (.istore 4, 2) := by decide +kernel
theorem dL_changes_43 : decode cL_changes 43 = .ok (.iload_n 1, 1) := by decide +kernel
theorem dL_changes_44 : decode cL_changes 44 = .ok (.bipush 18, 2) := by decide +kernel
theorem dL_changes_46 : decode cL_changes 46 = .ok (.invokestatic 58, 3) := by decide +kernel
theorem dL_changes_49 : decode cL_changes 49 = .ok (.tableswitch 351 0 15 #[79, 107, 133, 160, 196, 259, 259, 275, 300, 306, 306, 306, 306, 322, 336, 336], 79) := by decide +kernel
theorem dL_changes_128 : decode cL_changes 128 = .ok (.aload_n 0, 1) := by decide +kernel
theorem dL_changes_129 : decode cL_changes 129 = .ok (.bipush 100, 2) := by decide +kernel
theorem dL_changes_131 : decode cL_changes 131 = .ok (.iload_n 1, 1) := by decide +kernel
theorem dL_changes_132 : decode cL_changes 132 = .ok (.iconst 4, 1) := by decide +kernel
theorem dL_changes_133 : decode cL_changes 133 = .ok (.ishr, 1) := by decide +kernel
theorem dL_changes_134 : decode cL_changes 134 = .ok (.sipush 9000, 3) := by decide +kernel
theorem dL_changes_137 : decode cL_changes 137 = .ok (.invokestatic 58, 3) := by decide +kernel
theorem dL_changes_140 : decode cL_changes 140 = .ok (.iadd, 1) := by decide +kernel
theorem dL_changes_141 : decode cL_changes 141 = .ok (.iconst 1, 1) := by decide +kernel
theorem dL_changes_142 : decode cL_changes 142 = .ok (.iload_n 1, 1) := by decide +kernel
theorem dL_changes_143 : decode cL_changes 143 = .ok (.bipush 17, 2) := by decide +kernel
theorem dL_changes_145 : decode cL_changes 145 = .ok (.ishr, 1) := by decide +kernel
theorem dL_changes_146 : decode cL_changes 146 = .ok (.bipush 30, 2) := by decide +kernel
theorem dL_changes_148 : decode cL_changes 148 = .ok (.invokestatic 58, 3) := by decide +kernel
theorem dL_changes_151 : decode cL_changes 151 = .ok (.iadd, 1) := by decide +kernel
theorem dL_changes_152 : decode cL_changes 152 = .ok (.invokevirtual 61, 3) := by decide +kernel
theorem dL_changes_155 : decode cL_changes 155 = .ok (.ireturn, 1) := by decide +kernel
theorem dL_changes_156 : decode cL_changes 156 = .ok (.aload_n 0, 1) := by decide +kernel
theorem dL_changes_157 : decode cL_changes 157 = .ok (.iload_n 2, 1) := by decide +kernel
theorem dL_changes_158 : decode cL_changes 158 = .ok (.iconst 1, 1) := by decide +kernel
theorem dL_changes_159 : decode cL_changes 159 = .ok (.iload_n 1, 1) := by decide +kernel
theorem dL_changes_160 : decode cL_changes 160 = .ok (.bipush 7, 2) := by decide +kernel
theorem dL_changes_162 : decode cL_changes 162 = .ok (.ishr, 1) := by decide +kernel
theorem dL_changes_163 : decode cL_changes 163 = .ok (.bipush 12, 2) := by decide +kernel
theorem dL_changes_165 : decode cL_changes 165 = .ok (.invokestatic 58, 3) := by decide +kernel
theorem dL_changes_168 : decode cL_changes 168 = .ok (.iadd, 1) := by decide +kernel
theorem dL_changes_169 : decode cL_changes 169 = .ok (.iload_n 1, 1) := by decide +kernel
theorem dL_changes_170 : decode cL_changes 170 = .ok (.bipush 11, 2) := by decide +kernel
theorem dL_changes_172 : decode cL_changes 172 = .ok (.ishr, 1) := by decide +kernel
theorem dL_changes_173 : decode cL_changes 173 = .ok (.bipush 30, 2) := by decide +kernel
theorem dL_changes_175 : decode cL_changes 175 = .ok (.invokestatic 58, 3) := by decide +kernel
theorem dL_changes_178 : decode cL_changes 178 = .ok (.invokevirtual 64, 3) := by decide +kernel
theorem dL_changes_181 : decode cL_changes 181 = .ok (.ireturn, 1) := by decide +kernel
theorem dL_changes_182 : decode cL_changes 182 = .ok (.aload_n 0, 1) := by decide +kernel
theorem dL_changes_183 : decode cL_changes 183 = .ok (.iload 4, 2) := by decide +kernel
theorem dL_changes_185 : decode cL_changes 185 = .ok (.iconst 1, 1) := by decide +kernel
theorem dL_changes_186 : decode cL_changes 186 = .ok (.iload_n 1, 1) := by decide +kernel
theorem dL_changes_187 : decode cL_changes 187 = .ok (.bipush 7, 2) := by decide +kernel
theorem dL_changes_189 : decode cL_changes 189 = .ok (.ishr, 1) := by decide +kernel
theorem dL_changes_190 : decode cL_changes 190 = .ok (.bipush 12, 2) := by decide +kernel
theorem dL_changes_192 : decode cL_changes 192 = .ok (.invokestatic 58, 3) := by decide +kernel
theorem dL_changes_195 : decode cL_changes 195 = .ok (.iadd, 1) := by decide +kernel
theorem dL_changes_196 : decode cL_changes 196 = .ok (.iload_n 1, 1) := by decide +kernel
theorem dL_changes_197 : decode cL_changes 197 = .ok (.bipush 11, 2) := by decide +kernel
theorem dL_changes_199 : decode cL_changes 199 = .ok (.ishr, 1) := by decide +kernel
theorem dL_changes_200 : decode cL_changes 200 = .ok (.bipush 30, 2) := by decide +kernel
theorem dL_changes_202 : decode cL_changes 202 = .ok (.invokestatic 58, 3) := by decide +kernel
theorem dL_changes_205 : decode cL_changes 205 = .ok (.invokevirtual 67, 3) := by decide +kernel
theorem dL_changes_208 : decode cL_changes 208 = .ok (.ireturn, 1) := by decide +kernel
theorem dL_changes_209 : decode cL_changes 209 = .ok (.iload_n 1, 1) := by decide +kernel
theorem dL_changes_210 : decode cL_changes 210 = .ok (.bipush 7, 2) := by decide +kernel
theorem dL_changes_212 : decode cL_changes 212 = .ok (.ishr, 1) := by decide +kernel
theorem dL_changes_213 : decode cL_changes 213 = .ok (.iconst 1, 1) := by decide +kernel
theorem dL_changes_214 : decode cL_changes 214 = .ok (.iand, 1) := by decide +kernel
theorem dL_changes_215 : decode cL_changes 215 = .ok (.ifCond .ne 11, 3) := by decide +kernel
theorem dL_changes_218 : decode cL_changes 218 = .ok (.aload_n 0, 1) := by decide +kernel
theorem dL_changes_219 : decode cL_changes 219 = .ok (.iload_n 2, 1) := by decide +kernel
theorem dL_changes_220 : decode cL_changes 220 = .ok (.invokevirtual 70, 3) := by decide +kernel
theorem dL_changes_223 : decode cL_changes 223 = .ok (.goto 21, 3) := by decide +kernel
theorem dL_changes_226 : decode cL_changes 226 = .ok (.aload_n 0, 1) := by decide +kernel
theorem dL_changes_227 : decode cL_changes 227 = .ok (.iload_n 2, 1) := by decide +kernel
theorem dL_changes_228 : decode cL_changes 228 = .ok (.bipush 100, 2) := by decide +kernel
theorem dL_changes_230 : decode cL_changes 230 = .ok (.iload_n 1, 1) := by decide +kernel
theorem dL_changes_231 : decode cL_changes 231 = .ok (.bipush 8, 2) := by decide +kernel
theorem dL_changes_233 : decode cL_changes 233 = .ok (.ishr, 1) := by decide +kernel
theorem dL_changes_234 : decode cL_changes 234 = .ok (.sipush 9000, 3) := by decide +kernel
theorem dL_changes_237 : decode cL_changes 237 = .ok (.invokestatic 58, 3) := by decide +kernel
theorem dL_changes_240 : decode cL_changes 240 = .ok (.iadd, 1) := by decide +kernel
theorem dL_changes_241 : decode cL_changes 241 = .ok (.invokevirtual 73, 3) := by decide +kernel
theorem dL_changes_244 : decode cL_changes 244 = .ok (.ireturn, 1) := by decide +kernel
theorem dL_changes_245 : decode cL_changes 245 = .ok (.iload_n 1, 1) := by decide +kernel
theorem dL_changes_246 : decode cL_changes 246 = .ok (.iconst 4, 1) := by decide +kernel
theorem dL_changes_247 : decode cL_changes 247 = .ok (.ishr, 1) := by decide +kernel
theorem dL_changes_248 : decode cL_changes 248 = .ok (.iconst 3, 1) := by decide +kernel
theorem dL_changes_249 : decode cL_changes 249 = .ok (.iand, 1) := by decide +kernel
theorem dL_changes_250 : decode cL_changes 250 = .ok (.istore 5, 2) := by decide +kernel
theorem dL_changes_252 : decode cL_changes 252 = .ok (.aload_n 0, 1) := by decide +kernel
theorem dL_changes_253 : decode cL_changes 253 = .ok (.iload 5, 2) := by decide +kernel
theorem dL_changes_255 : decode cL_changes 255 = .ok (.iload 5, 2) := by decide +kernel
theorem dL_changes_257 : decode cL_changes 257 = .ok (.ifCond .ne 18, 3) := by decide +kernel
theorem dL_changes_260 : decode cL_changes 260 = .ok (.bipush 10, 2) := by decide +kernel
theorem dL_changes_262 : decode cL_changes 262 = .ok (.iload_n 1, 1) := by decide +kernel
theorem dL_changes_263 : decode cL_changes 263 = .ok (.bipush 6, 2) := by decide +kernel
theorem dL_changes_265 : decode cL_changes 265 = .ok (.ishr, 1) := by decide +kernel
theorem dL_changes_266 : decode cL_changes 266 = .ok (.bipush 60, 2) := by decide +kernel
theorem dL_changes_268 : decode cL_changes 268 = .ok (.invokestatic 58, 3) := by decide +kernel
theorem dL_changes_271 : decode cL_changes 271 = .ok (.iadd, 1) := by decide +kernel
theorem dL_changes_272 : decode cL_changes 272 = .ok (.goto 32, 3) := by decide +kernel
theorem dL_changes_275 : decode cL_changes 275 = .ok (.iload 5, 2) := by decide +kernel
theorem dL_changes_277 : decode cL_changes 277 = .ok (.iconst 2, 1) := by decide +kernel
theorem dL_changes_278 : decode cL_changes 278 = .ok (.if_icmp .ne 17, 3) := by decide +kernel
theorem dL_changes_281 : decode cL_changes 281 = .ok (.iconst 1, 1) := by decide +kernel
theorem dL_changes_282 : decode cL_changes 282 = .ok (.iload_n 1, 1) := by decide +kernel
theorem dL_changes_283 : decode cL_changes 283 = .ok (.bipush 6, 2) := by decide +kernel
theorem dL_changes_285 : decode cL_changes 285 = .ok (.ishr, 1) := by decide +kernel
theorem dL_changes_286 : decode cL_changes 286 = .ok (.bipush 60, 2) := by decide +kernel
theorem dL_changes_288 : decode cL_changes 288 = .ok (.invokestatic 58, 3) := by decide +kernel
theorem dL_changes_291 : decode cL_changes 291 = .ok (.iadd, 1) := by decide +kernel
theorem dL_changes_292 : decode cL_changes 292 = .ok (.goto 12, 3) := by decide +kernel
theorem dL_changes_295 : decode cL_changes 295 = .ok (.iload_n 1, 1) := by decide +kernel
theorem dL_changes_296 : decode cL_changes 296 = .ok (.bipush 6, 2) := by decide +kernel
theorem dL_changes_298 : decode cL_changes 298 = .ok (.ishr, 1) := by decide +kernel
theorem dL_changes_299 : decode cL_changes 299 = .ok (.bipush 51, 2) := by decide +kernel
theorem dL_changes_301 : decode cL_changes 301 = .ok (.invokestatic 58, 3) := by decide +kernel
theorem dL_changes_304 : decode cL_changes 304 = .ok (.invokevirtual 76, 3) := by decide +kernel
theorem dL_changes_307 : decode cL_changes 307 = .ok (.ireturn, 1) := by decide +kernel
theorem dL_changes_308 : decode cL_changes 308 = .ok (.aload_n 0, 1) := by decide +kernel
theorem dL_changes_309 : decode cL_changes 309 = .ok (.iload_n 2, 1) := by decide +kernel
theorem dL_changes_310 : decode cL_changes 310 = .ok (.iconst 1, 1) := by decide +kernel
theorem dL_changes_311 : decode cL_changes 311 = .ok (.iload_n 1, 1) := by decide +kernel
theorem dL_changes_312 : decode cL_changes 312 = .ok (.bipush 7, 2) := by decide +kernel
theorem dL_changes_314 : decode cL_changes 314 = .ok (.ishr, 1) := by decide +kernel
theorem dL_changes_315 : decode cL_changes 315 = .ok (.iconst 5, 1) := by decide +kernel
theorem dL_changes_316 : decode cL_changes 316 = .ok (.invokestatic 58, 3) := by decide +kernel
theorem dL_changes_319 : decode cL_changes 319 = .ok (.iadd, 1) := by decide +kernel
theorem dL_changes_320 : decode cL_changes 320 = .ok (.invokevirtual 79, 3) := by decide +kernel
theorem dL_changes_323 : decode cL_changes 323 = .ok (.ireturn, 1) := by decide +kernel
theorem dL_changes_324 : decode cL_changes 324 = .ok (.aload_n 0, 1) := by decide +kernel
theorem dL_changes_325 : decode cL_changes 325 = .ok (.iload_n 2, 1) := by decide +kernel
theorem dL_changes_326 : decode cL_changes 326 = .ok (.iconst 1, 1) := by decide +kernel
theorem dL_changes_327 : decode cL_changes 327 = .ok (.iload_n 1, 1) := by decide +kernel
theorem dL_changes_328 : decode cL_changes 328 = .ok (.bipush 7, 2) := by decide +kernel
theorem dL_changes_330 : decode cL_changes 330 = .ok (.ishr, 1) := by decide +kernel
theorem dL_changes_331 : decode cL_changes 331 = .ok (.bipush 12, 2) := by decide +kernel
theorem dL_changes_333 : decode cL_changes 333 = .ok (.invokestatic 58, 3) := by decide +kernel
theorem dL_changes_336 : decode cL_changes 336 = .ok (.iadd, 1) := by decide +kernel
theorem dL_changes_337 : decode cL_changes 337 = .ok (.iload_n 1, 1) := by decide +kernel
theorem dL_changes_338 : decode cL_changes 338 = .ok (.bipush 11, 2) := by decide +kernel
theorem dL_changes_340 : decode cL_changes 340 = .ok (.ishr, 1) := by decide +kernel
theorem dL_changes_341 : decode cL_changes 341 = .ok (.iconst 5, 1) := by decide +kernel
theorem dL_changes_342 : decode cL_changes 342 = .ok (.invokestatic 58, 3) := by decide +kernel
theorem dL_changes_345 : decode cL_changes 345 = .ok (.invokevirtual 82, 3) := by decide +kernel
theorem dL_changes_348 : decode cL_changes 348 = .ok (.ireturn, 1) := by decide +kernel
theorem dL_changes_349 : decode cL_changes 349 = .ok (.aload_n 0, 1) := by decide +kernel
theorem dL_changes_350 : decode cL_changes 350 = .ok (.iload_n 3, 1) := by decide +kernel
theorem dL_changes_351 : decode cL_changes 351 = .ok (.invokevirtual 85, 3) := by decide +kernel
theorem dL_changes_354 : decode cL_changes 354 = .ok (.ireturn, 1) := by decide +kernel
theorem dL_changes_355 : decode cL_changes 355 = .ok (.aload_n 0, 1) := by decide +kernel
theorem dL_changes_356 : decode cL_changes 356 = .ok (.iload_n 1, 1) := by decide +kernel
theorem dL_changes_357 : decode cL_changes 357 = .ok (.bipush 8, 2) := by decide +kernel
theorem dL_changes_359 : decode cL_changes 359 = .ok (.ishr, 1) := by decide +kernel
theorem dL_changes_360 : decode cL_changes 360 = .ok (.bipush 8, 2) := by decide +kernel
theorem dL_changes_362 : decode cL_changes 362 = .ok (.invokestatic 58, 3) := by decide +kernel
theorem dL_changes_365 : decode cL_changes 365 = .ok (.iload 4, 2) := by decide +kernel
theorem dL_changes_367 : decode cL_changes 367 = .ok (.invokevirtual 88, 3) := by decide +kernel
theorem dL_changes_370 : decode cL_changes 370 = .ok (.ireturn, 1) := by decide +kernel
theorem dL_changes_371 : decode cL_changes 371 = .ok (.aload_n 0, 1) := by decide +kernel
theorem dL_changes_372 : decode cL_changes 372 = .ok (.iload_n 3, 1) := by decide +kernel
theorem dL_changes_373 : decode cL_changes 373 = .ok (.iload_n 1, 1) := by decide +kernel
theorem dL_changes_374 : decode cL_changes 374 = .ok (.bipush 10, 2) := by decide +kernel
theorem dL_changes_376 : decode cL_changes 376 = .ok (.ishr, 1) := by decide +kernel
theorem dL_changes_377 : decode cL_changes 377 = .ok (.iconst 5, 1) := by decide +kernel
theorem dL_changes_378 : decode cL_changes 378 = .ok (.invokestatic 58, 3) := by decide +kernel
theorem dL_changes_381 : decode cL_changes 381 = .ok (.invokevirtual 46, 3) := by decide +kernel
theorem dL_changes_384 : decode cL_changes 384 = .ok (.ireturn, 1) := by decide +kernel
theorem dL_changes_385 : decode cL_changes 385 = .ok (.aload_n 0, 1) := by decide +kernel
theorem dL_changes_386 : decode cL_changes 386 = .ok (.iconst 1, 1) := by decide +kernel
theorem dL_changes_387 : decode cL_changes 387 = .ok (.iload_n 1, 1) := by decide +kernel
theorem dL_changes_388 : decode cL_changes 388 = .ok (.iconst 4, 1) := by decide +kernel
theorem dL_changes_389 : decode cL_changes 389 = .ok (.ishr, 1) := by decide +kernel
theorem dL_changes_390 : decode cL_changes 390 = .ok (.bipush 40, 2) := by decide +kernel
theorem dL_changes_392 : decode cL_changes 392 = .ok (.invokestatic 58, 3) := by decide +kernel
theorem dL_changes_395 : decode cL_changes 395 = .ok (.iadd, 1) := by decide +kernel
theorem dL_changes_396 : decode cL_changes 396 = .ok (.invokevirtual 91, 3) := by decide +kernel
theorem dL_changes_399 : decode cL_changes 399 = .ok (.ireturn, 1) := by decide +kernel
theorem dL_changes_400 : decode cL_changes 400 = .ok (.aload_n 0, 1) := by decide +kernel
theorem dL_changes_401 : decode cL_changes 401 = .ok (.iload_n 2, 1) := by decide +kernel
theorem dL_changes_402 : decode cL_changes 402 = .ok (.iload_n 1, 1) := by decide +kernel
theorem dL_changes_403 : decode cL_changes 403 = .ok (.bipush 7, 2) := by decide +kernel
theorem dL_changes_405 : decode cL_changes 405 = .ok (.ishr, 1) := by decide +kernel
theorem dL_changes_406 : decode cL_changes 406 = .ok (.bipush 6, 2) := by decide +kernel
theorem dL_changes_408 : decode cL_changes 408 = .ok (.invokestatic 58, 3) := by decide +kernel
theorem dL_changes_411 : decode cL_changes 411 = .ok (.invokevirtual 94, 3) := by decide +kernel
theorem dL_changes_414 : decode cL_changes 414 = .ok (.ireturn, 1) := by decide +kernel
theorem dL_law_0 : decode cL_law 0 = .ok (.new 9, 3) := by decide +kernel
theorem dL_law_3 : decode cL_law 3 = .ok (.dup, 1) := by decide +kernel
theorem dL_law_4 : decode cL_law 4 = .ok (.invokespecial 97, 3) := by decide +kernel
theorem dL_law_7 : decode cL_law 7 = .ok (.astore_n 1, 1) := by decide +kernel
theorem dL_law_8 : decode cL_law 8 = .ok (.aload_n 0, 1) := by decide +kernel
theorem dL_law_9 : decode cL_law 9 = .ok (.iconst 0, 1) := by decide +kernel
theorem dL_law_10 : decode cL_law 10 = .ok (.invokestatic 98, 3) := by decide +kernel
theorem dL_law_13 : decode cL_law 13 = .ok (.istore_n 2, 1) := by decide +kernel
theorem dL_law_14 : decode cL_law 14 = .ok (.aload_n 1, 1) := by decide +kernel
theorem dL_law_15 : decode cL_law 15 = .ok (.invokevirtual 55, 3) := by decide +kernel
theorem dL_law_18 : decode cL_law 18 = .ok (.bipush (-4), 2) := by decide +kernel
theorem dL_law_20 : decode cL_law 20 = .ok (.if_icmp .ne 52, 3) := by decide +kernel
theorem dL_law_23 : decode cL_law 23 = .ok (.aload_n 1, 1) := by decide +kernel
theorem dL_law_24 : decode cL_law 24 = .ok (.invokevirtual 102, 3) := by decide +kernel
theorem dL_law_27 : decode cL_law 27 = .ok (.bipush (-4), 2) := by decide +kernel
theorem dL_law_29 : decode cL_law 29 = .ok (.if_icmp .ne 43, 3) := by decide +kernel
theorem dL_law_32 : decode cL_law 32 = .ok (.aload_n 1, 1) := by decide +kernel
theorem dL_law_33 : decode cL_law 33 = .ok (.invokevirtual 34, 3) := by decide +kernel
theorem dL_law_36 : decode cL_law 36 = .ok (.ifCond .ne 36, 3) := by decide +kernel
theorem dL_law_39 : decode cL_law 39 = .ok (.aload_n 1, 1) := by decide +kernel
theorem dL_law_40 : decode cL_law 40 = .ok (.bipush 7, 2) := by decide +kernel
theorem dL_law_42 : decode cL_law 42 = .ok (.invokevirtual 30, 3) := by decide +kernel
theorem dL_law_45 : decode cL_law 45 = .ok (.ldc 33, 2) := by decide +kernel
theorem dL_law_47 : decode cL_law 47 = .ok (.if_icmp .ne 25, 3) := by decide +kernel
theorem dL_law_50 : decode cL_law 50 = .ok (.aload_n 1, 1) := by decide +kernel
theorem dL_law_51 : decode cL_law 51 = .ok (.iconst 0, 1) := by decide +kernel
theorem dL_law_52 : decode cL_law 52 = .ok (.iconst 0, 1) := by decide +kernel
theorem dL_law_53 : decode cL_law 53 = .ok (.invokevirtual 88, 3) := by decide +kernel
theorem dL_law_56 : decode cL_law 56 = .ok (.bipush (-2), 2) := by decide +kernel
theorem dL_law_58 : decode cL_law 58 = .ok (.if_icmp .ne 14, 3) := by decide +kernel
theorem dL_law_61 : decode cL_law 61 = .ok (.aload_n 1, 1) := by decide +kernel
theorem dL_law_62 : decode cL_law 62 = .ok (.iconst 0, 1) := by decide +kernel
theorem dL_law_63 : decode cL_law 63 = .ok (.iconst 0, 1) := by decide +kernel
theorem dL_law_64 : decode cL_law 64 = .ok (.invokevirtual 14, 3) := by decide +kernel
theorem dL_law_67 : decode cL_law 67 = .ok (.bipush (-2), 2) := by decide +kernel
theorem dL_law_69 : decode cL_law 69 = .ok (.if_icmp .eq 5, 3) := by decide +kernel
theorem dL_law_72 : decode cL_law 72 = .ok (.iconst 0, 1) := by decide +kernel
theorem dL_law_73 : decode cL_law 73 = .ok (.ireturn, 1) := by decide +kernel
theorem dL_law_74 : decode cL_law 74 = .ok (.iconst 1, 1) := by decide +kernel
theorem dL_law_75 : decode cL_law 75 = .ok (.iload_n 2, 1) := by decide +kernel
theorem dL_law_76 : decode cL_law 76 = .ok (.iconst 3, 1) := by decide +kernel
theorem dL_law_77 : decode cL_law 77 = .ok (.invokestatic 58, 3) := by decide +kernel
theorem dL_law_80 : decode cL_law 80 = .ok (.iadd, 1) := by decide +kernel
theorem dL_law_81 : decode cL_law 81 = .ok (.istore_n 3, 1) := by decide +kernel
theorem dL_law_82 : decode cL_law 82 = .ok (.iconst 0, 1) := by decide +kernel
theorem dL_law_83 : decode cL_law 83 = .ok (.istore 4, 2) := by decide +kernel
theorem dL_law_85 : decode cL_law 85 = .ok (.iload 4, 2) := by decide +kernel
theorem dL_law_87 : decode cL_law 87 = .ok (.iload_n 3, 1) := by decide +kernel
theorem dL_law_88 : decode cL_law 88 = .ok (.if_icmp .ge 108, 3) := by decide +kernel
theorem dL_law_91 : decode cL_law 91 = .ok (.aload_n 0, 1) := by decide +kernel
theorem dL_law_92 : decode cL_law 92 = .ok (.iconst 1, 1) := by decide +kernel
theorem dL_law_93 : decode cL_law 93 = .ok (.iload 4, 2) := by decide +kernel
theorem dL_law_95 : decode cL_law 95 = .ok (.iadd, 1) := by decide +kernel
theorem dL_law_96 : decode cL_law 96 = .ok (.invokestatic 98, 3) := by decide +kernel
theorem dL_law_99 : decode cL_law 99 = .ok (.istore 5, 2) := by decide +kernel
theorem dL_law_101 : decode cL_law 101 = .ok (.aload_n 1, 1) := by decide +kernel
theorem dL_law_102 : decode cL_law 102 = .ok (.sipush 500, 3) := by decide +kernel
theorem dL_law_105 : decode cL_law 105 = .ok (.iload 5, 2) := by decide +kernel
theorem dL_law_107 : decode cL_law 107 = .ok (.sipush 5000, 3) := by decide +kernel
theorem dL_law_110 : decode cL_law 110 = .ok (.invokestatic 58, 3) := by decide +kernel
theorem dL_law_113 : decode cL_law 113 = .ok (.iadd, 1) := by decide +kernel
theorem dL_law_114 : decode cL_law 114 = .ok (.iconst 3, 1) := by decide +kernel
theorem dL_law_115 : decode cL_law 115 = .ok (.iload 5, 2) := by decide +kernel
theorem dL_law_117 : decode cL_law 117 = .ok (.bipush 13, 2) := by decide +kernel
theorem dL_law_119 : decode cL_law 119 = .ok (.ishr, 1) := by decide +kernel
theorem dL_law_120 : decode cL_law 120 = .ok (.bipush 8, 2) := by decide +kernel
theorem dL_law_122 : decode cL_law 122 = .ok (.invokestatic 58, 3) := by decide +kernel
theorem dL_law_125 : decode cL_law 125 = .ok (.iadd, 1) := by decide +kernel
theorem dL_law_126 : decode cL_law 126 = .ok (.invokevirtual 61, 3) := by decide +kernel
theorem dL_law_129 : decode cL_law 129 = .ok (.iload 4, 2) := by decide +kernel
theorem dL_law_131 : decode cL_law 131 = .ok (.if_icmp .ne 57, 3) := by decide +kernel
theorem dL_law_134 : decode cL_law 134 = .ok (.aload_n 1, 1) := by decide +kernel
theorem dL_law_135 : decode cL_law 135 = .ok (.iload 4, 2) := by decide +kernel
theorem dL_law_137 : decode cL_law 137 = .ok (.iconst 1, 1) := by decide +kernel
theorem dL_law_138 : decode cL_law 138 = .ok (.iload 5, 2) := by decide +kernel
theorem dL_law_140 : decode cL_law 140 = .ok (.bipush 17, 2) := by decide +kernel
theorem dL_law_142 : decode cL_law 142 = .ok (.ishr, 1) := by decide +kernel
theorem dL_law_143 : decode cL_law 143 = .ok (.bipush 6, 2) := by decide +kernel
theorem dL_law_145 : decode cL_law 145 = .ok (.invokestatic 58, 3) := by decide +kernel
theorem dL_law_148 : decode cL_law 148 = .ok (.iadd, 1) := by decide +kernel
theorem dL_law_149 : decode cL_law 149 = .ok (.iload 5, 2) := by decide +kernel
theorem dL_law_151 : decode cL_law 151 = .ok (.bipush 20, 2) := by decide +kernel
theorem dL_law_153 : decode cL_law 153 = .ok (.ishr, 1) := by decide +kernel
theorem dL_law_154 : decode cL_law 154 = .ok (.bipush 20, 2) := by decide +kernel
theorem dL_law_156 : decode cL_law 156 = .ok (.invokestatic 58, 3) := by decide +kernel
theorem dL_law_159 : decode cL_law 159 = .ok (.invokevirtual 64, 3) := by decide +kernel
theorem dL_law_162 : decode cL_law 162 = .ok (.iload 4, 2) := by decide +kernel
theorem dL_law_164 : decode cL_law 164 = .ok (.if_icmp .ne 24, 3) := by decide +kernel
theorem dL_law_167 : decode cL_law 167 = .ok (.aload_n 1, 1) := by decide +kernel
theorem dL_law_168 : decode cL_law 168 = .ok (.iload 4, 2) := by decide +kernel
theorem dL_law_170 : decode cL_law 170 = .ok (.iconst 1, 1) := by decide +kernel
theorem dL_law_171 : decode cL_law 171 = .ok (.iload 5, 2) := by decide +kernel
theorem dL_law_173 : decode cL_law 173 = .ok (.bipush 25, 2) := by decide +kernel
theorem dL_law_175 : decode cL_law 175 = .ok (.ishr, 1) := by decide +kernel
theorem dL_law_176 : decode cL_law 176 = .ok (.bipush 6, 2) := by decide +kernel
theorem dL_law_178 : decode cL_law 178 = .ok (.invokestatic 58, 3) := by decide +kernel
theorem dL_law_181 : decode cL_law 181 = .ok (.iadd, 1) := by decide +kernel
theorem dL_law_182 : decode cL_law 182 = .ok (.invokevirtual 79, 3) := by decide +kernel
theorem dL_law_185 : decode cL_law 185 = .ok (.ifCond .ge 5, 3) := by decide +kernel
theorem dL_law_188 : decode cL_law 188 = .ok (.iconst 0, 1) := by decide +kernel
theorem dL_law_189 : decode cL_law 189 = .ok (.ireturn, 1) := by decide +kernel
theorem dL_law_190 : decode cL_law 190 = .ok (.iinc 4 1, 3) := by decide +kernel
theorem dL_law_193 : decode cL_law 193 = .ok (.goto (-108), 3) := by decide +kernel
theorem dL_law_196 : decode cL_law 196 = .ok (.iconst 0, 1) := by decide +kernel
theorem dL_law_197 : decode cL_law 197 = .ok (.istore 4, 2) := by decide +kernel
theorem dL_law_199 : decode cL_law 199 = .ok (.iload 4, 2) := by decide +kernel
theorem dL_law_201 : decode cL_law 201 = .ok (.bipush 26, 2) := by decide +kernel
theorem dL_law_203 : decode cL_law 203 = .ok (.if_icmp .ge 131, 3) := by decide +kernel
theorem dL_law_206 : decode cL_law 206 = .ok (.aload_n 0, 1) := by decide +kernel
theorem dL_law_207 : decode cL_law 207 = .ok (.iconst 4, 1) := by decide +kernel
theorem dL_law_208 : decode cL_law 208 = .ok (.iload 4, 2) := by decide +kernel
theorem dL_law_210 : decode cL_law 210 = .ok (.iadd, 1) := by decide +kernel
theorem dL_law_211 : decode cL_law 211 = .ok (.invokestatic 98, 3) := by decide +kernel
theorem dL_law_214 : decode cL_law 214 = .ok (.istore 5, 2) := by decide +kernel
theorem dL_law_216 : decode cL_law 216 = .ok (.aload_n 1, 1) := by decide +kernel
theorem dL_law_217 : decode cL_law 217 = .ok (.invokevirtual 38, 3) := by decide +kernel
theorem dL_law_220 : decode cL_law 220 = .ok (.lstore 6, 2) := by decide +kernel
theorem dL_law_222 : decode cL_law 222 = .ok (.aload_n 1, 1) := by decide +kernel
theorem dL_law_223 : decode cL_law 223 = .ok (.iload 5, 2) := by decide +kernel
theorem dL_law_225 : decode cL_law 225 = .ok (.invokestatic 105, 3) := by decide +kernel
theorem dL_law_228 : decode cL_law 228 = .ok (.istore 8, 2) := by decide +kernel
theorem dL_law_230 : decode cL_law 230 = .ok (.iload 8, 2) := by decide +kernel
theorem dL_law_232 : decode cL_law 232 = .ok (.ifCond .ge 13, 3) := by decide +kernel
theorem dL_law_235 : decode cL_law 235 = .ok (.aload_n 1, 1) := by decide +kernel
theorem dL_law_236 : decode cL_law 236 = .ok (.invokevirtual 38, 3) := by decide +kernel
theorem dL_law_239 : decode cL_law 239 = .ok (.lload 6, 2) := by decide +kernel
theorem dL_law_241 : decode cL_law 241 = .ok (.lcmp, 1) := by decide +kernel
theorem dL_law_242 : decode cL_law 242 = .ok (.ifCond .ne 10, 3) := by decide +kernel
theorem dL_law_245 : decode cL_law 245 = .ok (.aload_n 1, 1) := by decide +kernel
theorem dL_law_246 : decode cL_law 246 = .ok (.invokestatic 49, 3) := by decide +kernel
theorem dL_law_249 : decode cL_law 249 = .ok (.ifCond .ne 5, 3) := by decide +kernel
theorem dL_law_252 : decode cL_law 252 = .ok (.iconst 0, 1) := by decide +kernel
theorem dL_law_253 : decode cL_law 253 = .ok (.ireturn, 1) := by decide +kernel
theorem dL_law_254 : decode cL_law 254 = .ok (.iload 8, 2) := by decide +kernel
theorem dL_law_256 : decode cL_law 256 = .ok (.ifCond .lt 32, 3) := by decide +kernel
theorem dL_law_259 : decode cL_law 259 = .ok (.iload 5, 2) := by decide +kernel
theorem dL_law_261 : decode cL_law 261 = .ok (.bipush 27, 2) := by decide +kernel
theorem dL_law_263 : decode cL_law 263 = .ok (.ishr, 1) := by decide +kernel
theorem dL_law_264 : decode cL_law 264 = .ok (.iconst 3, 1) := by decide +kernel
theorem dL_law_265 : decode cL_law 265 = .ok (.iand, 1) := by decide +kernel
theorem dL_law_266 : decode cL_law 266 = .ok (.ifCond .ne 22, 3) := by decide +kernel
theorem dL_law_269 : decode cL_law 269 = .ok (.aload_n 1, 1) := by decide +kernel
theorem dL_law_270 : decode cL_law 270 = .ok (.invokevirtual 55, 3) := by decide +kernel
theorem dL_law_273 : decode cL_law 273 = .ok (.ifCond .lt 13, 3) := by decide +kernel
theorem dL_law_276 : decode cL_law 276 = .ok (.aload_n 1, 1) := by decide +kernel
theorem dL_law_277 : decode cL_law 277 = .ok (.invokevirtual 38, 3) := by decide +kernel
theorem dL_law_280 : decode cL_law 280 = .ok (.lload 6, 2) := by decide +kernel
theorem dL_law_282 : decode cL_law 282 = .ok (.lcmp, 1) := by decide +kernel
theorem dL_law_283 : decode cL_law 283 = .ok (.ifCond .eq 5, 3) := by decide +kernel
theorem dL_law_286 : decode cL_law 286 = .ok (.iconst 0, 1) := by decide +kernel
theorem dL_law_287 : decode cL_law 287 = .ok (.ireturn, 1) := by decide +kernel
theorem dL_law_288 : decode cL_law 288 = .ok (.iload 4, 2) := by decide +kernel
theorem dL_law_290 : decode cL_law 290 = .ok (.iconst 3, 1) := by decide +kernel
theorem dL_law_291 : decode cL_law 291 = .ok (.irem, 1) := by decide +kernel
theorem dL_law_292 : decode cL_law 292 = .ok (.iconst 2, 1) := by decide +kernel
theorem dL_law_293 : decode cL_law 293 = .ok (.if_icmp .ne 35, 3) := by decide +kernel
theorem dL_law_296 : decode cL_law 296 = .ok (.aload_n 1, 1) := by decide +kernel
theorem dL_law_297 : decode cL_law 297 = .ok (.iload 5, 2) := by decide +kernel
theorem dL_law_299 : decode cL_law 299 = .ok (.iconst 5, 1) := by decide +kernel
theorem dL_law_300 : decode cL_law 300 = .ok (.ishr, 1) := by decide +kernel
theorem dL_law_301 : decode cL_law 301 = .ok (.aload_n 1, 1) := by decide +kernel
theorem dL_law_302 : decode cL_law 302 = .ok (.iconst 1, 1) := by decide +kernel
theorem dL_law_303 : decode cL_law 303 = .ok (.invokevirtual 8, 3) := by decide +kernel
theorem dL_law_306 : decode cL_law 306 = .ok (.iconst 1, 1) := by decide +kernel
theorem dL_law_307 : decode cL_law 307 = .ok (.iadd, 1) := by decide +kernel
theorem dL_law_308 : decode cL_law 308 = .ok (.invokestatic 58, 3) := by decide +kernel
theorem dL_law_311 : decode cL_law 311 = .ok (.iload 5, 2) := by decide +kernel
theorem dL_law_313 : decode cL_law 313 = .ok (.bipush 11, 2) := by decide +kernel
theorem dL_law_315 : decode cL_law 315 = .ok (.ishr, 1) := by decide +kernel
theorem dL_law_316 : decode cL_law 316 = .ok (.iconst 5, 1) := by decide +kernel
theorem dL_law_317 : decode cL_law 317 = .ok (.invokestatic 58, 3) := by decide +kernel
theorem dL_law_320 : decode cL_law 320 = .ok (.invokestatic 109, 3) := by decide +kernel
theorem dL_law_323 : decode cL_law 323 = .ok (.ifCond .ne 5, 3) := by decide +kernel
theorem dL_law_326 : decode cL_law 326 = .ok (.iconst 0, 1) := by decide +kernel
theorem dL_law_327 : decode cL_law 327 = .ok (.ireturn, 1) := by decide +kernel
theorem dL_law_328 : decode cL_law 328 = .ok (.iinc 4 1, 3) := by decide +kernel
theorem dL_law_331 : decode cL_law 331 = .ok (.goto (-132), 3) := by decide +kernel
theorem dL_law_334 : decode cL_law 334 = .ok (.aload_n 1, 1) := by decide +kernel
theorem dL_law_335 : decode cL_law 335 = .ok (.invokevirtual 38, 3) := by decide +kernel
theorem dL_law_338 : decode cL_law 338 = .ok (.lstore 4, 2) := by decide +kernel
theorem dL_law_340 : decode cL_law 340 = .ok (.iconst 1, 1) := by decide +kernel
theorem dL_law_341 : decode cL_law 341 = .ok (.iload_n 2, 1) := by decide +kernel
theorem dL_law_342 : decode cL_law 342 = .ok (.iconst 4, 1) := by decide +kernel
theorem dL_law_343 : decode cL_law 343 = .ok (.ishr, 1) := by decide +kernel
theorem dL_law_344 : decode cL_law 344 = .ok (.sipush 200, 3) := by decide +kernel
theorem dL_law_347 : decode cL_law 347 = .ok (.invokestatic 58, 3) := by decide +kernel
theorem dL_law_350 : decode cL_law 350 = .ok (.iadd, 1) := by decide +kernel
theorem dL_law_351 : decode cL_law 351 = .ok (.istore 6, 2) := by decide +kernel
theorem dL_law_353 : decode cL_law 353 = .ok (.aload_n 1, 1) := by decide +kernel
theorem dL_law_354 : decode cL_law 354 = .ok (.iload 6, 2) := by decide +kernel
theorem dL_law_356 : decode cL_law 356 = .ok (.invokevirtual 113, 3) := by decide +kernel
theorem dL_law_359 : decode cL_law 359 = .ok (.istore 7, 2) := by decide +kernel
theorem dL_law_361 : decode cL_law 361 = .ok (.aload_n 1, 1) := by decide +kernel
theorem dL_law_362 : decode cL_law 362 = .ok (.bipush 7, 2) := by decide +kernel
theorem dL_law_364 : decode cL_law 364 = .ok (.invokevirtual 8, 3) := by decide +kernel
theorem dL_law_367 : decode cL_law 367 = .ok (.istore 8, 2) := by decide +kernel
theorem dL_law_369 : decode cL_law 369 = .ok (.aload_n 1, 1) := by decide +kernel
theorem dL_law_370 : decode cL_law 370 = .ok (.invokevirtual 38, 3) := by decide +kernel
theorem dL_law_373 : decode cL_law 373 = .ok (.lload 4, 2) := by decide +kernel
theorem dL_law_375 : decode cL_law 375 = .ok (.lcmp, 1) := by decide +kernel
theorem dL_law_376 : decode cL_law 376 = .ok (.ifCond .ne 52, 3) := by decide +kernel
theorem dL_law_379 : decode cL_law 379 = .ok (.aload_n 1, 1) := by decide +kernel
theorem dL_law_380 : decode cL_law 380 = .ok (.iload 6, 2) := by decide +kernel
theorem dL_law_382 : decode cL_law 382 = .ok (.invokevirtual 91, 3) := by decide +kernel
theorem dL_law_385 : decode cL_law 385 = .ok (.iload 7, 2) := by decide +kernel
theorem dL_law_387 : decode cL_law 387 = .ok (.if_icmp .ne 41, 3) := by decide +kernel
theorem dL_law_390 : decode cL_law 390 = .ok (.aload_n 1, 1) := by decide +kernel
theorem dL_law_391 : decode cL_law 391 = .ok (.bipush 7, 2) := by decide +kernel
theorem dL_law_393 : decode cL_law 393 = .ok (.invokevirtual 8, 3) := by decide +kernel
theorem dL_law_396 : decode cL_law 396 = .ok (.iload 8, 2) := by decide +kernel
theorem dL_law_398 : decode cL_law 398 = .ok (.iload 7, 2) := by decide +kernel
theorem dL_law_400 : decode cL_law 400 = .ok (.iadd, 1) := by decide +kernel
theorem dL_law_401 : decode cL_law 401 = .ok (.if_icmp .ne 27, 3) := by decide +kernel
theorem dL_law_404 : decode cL_law 404 = .ok (.aload_n 1, 1) := by decide +kernel
theorem dL_law_405 : decode cL_law 405 = .ok (.invokestatic 49, 3) := by decide +kernel
theorem dL_law_408 : decode cL_law 408 = .ok (.ifCond .eq 20, 3) := by decide +kernel
theorem dL_law_411 : decode cL_law 411 = .ok (.aload_n 1, 1) := by decide +kernel
theorem dL_law_412 : decode cL_law 412 = .ok (.invokevirtual 55, 3) := by decide +kernel
theorem dL_law_415 : decode cL_law 415 = .ok (.ifCond .lt 13, 3) := by decide +kernel
theorem dL_law_418 : decode cL_law 418 = .ok (.aload_n 1, 1) := by decide +kernel
theorem dL_law_419 : decode cL_law 419 = .ok (.invokevirtual 38, 3) := by decide +kernel
theorem dL_law_422 : decode cL_law 422 = .ok (.lload 4, 2) := by decide +kernel
theorem dL_law_424 : decode cL_law 424 = .ok (.lcmp, 1) := by decide +kernel
theorem dL_law_425 : decode cL_law 425 = .ok (.ifCond .eq 5, 3) := by decide +kernel
theorem dL_law_428 : decode cL_law 428 = .ok (.iconst 0, 1) := by decide +kernel
theorem dL_law_429 : decode cL_law 429 = .ok (.ireturn, 1) := by decide +kernel
theorem dL_law_430 : decode cL_law 430 = .ok (.iconst 0, 1) := by decide +kernel
theorem dL_law_431 : decode cL_law 431 = .ok (.istore 9, 2) := by decide +kernel
theorem dL_law_433 : decode cL_law 433 = .ok (.iload 9, 2) := by decide +kernel
theorem dL_law_435 : decode cL_law 435 = .ok (.aload_n 1, 1) := by decide +kernel
theorem dL_law_436 : decode cL_law 436 = .ok (.iconst 0, 1) := by decide +kernel
theorem dL_law_437 : decode cL_law 437 = .ok (.invokevirtual 8, 3) := by decide +kernel
theorem dL_law_440 : decode cL_law 440 = .ok (.if_icmp .ge 352, 3) := by decide +kernel
theorem dL_law_443 : decode cL_law 443 = .ok (.aload_n 1, 1) := by decide +kernel
theorem dL_law_444 : decode cL_law 444 = .ok (.iload 9, 2) := by decide +kernel
theorem dL_law_446 : decode cL_law 446 = .ok (.invokevirtual 116, 3) := by decide +kernel
theorem dL_law_449 : decode cL_law 449 = .ok (.istore 10, 2) := by decide +kernel
theorem dL_law_451 : decode cL_law 451 = .ok (.iconst 0, 1) := by decide +kernel
theorem dL_law_452 : decode cL_law 452 = .ok (.istore 11, 2) := by decide +kernel
theorem dL_law_454 : decode cL_law 454 = .ok (.iconst 0, 1) := by decide +kernel
theorem dL_law_455 : decode cL_law 455 = .ok (.istore 12, 2) := by decide +kernel
theorem dL_law_457 : decode cL_law 457 = .ok (.iload 12, 2) := by decide +kernel
theorem dL_law_459 : decode cL_law 459 = .ok (.aload_n 1, 1) := by decide +kernel
theorem dL_law_460 : decode cL_law 460 = .ok (.iconst 1, 1) := by decide +kernel
theorem dL_law_461 : decode cL_law 461 = .ok (.invokevirtual 8, 3) := by decide +kernel
theorem dL_law_464 : decode cL_law 464 = .ok (.if_icmp .ge 47, 3) := by decide +kernel
theorem dL_law_467 : decode cL_law 467 = .ok (.aload_n 1, 1) := by decide +kernel
theorem dL_law_468 : decode cL_law 468 = .ok (.iload 12, 2) := by decide +kernel
theorem dL_law_470 : decode cL_law 470 = .ok (.iconst 3, 1) := by decide +kernel
theorem dL_law_471 : decode cL_law 471 = .ok (.invokevirtual 14, 3) := by decide +kernel
theorem dL_law_474 : decode cL_law 474 = .ok (.istore 13, 2) := by decide +kernel
theorem dL_law_476 : decode cL_law 476 = .ok (.iload 11, 2) := by decide +kernel
theorem dL_law_478 : decode cL_law 478 = .ok (.iload 13, 2) := by decide +kernel
theorem dL_law_480 : decode cL_law 480 = .ok (.iconst 2, 1) := by decide +kernel
theorem dL_law_481 : decode cL_law 481 = .ok (.if_icmp .eq 20, 3) := by decide +kernel
theorem dL_law_484 : decode cL_law 484 = .ok (.iload 13, 2) := by decide +kernel
theorem dL_law_486 : decode cL_law 486 = .ok (.iconst 3, 1) := by decide +kernel
theorem dL_law_487 : decode cL_law 487 = .ok (.if_icmp .eq 14, 3) := by decide +kernel
theorem dL_law_490 : decode cL_law 490 = .ok (.aload_n 1, 1) := by decide +kernel
theorem dL_law_491 : decode cL_law 491 = .ok (.iload 12, 2) := by decide +kernel
theorem dL_law_493 : decode cL_law 493 = .ok (.bipush 6, 2) := by decide +kernel
theorem dL_law_495 : decode cL_law 495 = .ok (.invokevirtual 14, 3) := by decide +kernel
theorem dL_law_498 : decode cL_law 498 = .ok (.goto 4, 3) := by decide +kernel
theorem dL_law_501 : decode cL_law 501 = .ok (.iconst 0, 1) := by decide +kernel
theorem dL_law_502 : decode cL_law 502 = .ok (.iadd, 1) := by decide +kernel
theorem dL_law_503 : decode cL_law 503 = .ok (.istore 11, 2) := by decide +kernel
theorem dL_law_505 : decode cL_law 505 = .ok (.iinc 12 1, 3) := by decide +kernel
theorem dL_law_508 : decode cL_law 508 = .ok (.goto (-51), 3) := by decide +kernel
theorem dL_law_511 : decode cL_law 511 = .ok (.iload 10, 2) := by decide +kernel
theorem dL_law_513 : decode cL_law 513 = .ok (.bipush (-5), 2) := by decide +kernel
theorem dL_law_515 : decode cL_law 515 = .ok (.if_icmp .ne 17, 3) := by decide +kernel
theorem dL_law_518 : decode cL_law 518 = .ok (.aload_n 1, 1) := by decide +kernel
theorem dL_law_519 : decode cL_law 519 = .ok (.iload 9, 2) := by decide +kernel
theorem dL_law_521 : decode cL_law 521 = .ok (.invokevirtual 70, 3) := by decide +kernel
theorem dL_law_524 : decode cL_law 524 = .ok (.bipush (-5), 2) := by decide +kernel
theorem dL_law_526 : decode cL_law 526 = .ok (.if_icmp .eq 23, 3) := by decide +kernel
theorem dL_law_529 : decode cL_law 529 = .ok (.goto 18, 3) := by decide +kernel
theorem dL_law_532 : decode cL_law 532 = .ok (.iload 10, 2) := by decide +kernel
theorem dL_law_534 : decode cL_law 534 = .ok (.ifCond .lt 13, 3) := by decide +kernel
theorem dL_law_537 : decode cL_law 537 = .ok (.aload_n 1, 1) := by decide +kernel
theorem dL_law_538 : decode cL_law 538 = .ok (.iload 9, 2) := by decide +kernel
theorem dL_law_540 : decode cL_law 540 = .ok (.invokevirtual 70, 3) := by decide +kernel
theorem dL_law_543 : decode cL_law 543 = .ok (.iconst 2, 1) := by decide +kernel
theorem dL_law_544 : decode cL_law 544 = .ok (.if_icmp .ge 5, 3) := by decide +kernel
theorem dL_law_547 : decode cL_law 547 = .ok (.iconst 0, 1) := by decide +kernel
theorem dL_law_548 : decode cL_law 548 = .ok (.ireturn, 1) := by decide +kernel
theorem dL_law_549 : decode cL_law 549 = .ok (.iconst 0, 1) := by decide +kernel
theorem dL_law_550 : decode cL_law 550 = .ok (.istore 12, 2) := by decide +kernel
theorem dL_law_552 : decode cL_law 552 = .ok (.iload 12, 2) := by decide +kernel
theorem dL_law_554 : decode cL_law 554 = .ok (.aload_n 1, 1) := by decide +kernel
theorem dL_law_555 : decode cL_law 555 = .ok (.iconst 1, 1) := by decide +kernel
theorem dL_law_556 : decode cL_law 556 = .ok (.invokevirtual 8, 3) := by decide +kernel
theorem dL_law_559 : decode cL_law 559 = .ok (.if_icmp .ge 47, 3) := by decide +kernel
theorem dL_law_562 : decode cL_law 562 = .ok (.aload_n 1, 1) := by decide +kernel
theorem dL_law_563 : decode cL_law 563 = .ok (.iload 12, 2) := by decide +kernel
theorem dL_law_565 : decode cL_law 565 = .ok (.iconst 3, 1) := by decide +kernel
theorem dL_law_566 : decode cL_law 566 = .ok (.invokevirtual 14, 3) := by decide +kernel
theorem dL_law_569 : decode cL_law 569 = .ok (.istore 13, 2) := by decide +kernel
theorem dL_law_571 : decode cL_law 571 = .ok (.iload 11, 2) := by decide +kernel
theorem dL_law_573 : decode cL_law 573 = .ok (.iload 13, 2) := by decide +kernel
theorem dL_law_575 : decode cL_law 575 = .ok (.iconst 2, 1) := by decide +kernel
theorem dL_law_576 : decode cL_law 576 = .ok (.if_icmp .eq 20, 3) := by decide +kernel
theorem dL_law_579 : decode cL_law 579 = .ok (.iload 13, 2) := by decide +kernel
theorem dL_law_581 : decode cL_law 581 = .ok (.iconst 3, 1) := by decide +kernel
theorem dL_law_582 : decode cL_law 582 = .ok (.if_icmp .eq 14, 3) := by decide +kernel
theorem dL_law_585 : decode cL_law 585 = .ok (.aload_n 1, 1) := by decide +kernel
theorem dL_law_586 : decode cL_law 586 = .ok (.iload 12, 2) := by decide +kernel
theorem dL_law_588 : decode cL_law 588 = .ok (.bipush 6, 2) := by decide +kernel
theorem dL_law_590 : decode cL_law 590 = .ok (.invokevirtual 14, 3) := by decide +kernel
theorem dL_law_593 : decode cL_law 593 = .ok (.goto 4, 3) := by decide +kernel
theorem dL_law_596 : decode cL_law 596 = .ok (.iconst 0, 1) := by decide +kernel
theorem dL_law_597 : decode cL_law 597 = .ok (.isub, 1) := by decide +kernel
theorem dL_law_598 : decode cL_law 598 = .ok (.istore 11, 2) := by decide +kernel
theorem dL_law_600 : decode cL_law 600 = .ok (.iinc 12 1, 3) := by decide +kernel
theorem dL_law_603 : decode cL_law 603 = .ok (.goto (-51), 3) := by decide +kernel
theorem dL_law_606 : decode cL_law 606 = .ok (.iload 10, 2) := by decide +kernel
theorem dL_law_608 : decode cL_law 608 = .ok (.bipush (-5), 2) := by decide +kernel
theorem dL_law_610 : decode cL_law 610 = .ok (.if_icmp .eq 17, 3) := by decide +kernel
theorem dL_law_613 : decode cL_law 613 = .ok (.iload 11, 2) := by decide +kernel
theorem dL_law_615 : decode cL_law 615 = .ok (.iload 10, 2) := by decide +kernel
theorem dL_law_617 : decode cL_law 617 = .ok (.if_icmp .ne 20, 3) := by decide +kernel
theorem dL_law_620 : decode cL_law 620 = .ok (.aload_n 1, 1) := by decide +kernel
theorem dL_law_621 : decode cL_law 621 = .ok (.invokevirtual 55, 3) := by decide +kernel
theorem dL_law_624 : decode cL_law 624 = .ok (.ifCond .lt 13, 3) := by decide +kernel
theorem dL_law_627 : decode cL_law 627 = .ok (.aload_n 1, 1) := by decide +kernel
theorem dL_law_628 : decode cL_law 628 = .ok (.invokevirtual 38, 3) := by decide +kernel
theorem dL_law_631 : decode cL_law 631 = .ok (.lload 4, 2) := by decide +kernel
theorem dL_law_633 : decode cL_law 633 = .ok (.lcmp, 1) := by decide +kernel
theorem dL_law_634 : decode cL_law 634 = .ok (.ifCond .eq 5, 3) := by decide +kernel
theorem dL_law_637 : decode cL_law 637 = .ok (.iconst 0, 1) := by decide +kernel
theorem dL_law_638 : decode cL_law 638 = .ok (.ireturn, 1) := by decide +kernel
theorem dL_law_639 : decode cL_law 639 = .ok (.iconst 1, 1) := by decide +kernel
theorem dL_law_640 : decode cL_law 640 = .ok (.iload_n 2, 1) := by decide +kernel
theorem dL_law_641 : decode cL_law 641 = .ok (.bipush 8, 2) := by decide +kernel
theorem dL_law_643 : decode cL_law 643 = .ok (.ishr, 1) := by decide +kernel
theorem dL_law_644 : decode cL_law 644 = .ok (.bipush 12, 2) := by decide +kernel
theorem dL_law_646 : decode cL_law 646 = .ok (.invokestatic 58, 3) := by decide +kernel
theorem dL_law_649 : decode cL_law 649 = .ok (.iadd, 1) := by decide +kernel
theorem dL_law_650 : decode cL_law 650 = .ok (.istore 12, 2) := by decide +kernel
theorem dL_law_652 : decode cL_law 652 = .ok (.aload_n 1, 1) := by decide +kernel
theorem dL_law_653 : decode cL_law 653 = .ok (.iload 9, 2) := by decide +kernel
theorem dL_law_655 : decode cL_law 655 = .ok (.iload 12, 2) := by decide +kernel
theorem dL_law_657 : decode cL_law 657 = .ok (.iconst 1, 1) := by decide +kernel
theorem dL_law_658 : decode cL_law 658 = .ok (.invokevirtual 119, 3) := by decide +kernel
theorem dL_law_661 : decode cL_law 661 = .ok (.istore 13, 2) := by decide +kernel
theorem dL_law_663 : decode cL_law 663 = .ok (.aload_n 1, 1) := by decide +kernel
theorem dL_law_664 : decode cL_law 664 = .ok (.iconst 1, 1) := by decide +kernel
theorem dL_law_665 : decode cL_law 665 = .ok (.invokevirtual 8, 3) := by decide +kernel
theorem dL_law_668 : decode cL_law 668 = .ok (.istore 14, 2) := by decide +kernel
theorem dL_law_670 : decode cL_law 670 = .ok (.aload_n 1, 1) := by decide +kernel
theorem dL_law_671 : decode cL_law 671 = .ok (.iload 9, 2) := by decide +kernel
theorem dL_law_673 : decode cL_law 673 = .ok (.iload 12, 2) := by decide +kernel
theorem dL_law_675 : decode cL_law 675 = .ok (.iconst 1, 1) := by decide +kernel
theorem dL_law_676 : decode cL_law 676 = .ok (.invokevirtual 82, 3) := by decide +kernel
theorem dL_law_679 : decode cL_law 679 = .ok (.istore 15, 2) := by decide +kernel
theorem dL_law_681 : decode cL_law 681 = .ok (.iload 13, 2) := by decide +kernel
theorem dL_law_683 : decode cL_law 683 = .ok (.ifCond .ne 13, 3) := by decide +kernel
theorem dL_law_686 : decode cL_law 686 = .ok (.iload 15, 2) := by decide +kernel
theorem dL_law_688 : decode cL_law 688 = .ok (.bipush (-4), 2) := by decide +kernel
theorem dL_law_690 : decode cL_law 690 = .ok (.if_icmp .eq 70, 3) := by decide +kernel
theorem dL_law_693 : decode cL_law 693 = .ok (.goto 65, 3) := by decide +kernel
theorem dL_law_696 : decode cL_law 696 = .ok (.iload 14, 2) := by decide +kernel
theorem dL_law_698 : decode cL_law 698 = .ok (.bipush 60, 2) := by decide +kernel
theorem dL_law_700 : decode cL_law 700 = .ok (.if_icmp .ne 13, 3) := by decide +kernel
theorem dL_law_703 : decode cL_law 703 = .ok (.iload 15, 2) := by decide +kernel
theorem dL_law_705 : decode cL_law 705 = .ok (.bipush (-5), 2) := by decide +kernel
theorem dL_law_707 : decode cL_law 707 = .ok (.if_icmp .eq 53, 3) := by decide +kernel
theorem dL_law_710 : decode cL_law 710 = .ok (.goto 48, 3) := by decide +kernel
theorem dL_law_713 : decode cL_law 713 = .ok (.iload 15, 2) := by decide +kernel
theorem dL_law_715 : decode cL_law 715 = .ok (.iload 14, 2) := by decide +kernel
theorem dL_law_717 : decode cL_law 717 = .ok (.if_icmp .ne 41, 3) := by decide +kernel
theorem dL_law_720 : decode cL_law 720 = .ok (.aload_n 1, 1) := by decide +kernel
theorem dL_law_721 : decode cL_law 721 = .ok (.iload 14, 2) := by decide +kernel
theorem dL_law_723 : decode cL_law 723 = .ok (.bipush 6, 2) := by decide +kernel
theorem dL_law_725 : decode cL_law 725 = .ok (.invokevirtual 14, 3) := by decide +kernel
theorem dL_law_728 : decode cL_law 728 = .ok (.bipush 40, 2) := by decide +kernel
theorem dL_law_730 : decode cL_law 730 = .ok (.imul, 1) := by decide +kernel
theorem dL_law_731 : decode cL_law 731 = .ok (.bipush 100, 2) := by decide +kernel
theorem dL_law_733 : decode cL_law 733 = .ok (.idiv, 1) := by decide +kernel
theorem dL_law_734 : decode cL_law 734 = .ok (.iload 13, 2) := by decide +kernel
theorem dL_law_736 : decode cL_law 736 = .ok (.if_icmp .lt 22, 3) := by decide +kernel
theorem dL_law_739 : decode cL_law 739 = .ok (.aload_n 1, 1) := by decide +kernel
theorem dL_law_740 : decode cL_law 740 = .ok (.iload 14, 2) := by decide +kernel
theorem dL_law_742 : decode cL_law 742 = .ok (.bipush 9, 2) := by decide +kernel
theorem dL_law_744 : decode cL_law 744 = .ok (.invokevirtual 14, 3) := by decide +kernel
theorem dL_law_747 : decode cL_law 747 = .ok (.iconst 1, 1) := by decide +kernel
theorem dL_law_748 : decode cL_law 748 = .ok (.if_icmp .ne 10, 3) := by decide +kernel
theorem dL_law_751 : decode cL_law 751 = .ok (.aload_n 1, 1) := by decide +kernel
theorem dL_law_752 : decode cL_law 752 = .ok (.invokevirtual 55, 3) := by decide +kernel
theorem dL_law_755 : decode cL_law 755 = .ok (.ifCond .ge 5, 3) := by decide +kernel
theorem dL_law_758 : decode cL_law 758 = .ok (.iconst 0, 1) := by decide +kernel
theorem dL_law_759 : decode cL_law 759 = .ok (.ireturn, 1) := by decide +kernel
theorem dL_law_760 : decode cL_law 760 = .ok (.aload_n 1, 1) := by decide +kernel
theorem dL_law_761 : decode cL_law 761 = .ok (.iload 9, 2) := by decide +kernel
theorem dL_law_763 : decode cL_law 763 = .ok (.iload 12, 2) := by decide +kernel
theorem dL_law_765 : decode cL_law 765 = .ok (.iconst 4, 1) := by decide +kernel
theorem dL_law_766 : decode cL_law 766 = .ok (.invokevirtual 119, 3) := by decide +kernel
theorem dL_law_769 : decode cL_law 769 = .ok (.iload 13, 2) := by decide +kernel
theorem dL_law_771 : decode cL_law 771 = .ok (.if_icmp .gt 13, 3) := by decide +kernel
theorem dL_law_774 : decode cL_law 774 = .ok (.aload_n 1, 1) := by decide +kernel
theorem dL_law_775 : decode cL_law 775 = .ok (.invokevirtual 38, 3) := by decide +kernel
theorem dL_law_778 : decode cL_law 778 = .ok (.lload 4, 2) := by decide +kernel
theorem dL_law_780 : decode cL_law 780 = .ok (.lcmp, 1) := by decide +kernel
theorem dL_law_781 : decode cL_law 781 = .ok (.ifCond .eq 5, 3) := by decide +kernel
theorem dL_law_784 : decode cL_law 784 = .ok (.iconst 0, 1) := by decide +kernel
theorem dL_law_785 : decode cL_law 785 = .ok (.ireturn, 1) := by decide +kernel
theorem dL_law_786 : decode cL_law 786 = .ok (.iinc 9 1, 3) := by decide +kernel
theorem dL_law_789 : decode cL_law 789 = .ok (.goto (-356), 3) := by decide +kernel
theorem dL_law_792 : decode cL_law 792 = .ok (.iconst 0, 1) := by decide +kernel
theorem dL_law_793 : decode cL_law 793 = .ok (.istore 9, 2) := by decide +kernel
theorem dL_law_795 : decode cL_law 795 = .ok (.iload 9, 2) := by decide +kernel
theorem dL_law_797 : decode cL_law 797 = .ok (.aload_n 1, 1) := by decide +kernel
theorem dL_law_798 : decode cL_law 798 = .ok (.iconst 2, 1) := by decide +kernel
theorem dL_law_799 : decode cL_law 799 = .ok (.invokevirtual 8, 3) := by decide +kernel
theorem dL_law_802 : decode cL_law 802 = .ok (.if_icmp .ge 143, 3) := by decide +kernel
theorem dL_law_805 : decode cL_law 805 = .ok (.aload_n 1, 1) := by decide +kernel
theorem dL_law_806 : decode cL_law 806 = .ok (.iload 9, 2) := by decide +kernel
theorem dL_law_808 : decode cL_law 808 = .ok (.invokevirtual 27, 3) := by decide +kernel
theorem dL_law_811 : decode cL_law 811 = .ok (.istore 10, 2) := by decide +kernel
theorem dL_law_813 : decode cL_law 813 = .ok (.iload 10, 2) := by decide +kernel
theorem dL_law_815 : decode cL_law 815 = .ok (.ifCond .ge 7, 3) := by decide +kernel
theorem dL_law_818 : decode cL_law 818 = .ok (.iconst 0, 1) := by decide +kernel
theorem dL_law_819 : decode cL_law 819 = .ok (.goto 11, 3) := by decide +kernel
theorem dL_law_822 : decode cL_law 822 = .ok (.aload_n 1, 1) := by decide +kernel
theorem dL_law_823 : decode cL_law 823 = .ok (.iload 10, 2) := by decide +kernel
theorem dL_law_825 : decode cL_law 825 = .ok (.bipush 7, 2) := by decide +kernel
theorem dL_law_827 : decode cL_law 827 = .ok (.invokevirtual 14, 3) := by decide +kernel
theorem dL_law_830 : decode cL_law 830 = .ok (.istore 11, 2) := by decide +kernel
theorem dL_law_832 : decode cL_law 832 = .ok (.aload_n 1, 1) := by decide +kernel
theorem dL_law_833 : decode cL_law 833 = .ok (.iconst 3, 1) := by decide +kernel
theorem dL_law_834 : decode cL_law 834 = .ok (.iconst 2, 1) := by decide +kernel
theorem dL_law_835 : decode cL_law 835 = .ok (.invokevirtual 21, 3) := by decide +kernel
theorem dL_law_838 : decode cL_law 838 = .ok (.istore 12, 2) := by decide +kernel
theorem dL_law_840 : decode cL_law 840 = .ok (.aload_n 1, 1) := by decide +kernel
theorem dL_law_841 : decode cL_law 841 = .ok (.iconst 3, 1) := by decide +kernel
theorem dL_law_842 : decode cL_law 842 = .ok (.iload 9, 2) := by decide +kernel
theorem dL_law_844 : decode cL_law 844 = .ok (.invokevirtual 88, 3) := by decide +kernel
theorem dL_law_847 : decode cL_law 847 = .ok (.istore 13, 2) := by decide +kernel
theorem dL_law_849 : decode cL_law 849 = .ok (.iload 13, 2) := by decide +kernel
theorem dL_law_851 : decode cL_law 851 = .ok (.ifCond .lt 67, 3) := by decide +kernel
theorem dL_law_854 : decode cL_law 854 = .ok (.iload 13, 2) := by decide +kernel
theorem dL_law_856 : decode cL_law 856 = .ok (.iload 10, 2) := by decide +kernel
theorem dL_law_858 : decode cL_law 858 = .ok (.if_icmp .ne 67, 3) := by decide +kernel
theorem dL_law_861 : decode cL_law 861 = .ok (.aload_n 1, 1) := by decide +kernel
theorem dL_law_862 : decode cL_law 862 = .ok (.iconst 3, 1) := by decide +kernel
theorem dL_law_863 : decode cL_law 863 = .ok (.iconst 2, 1) := by decide +kernel
theorem dL_law_864 : decode cL_law 864 = .ok (.invokevirtual 21, 3) := by decide +kernel
theorem dL_law_867 : decode cL_law 867 = .ok (.iload 12, 2) := by decide +kernel
theorem dL_law_869 : decode cL_law 869 = .ok (.iload 11, 2) := by decide +kernel
theorem dL_law_871 : decode cL_law 871 = .ok (.iadd, 1) := by decide +kernel
theorem dL_law_872 : decode cL_law 872 = .ok (.if_icmp .ne 53, 3) := by decide +kernel
theorem dL_law_875 : decode cL_law 875 = .ok (.aload_n 1, 1) := by decide +kernel
theorem dL_law_876 : decode cL_law 876 = .ok (.iload 13, 2) := by decide +kernel
theorem dL_law_878 : decode cL_law 878 = .ok (.iconst 4, 1) := by decide +kernel
theorem dL_law_879 : decode cL_law 879 = .ok (.invokevirtual 14, 3) := by decide +kernel
theorem dL_law_882 : decode cL_law 882 = .ok (.iconst 3, 1) := by decide +kernel
theorem dL_law_883 : decode cL_law 883 = .ok (.if_icmp .ne 42, 3) := by decide +kernel
theorem dL_law_886 : decode cL_law 886 = .ok (.aload_n 1, 1) := by decide +kernel
theorem dL_law_887 : decode cL_law 887 = .ok (.iload 13, 2) := by decide +kernel
theorem dL_law_889 : decode cL_law 889 = .ok (.iconst 5, 1) := by decide +kernel
theorem dL_law_890 : decode cL_law 890 = .ok (.invokevirtual 14, 3) := by decide +kernel
theorem dL_law_893 : decode cL_law 893 = .ok (.aload_n 1, 1) := by decide +kernel
theorem dL_law_894 : decode cL_law 894 = .ok (.iconst 3, 1) := by decide +kernel
theorem dL_law_895 : decode cL_law 895 = .ok (.invokevirtual 8, 3) := by decide +kernel
theorem dL_law_898 : decode cL_law 898 = .ok (.aload_n 1, 1) := by decide +kernel
theorem dL_law_899 : decode cL_law 899 = .ok (.bipush 10, 2) := by decide +kernel
theorem dL_law_901 : decode cL_law 901 = .ok (.invokevirtual 8, 3) := by decide +kernel
theorem dL_law_904 : decode cL_law 904 = .ok (.iadd, 1) := by decide +kernel
theorem dL_law_905 : decode cL_law 905 = .ok (.if_icmp .ne 20, 3) := by decide +kernel
theorem dL_law_908 : decode cL_law 908 = .ok (.aload_n 1, 1) := by decide +kernel
theorem dL_law_909 : decode cL_law 909 = .ok (.invokevirtual 55, 3) := by decide +kernel
theorem dL_law_912 : decode cL_law 912 = .ok (.ifCond .ge 15, 3) := by decide +kernel
theorem dL_law_915 : decode cL_law 915 = .ok (.goto 10, 3) := by decide +kernel
theorem dL_law_918 : decode cL_law 918 = .ok (.iload 13, 2) := by decide +kernel
theorem dL_law_920 : decode cL_law 920 = .ok (.bipush (-4), 2) := by decide +kernel
theorem dL_law_922 : decode cL_law 922 = .ok (.if_icmp .eq 5, 3) := by decide +kernel
theorem dL_law_925 : decode cL_law 925 = .ok (.iconst 0, 1) := by decide +kernel
theorem dL_law_926 : decode cL_law 926 = .ok (.ireturn, 1) := by decide +kernel
theorem dL_law_927 : decode cL_law 927 = .ok (.aload_n 1, 1) := by decide +kernel
theorem dL_law_928 : decode cL_law 928 = .ok (.invokevirtual 38, 3) := by decide +kernel
theorem dL_law_931 : decode cL_law 931 = .ok (.lload 4, 2) := by decide +kernel
theorem dL_law_933 : decode cL_law 933 = .ok (.lcmp, 1) := by decide +kernel
theorem dL_law_934 : decode cL_law 934 = .ok (.ifCond .eq 5, 3) := by decide +kernel
theorem dL_law_937 : decode cL_law 937 = .ok (.iconst 0, 1) := by decide +kernel
theorem dL_law_938 : decode cL_law 938 = .ok (.ireturn, 1) := by decide +kernel
theorem dL_law_939 : decode cL_law 939 = .ok (.iinc 9 1, 3) := by decide +kernel
theorem dL_law_942 : decode cL_law 942 = .ok (.goto (-147), 3) := by decide +kernel
theorem dL_law_945 : decode cL_law 945 = .ok (.aload_n 1, 1) := by decide +kernel
theorem dL_law_946 : decode cL_law 946 = .ok (.bipush 99, 2) := by decide +kernel
theorem dL_law_948 : decode cL_law 948 = .ok (.iconst 1, 1) := by decide +kernel
theorem dL_law_949 : decode cL_law 949 = .ok (.invokevirtual 61, 3) := by decide +kernel
theorem dL_law_952 : decode cL_law 952 = .ok (.bipush (-3), 2) := by decide +kernel
theorem dL_law_954 : decode cL_law 954 = .ok (.if_icmp .ne 207, 3) := by decide +kernel
theorem dL_law_957 : decode cL_law 957 = .ok (.aload_n 1, 1) := by decide +kernel
theorem dL_law_958 : decode cL_law 958 = .ok (.bipush 6, 2) := by decide +kernel
theorem dL_law_960 : decode cL_law 960 = .ok (.bipush 100, 2) := by decide +kernel
theorem dL_law_962 : decode cL_law 962 = .ok (.invokevirtual 73, 3) := by decide +kernel
theorem dL_law_965 : decode cL_law 965 = .ok (.bipush (-2), 2) := by decide +kernel
theorem dL_law_967 : decode cL_law 967 = .ok (.if_icmp .ne 194, 3) := by decide +kernel
theorem dL_law_970 : decode cL_law 970 = .ok (.aload_n 1, 1) := by decide +kernel
theorem dL_law_971 : decode cL_law 971 = .ok (.bipush 6, 2) := by decide +kernel
theorem dL_law_973 : decode cL_law 973 = .ok (.iconst 1, 1) := by decide +kernel
theorem dL_law_974 : decode cL_law 974 = .ok (.iconst 1, 1) := by decide +kernel
theorem dL_law_975 : decode cL_law 975 = .ok (.invokevirtual 64, 3) := by decide +kernel
theorem dL_law_978 : decode cL_law 978 = .ok (.bipush (-2), 2) := by decide +kernel
theorem dL_law_980 : decode cL_law 980 = .ok (.if_icmp .ne 181, 3) := by decide +kernel
theorem dL_law_983 : decode cL_law 983 = .ok (.aload_n 1, 1) := by decide +kernel
theorem dL_law_984 : decode cL_law 984 = .ok (.iconst 0, 1) := by decide +kernel
theorem dL_law_985 : decode cL_law 985 = .ok (.bipush 31, 2) := by decide +kernel
theorem dL_law_987 : decode cL_law 987 = .ok (.iconst 1, 1) := by decide +kernel
theorem dL_law_988 : decode cL_law 988 = .ok (.invokevirtual 64, 3) := by decide +kernel
theorem dL_law_991 : decode cL_law 991 = .ok (.bipush (-3), 2) := by decide +kernel
theorem dL_law_993 : decode cL_law 993 = .ok (.if_icmp .ne 168, 3) := by decide +kernel
theorem dL_law_996 : decode cL_law 996 = .ok (.aload_n 1, 1) := by decide +kernel
theorem dL_law_997 : decode cL_law 997 = .ok (.iconst 4, 1) := by decide +kernel
theorem dL_law_998 : decode cL_law 998 = .ok (.iconst 0, 1) := by decide +kernel
theorem dL_law_999 : decode cL_law 999 = .ok (.invokevirtual 76, 3) := by decide +kernel
theorem dL_law_1002 : decode cL_law 1002 = .ok (.bipush (-2), 2) := by decide +kernel
theorem dL_law_1004 : decode cL_law 1004 = .ok (.if_icmp .ne 157, 3) := by decide +kernel
theorem dL_law_1007 : decode cL_law 1007 = .ok (.aload_n 1, 1) := by decide +kernel
theorem dL_law_1008 : decode cL_law 1008 = .ok (.iconst 0, 1) := by decide +kernel
theorem dL_law_1009 : decode cL_law 1009 = .ok (.bipush 9, 2) := by decide +kernel
theorem dL_law_1011 : decode cL_law 1011 = .ok (.invokevirtual 76, 3) := by decide +kernel
theorem dL_law_1014 : decode cL_law 1014 = .ok (.bipush (-3), 2) := by decide +kernel
theorem dL_law_1016 : decode cL_law 1016 = .ok (.if_icmp .ne 145, 3) := by decide +kernel
theorem dL_law_1019 : decode cL_law 1019 = .ok (.aload_n 1, 1) := by decide +kernel
theorem dL_law_1020 : decode cL_law 1020 = .ok (.iconst 0, 1) := by decide +kernel
theorem dL_law_1021 : decode cL_law 1021 = .ok (.bipush 21, 2) := by decide +kernel
theorem dL_law_1023 : decode cL_law 1023 = .ok (.invokevirtual 79, 3) := by decide +kernel
theorem dL_law_1026 : decode cL_law 1026 = .ok (.bipush (-3), 2) := by decide +kernel
theorem dL_law_1028 : decode cL_law 1028 = .ok (.if_icmp .ne 133, 3) := by decide +kernel
theorem dL_law_1031 : decode cL_law 1031 = .ok (.aload_n 1, 1) := by decide +kernel
theorem dL_law_1032 : decode cL_law 1032 = .ok (.iconst 0, 1) := by decide +kernel
theorem dL_law_1033 : decode cL_law 1033 = .ok (.iconst 0, 1) := by decide +kernel
theorem dL_law_1034 : decode cL_law 1034 = .ok (.iconst 0, 1) := by decide +kernel
theorem dL_law_1035 : decode cL_law 1035 = .ok (.invokevirtual 119, 3) := by decide +kernel
theorem dL_law_1038 : decode cL_law 1038 = .ok (.bipush (-3), 2) := by decide +kernel
theorem dL_law_1040 : decode cL_law 1040 = .ok (.if_icmp .ne 121, 3) := by decide +kernel
theorem dL_law_1043 : decode cL_law 1043 = .ok (.aload_n 1, 1) := by decide +kernel
theorem dL_law_1044 : decode cL_law 1044 = .ok (.bipush 60, 2) := by decide +kernel
theorem dL_law_1046 : decode cL_law 1046 = .ok (.invokevirtual 85, 3) := by decide +kernel
theorem dL_law_1049 : decode cL_law 1049 = .ok (.bipush (-2), 2) := by decide +kernel
theorem dL_law_1051 : decode cL_law 1051 = .ok (.if_icmp .ne 110, 3) := by decide +kernel
theorem dL_law_1054 : decode cL_law 1054 = .ok (.aload_n 1, 1) := by decide +kernel
theorem dL_law_1055 : decode cL_law 1055 = .ok (.bipush 8, 2) := by decide +kernel
theorem dL_law_1057 : decode cL_law 1057 = .ok (.iconst 0, 1) := by decide +kernel
theorem dL_law_1058 : decode cL_law 1058 = .ok (.invokevirtual 88, 3) := by decide +kernel
theorem dL_law_1061 : decode cL_law 1061 = .ok (.bipush (-2), 2) := by decide +kernel
theorem dL_law_1063 : decode cL_law 1063 = .ok (.if_icmp .ne 98, 3) := by decide +kernel
theorem dL_law_1066 : decode cL_law 1066 = .ok (.aload_n 1, 1) := by decide +kernel
theorem dL_law_1067 : decode cL_law 1067 = .ok (.bipush 6, 2) := by decide +kernel
theorem dL_law_1069 : decode cL_law 1069 = .ok (.invokevirtual 27, 3) := by decide +kernel
theorem dL_law_1072 : decode cL_law 1072 = .ok (.bipush (-2), 2) := by decide +kernel
theorem dL_law_1074 : decode cL_law 1074 = .ok (.if_icmp .ne 87, 3) := by decide +kernel
theorem dL_law_1077 : decode cL_law 1077 = .ok (.aload_n 1, 1) := by decide +kernel
theorem dL_law_1078 : decode cL_law 1078 = .ok (.bipush 60, 2) := by decide +kernel
theorem dL_law_1080 : decode cL_law 1080 = .ok (.iconst 0, 1) := by decide +kernel
theorem dL_law_1081 : decode cL_law 1081 = .ok (.iconst 0, 1) := by decide +kernel
theorem dL_law_1082 : decode cL_law 1082 = .ok (.invokevirtual 42, 3) := by decide +kernel
theorem dL_law_1085 : decode cL_law 1085 = .ok (.bipush (-2), 2) := by decide +kernel
theorem dL_law_1087 : decode cL_law 1087 = .ok (.if_icmp .ne 74, 3) := by decide +kernel
theorem dL_law_1090 : decode cL_law 1090 = .ok (.aload_n 1, 1) := by decide +kernel
theorem dL_law_1091 : decode cL_law 1091 = .ok (.sipush 401, 3) := by decide +kernel
theorem dL_law_1094 : decode cL_law 1094 = .ok (.invokevirtual 91, 3) := by decide +kernel
theorem dL_law_1097 : decode cL_law 1097 = .ok (.bipush (-3), 2) := by decide +kernel
theorem dL_law_1099 : decode cL_law 1099 = .ok (.if_icmp .ne 62, 3) := by decide +kernel
theorem dL_law_1102 : decode cL_law 1102 = .ok (.aload_n 1, 1) := by decide +kernel
theorem dL_law_1103 : decode cL_law 1103 = .ok (.iconst 0, 1) := by decide +kernel
theorem dL_law_1104 : decode cL_law 1104 = .ok (.bipush 61, 2) := by decide +kernel
theorem dL_law_1106 : decode cL_law 1106 = .ok (.invokevirtual 94, 3) := by decide +kernel
theorem dL_law_1109 : decode cL_law 1109 = .ok (.bipush (-3), 2) := by decide +kernel
theorem dL_law_1111 : decode cL_law 1111 = .ok (.if_icmp .ne 50, 3) := by decide +kernel
theorem dL_law_1114 : decode cL_law 1114 = .ok (.aload_n 1, 1) := by decide +kernel
theorem dL_law_1115 : decode cL_law 1115 = .ok (.bipush 8, 2) := by decide +kernel
theorem dL_law_1117 : decode cL_law 1117 = .ok (.iconst 0, 1) := by decide +kernel
theorem dL_law_1118 : decode cL_law 1118 = .ok (.invokevirtual 21, 3) := by decide +kernel
theorem dL_law_1121 : decode cL_law 1121 = .ok (.bipush (-2), 2) := by decide +kernel
theorem dL_law_1123 : decode cL_law 1123 = .ok (.if_icmp .ne 38, 3) := by decide +kernel
theorem dL_law_1126 : decode cL_law 1126 = .ok (.aload_n 1, 1) := by decide +kernel
theorem dL_law_1127 : decode cL_law 1127 = .ok (.iconst 0, 1) := by decide +kernel
theorem dL_law_1128 : decode cL_law 1128 = .ok (.invokevirtual 113, 3) := by decide +kernel
theorem dL_law_1131 : decode cL_law 1131 = .ok (.bipush (-3), 2) := by decide +kernel
theorem dL_law_1133 : decode cL_law 1133 = .ok (.if_icmp .ne 28, 3) := by decide +kernel
theorem dL_law_1136 : decode cL_law 1136 = .ok (.aload_n 1, 1) := by decide +kernel
theorem dL_law_1137 : decode cL_law 1137 = .ok (.bipush 8, 2) := by decide +kernel
theorem dL_law_1139 : decode cL_law 1139 = .ok (.invokevirtual 30, 3) := by decide +kernel
theorem dL_law_1142 : decode cL_law 1142 = .ok (.bipush (-3), 2) := by decide +kernel
theorem dL_law_1144 : decode cL_law 1144 = .ok (.if_icmp .ne 17, 3) := by decide +kernel
theorem dL_law_1147 : decode cL_law 1147 = .ok (.aload_n 1, 1) := by decide +kernel
theorem dL_law_1148 : decode cL_law 1148 = .ok (.invokevirtual 38, 3) := by decide +kernel
theorem dL_law_1151 : decode cL_law 1151 = .ok (.lload 4, 2) := by decide +kernel
theorem dL_law_1153 : decode cL_law 1153 = .ok (.lcmp, 1) := by decide +kernel
theorem dL_law_1154 : decode cL_law 1154 = .ok (.ifCond .ne 7, 3) := by decide +kernel
theorem dL_law_1157 : decode cL_law 1157 = .ok (.iconst 1, 1) := by decide +kernel
theorem dL_law_1158 : decode cL_law 1158 = .ok (.goto 4, 3) := by decide +kernel
theorem dL_law_1161 : decode cL_law 1161 = .ok (.iconst 0, 1) := by decide +kernel
theorem dL_law_1162 : decode cL_law 1162 = .ok (.ireturn, 1) := by decide +kernel
