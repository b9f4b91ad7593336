theorem dJ6_bitCount_0f7a4_0 : decode cJ6_bitCount_0f7a4 0 = .ok (.iload_n 0, 1) := by decide +kernel
theorem dJ6_bitCount_0f7a4_1 : decode cJ6_bitCount_0f7a4 1 = .ok (.iload_n 0, 1) := by decide +kernel
theorem dJ6_bitCount_0f7a4_2 : decode cJ6_bitCount_0f7a4 2 = .ok (.iconst 1, 1) := by decide +kernel
theorem dJ6_bitCount_0f7a4_3 : decode cJ6_bitCount_0f7a4 3 = .ok (.iushr, 1) := by decide +kernel
theorem dJ6_bitCount_0f7a4_4 : decode cJ6_bitCount_0f7a4 4 = .ok (.ldc_w 265, 3) := by decide +kernel
theorem dJ6_bitCount_0f7a4_7 : decode cJ6_bitCount_0f7a4 7 = .ok (.iand, 1) := by decide +kernel
theorem dJ6_bitCount_0f7a4_8 : decode cJ6_bitCount_0f7a4 8 = .ok (.isub, 1) := by decide +kernel
theorem dJ6_bitCount_0f7a4_9 : decode cJ6_bitCount_0f7a4 9 = .ok (.istore_n 0, 1) := by decide +kernel
theorem dJ6_bitCount_0f7a4_10 : decode cJ6_bitCount_0f7a4 10 = .ok (.iload_n 0, 1) := by decide +kernel
theorem dJ6_bitCount_0f7a4_11 : decode cJ6_bitCount_0f7a4 11 = .ok (.ldc_w 266, 3) := by decide +kernel
theorem dJ6_bitCount_0f7a4_14 : decode cJ6_bitCount_0f7a4 14 = .ok (.iand, 1) := by decide +kernel
theorem dJ6_bitCount_0f7a4_15 : decode cJ6_bitCount_0f7a4 15 = .ok (.iload_n 0, 1) := by decide +kernel
theorem dJ6_bitCount_0f7a4_16 : decode cJ6_bitCount_0f7a4 16 = .ok (.iconst 2, 1) := by decide +kernel
theorem dJ6_bitCount_0f7a4_17 : decode cJ6_bitCount_0f7a4 17 = .ok (.iushr, 1) := by decide +kernel
theorem dJ6_bitCount_0f7a4_18 : decode cJ6_bitCount_0f7a4 18 = .ok (.ldc_w 266, 3) := by decide +kernel
theorem dJ6_bitCount_0f7a4_21 : decode cJ6_bitCount_0f7a4 21 = .ok (.iand, 1) := by decide +kernel
theorem dJ6_bitCount_0f7a4_22 : decode cJ6_bitCount_0f7a4 22 = .ok (.iadd, 1) := by decide +kernel
theorem dJ6_bitCount_0f7a4_23 : decode cJ6_bitCount_0f7a4 23 = .ok (.istore_n 0, 1) := by decide +kernel
theorem dJ6_bitCount_0f7a4_24 : decode cJ6_bitCount_0f7a4 24 = .ok (.iload_n 0, 1) := by decide +kernel
theorem dJ6_bitCount_0f7a4_25 : decode cJ6_bitCount_0f7a4 25 = .ok (.iload_n 0, 1) := by decide +kernel
theorem dJ6_bitCount_0f7a4_26 : decode cJ6_bitCount_0f7a4 26 = .ok (.iconst 4, 1) := by decide +kernel
theorem dJ6_bitCount_0f7a4_27 : decode cJ6_bitCount_0f7a4 27 = .ok (.iushr, 1) := by decide +kernel
theorem dJ6_bitCount_0f7a4_28 : decode cJ6_bitCount_0f7a4 28 = .ok (.iadd, 1) := by decide +kernel
theorem dJ6_bitCount_0f7a4_29 : decode cJ6_bitCount_0f7a4 29 = .ok (.ldc_w 267, 3) := by decide +kernel
theorem dJ6_bitCount_0f7a4_32 : decode cJ6_bitCount_0f7a4 32 = .ok (.iand, 1) := by decide +kernel
theorem dJ6_bitCount_0f7a4_33 : decode cJ6_bitCount_0f7a4 33 = .ok (.istore_n 0, 1) := by decide +kernel
theorem dJ6_bitCount_0f7a4_34 : decode cJ6_bitCount_0f7a4 34 = .ok (.iload_n 0, 1) := by decide +kernel
theorem dJ6_bitCount_0f7a4_35 : decode cJ6_bitCount_0f7a4 35 = .ok (.iload_n 0, 1) := by decide +kernel
theorem dJ6_bitCount_0f7a4_36 : decode cJ6_bitCount_0f7a4 36 = .ok (.bipush 8, 2) := by decide +kernel
theorem dJ6_bitCount_0f7a4_38 : decode cJ6_bitCount_0f7a4 38 = .ok (.iushr, 1) := by decide +kernel
theorem dJ6_bitCount_0f7a4_39 : decode cJ6_bitCount_0f7a4 39 = .ok (.iadd, 1) := by decide +kernel
theorem dJ6_bitCount_0f7a4_40 : decode cJ6_bitCount_0f7a4 40 = .ok (.istore_n 0, 1) := by decide +kernel
theorem dJ6_bitCount_0f7a4_41 : decode cJ6_bitCount_0f7a4 41 = .ok (.iload_n 0, 1) := by decide +kernel
theorem dJ6_bitCount_0f7a4_42 : decode cJ6_bitCount_0f7a4 42 = .ok (.iload_n 0, 1) := by decide +kernel
theorem dJ6_bitCount_0f7a4_43 : decode cJ6_bitCount_0f7a4 43 = .ok (.bipush 16, 2) := by decide +kernel
theorem dJ6_bitCount_0f7a4_45 : decode cJ6_bitCount_0f7a4 45 = .ok (.iushr, 1) := by decide +kernel
theorem dJ6_bitCount_0f7a4_46 : decode cJ6_bitCount_0f7a4 46 = .ok (.iadd, 1) := by decide +kernel
theorem dJ6_bitCount_0f7a4_47 : decode cJ6_bitCount_0f7a4 47 = .ok (.istore_n 0, 1) := by decide +kernel
theorem dJ6_bitCount_0f7a4_48 : decode cJ6_bitCount_0f7a4 48 = .ok (.iload_n 0, 1) := by decide +kernel
theorem dJ6_bitCount_0f7a4_49 : decode cJ6_bitCount_0f7a4 49 = .ok (.bipush 63, 2) := by decide +kernel
theorem dJ6_bitCount_0f7a4_51 : decode cJ6_bitCount_0f7a4 51 = .ok (.iand, 1) := by decide +kernel
theorem dJ6_bitCount_0f7a4_52 : decode cJ6_bitCount_0f7a4 52 = .ok (.ireturn, 1) := by decide +kernel
theorem dJ9_abs_0f7a4_0 : decode cJ9_abs_0f7a4 0 = .ok (.iload_n 0, 1) := by decide +kernel
theorem dJ9_abs_0f7a4_1 : decode cJ9_abs_0f7a4 1 = .ok (.ifCond .ge 8, 3) := by decide +kernel
theorem dJ9_abs_0f7a4_4 : decode cJ9_abs_0f7a4 4 = .ok (.iload_n 0, 1) := by decide +kernel
theorem dJ9_abs_0f7a4_5 : decode cJ9_abs_0f7a4 5 = .ok (.ineg, 1) := by decide +kernel
theorem dJ9_abs_0f7a4_6 : decode cJ9_abs_0f7a4 6 = .ok (.goto 4, 3) := by decide +kernel
theorem dJ9_abs_0f7a4_9 : decode cJ9_abs_0f7a4 9 = .ok (.iload_n 0, 1) := by decide +kernel
theorem dJ9_abs_0f7a4_10 : decode cJ9_abs_0f7a4 10 = .ok (.ireturn, 1) := by decide +kernel
theorem dJ9_max_7cf53_0 : decode cJ9_max_7cf53 0 = .ok (.iload_n 0, 1) := by decide +kernel
theorem dJ9_max_7cf53_1 : decode cJ9_max_7cf53 1 = .ok (.iload_n 1, 1) := by decide +kernel
theorem dJ9_max_7cf53_2 : decode cJ9_max_7cf53 2 = .ok (.if_icmp .lt 7, 3) := by decide +kernel
theorem dJ9_max_7cf53_5 : decode cJ9_max_7cf53 5 = .ok (.iload_n 0, 1) := by decide +kernel
theorem dJ9_max_7cf53_6 : decode cJ9_max_7cf53 6 = .ok (.goto 4, 3) := by decide +kernel
theorem dJ9_max_7cf53_9 : decode cJ9_max_7cf53 9 = .ok (.iload_n 1, 1) := by decide +kernel
theorem dJ9_max_7cf53_10 : decode cJ9_max_7cf53 10 = .ok (.ireturn, 1) := by decide +kernel
theorem dJ9_min_7cf53_0 : decode cJ9_min_7cf53 0 = .ok (.iload_n 0, 1) := by decide +kernel
theorem dJ9_min_7cf53_1 : decode cJ9_min_7cf53 1 = .ok (.iload_n 1, 1) := by decide +kernel
theorem dJ9_min_7cf53_2 : decode cJ9_min_7cf53 2 = .ok (.if_icmp .gt 7, 3) := by decide +kernel
theorem dJ9_min_7cf53_5 : decode cJ9_min_7cf53 5 = .ok (.iload_n 0, 1) := by decide +kernel
theorem dJ9_min_7cf53_6 : decode cJ9_min_7cf53 6 = .ok (.goto 4, 3) := by decide +kernel
theorem dJ9_min_7cf53_9 : decode cJ9_min_7cf53 9 = .ok (.iload_n 1, 1) := by decide +kernel
theorem dJ9_min_7cf53_10 : decode cJ9_min_7cf53 10 = .ok (.ireturn, 1) := by decide +kernel
theorem dJ0_length_8abf5_0 : decode cJ0_length_8abf5 0 = .ok (.aload_n 0, 1) := by decide +kernel
theorem dJ0_length_8abf5_1 : decode cJ0_length_8abf5 1 = .ok (.getfield 9, 3) := by decide +kernel
theorem dJ0_length_8abf5_4 : decode cJ0_length_8abf5 4 = .ok (.arraylength, 1) := by decide +kernel
theorem dJ0_length_8abf5_5 : decode cJ0_length_8abf5 5 = .ok (.aload_n 0, 1) := by decide +kernel
theorem dJ0_length_8abf5_6 : decode cJ0_length_8abf5 6 = .ok (.invokevirtual 335, 3) := by decide +kernel
theorem dJ0_length_8abf5_9 : decode cJ0_length_8abf5 9 = .ok (.ishr, 1) := by decide +kernel
theorem dJ0_length_8abf5_10 : decode cJ0_length_8abf5 10 = .ok (.ireturn, 1) := by decide +kernel
theorem dJ0_charAt_5068e_0 : decode cJ0_charAt_5068e 0 = .ok (.aload_n 0, 1) := by decide +kernel
theorem dJ0_charAt_5068e_1 : decode cJ0_charAt_5068e 1 = .ok (.invokevirtual 492, 3) := by decide +kernel
theorem dJ0_charAt_5068e_4 : decode cJ0_charAt_5068e 4 = .ok (.ifCond .eq 12, 3) := by decide +kernel
theorem dJ0_charAt_5068e_7 : decode cJ0_charAt_5068e 7 = .ok (.aload_n 0, 1) := by decide +kernel
theorem dJ0_charAt_5068e_8 : decode cJ0_charAt_5068e 8 = .ok (.getfield 9, 3) := by decide +kernel
theorem dJ0_charAt_5068e_11 : decode cJ0_charAt_5068e 11 = .ok (.iload_n 1, 1) := by decide +kernel
theorem dJ0_charAt_5068e_12 : decode cJ0_charAt_5068e 12 = .ok (.invokestatic 495, 3) := by decide +kernel
theorem dJ0_charAt_5068e_15 : decode cJ0_charAt_5068e 15 = .ok (.ireturn, 1) := by decide +kernel
theorem dJ0_charAt_5068e_16 : decode cJ0_charAt_5068e 16 = .ok (.aload_n 0, 1) := by decide +kernel
theorem dJ0_charAt_5068e_17 : decode cJ0_charAt_5068e 17 = .ok (.getfield 9, 3) := by decide +kernel
theorem dJ0_charAt_5068e_20 : decode cJ0_charAt_5068e 20 = .ok (.iload_n 1, 1) := by decide +kernel
theorem dJ0_charAt_5068e_21 : decode cJ0_charAt_5068e 21 = .ok (.invokestatic 498, 3) := by decide +kernel
theorem dJ0_charAt_5068e_24 : decode cJ0_charAt_5068e 24 = .ok (.ireturn, 1) := by decide +kernel
theorem dJ0_coder_7d493_0 : decode cJ0_coder_7d493 0 = .ok (.getstatic 38, 3) := by decide +kernel
theorem dJ0_coder_7d493_3 : decode cJ0_coder_7d493 3 = .ok (.ifCond .eq 10, 3) := by decide +kernel
theorem dJ0_coder_7d493_6 : decode cJ0_coder_7d493 6 = .ok (.aload_n 0, 1) := by decide +kernel
theorem dJ0_coder_7d493_7 : decode cJ0_coder_7d493 7 = .ok (.getfield 15, 3) := by decide +kernel
theorem dJ0_coder_7d493_10 : decode cJ0_coder_7d493 10 = .ok (.goto 4, 3) := by decide +kernel
theorem dJ0_coder_7d493_13 : decode cJ0_coder_7d493 13 = .ok (.iconst 1, 1) := by decide +kernel
theorem dJ0_coder_7d493_14 : decode cJ0_coder_7d493 14 = .ok (.ireturn, 1) := by decide +kernel
theorem dJ0_isLatin1_aae02_0 : decode cJ0_isLatin1_aae02 0 = .ok (.getstatic 38, 3) := by decide +kernel
theorem dJ0_isLatin1_aae02_3 : decode cJ0_isLatin1_aae02 3 = .ok (.ifCond .eq 14, 3) := by decide +kernel
theorem dJ0_isLatin1_aae02_6 : decode cJ0_isLatin1_aae02 6 = .ok (.aload_n 0, 1) := by decide +kernel
theorem dJ0_isLatin1_aae02_7 : decode cJ0_isLatin1_aae02 7 = .ok (.getfield 15, 3) := by decide +kernel
theorem dJ0_isLatin1_aae02_10 : decode cJ0_isLatin1_aae02 10 = .ok (.ifCond .ne 7, 3) := by decide +kernel
theorem dJ0_isLatin1_aae02_13 : decode cJ0_isLatin1_aae02 13 = .ok (.iconst 1, 1) := by decide +kernel
theorem dJ0_isLatin1_aae02_14 : decode cJ0_isLatin1_aae02 14 = .ok (.goto 4, 3) := by decide +kernel
theorem dJ0_isLatin1_aae02_17 : decode cJ0_isLatin1_aae02 17 = .ok (.iconst 0, 1) := by decide +kernel
theorem dJ0_isLatin1_aae02_18 : decode cJ0_isLatin1_aae02 18 = .ok (.ireturn, 1) := by decide +kernel
theorem dJ0_checkIndex_df160_0 : decode cJ0_checkIndex_df160 0 = .ok (.iload_n 0, 1) := by decide +kernel
theorem dJ0_checkIndex_df160_1 : decode cJ0_checkIndex_df160 1 = .ok (.iload_n 1, 1) := by decide +kernel
theorem dJ0_checkIndex_df160_2 : decode cJ0_checkIndex_df160 2 = .ok (.getstatic 1053, 3) := by decide +kernel
theorem dJ0_checkIndex_df160_5 : decode cJ0_checkIndex_df160 5 = .ok (.invokestatic 1059, 3) := by decide +kernel
theorem dJ0_checkIndex_df160_8 : decode cJ0_checkIndex_df160 8 = .ok (.pop, 1) := by decide +kernel
theorem dJ0_checkIndex_df160_9 : decode cJ0_checkIndex_df160 9 = .ok (.return_, 1) := by decide +kernel
theorem dJ1_charAt_3b067_0 : decode cJ1_charAt_3b067 0 = .ok (.iload_n 1, 1) := by decide +kernel
theorem dJ1_charAt_3b067_1 : decode cJ1_charAt_3b067 1 = .ok (.aload_n 0, 1) := by decide +kernel
theorem dJ1_charAt_3b067_2 : decode cJ1_charAt_3b067 2 = .ok (.arraylength, 1) := by decide +kernel
theorem dJ1_charAt_3b067_3 : decode cJ1_charAt_3b067 3 = .ok (.invokestatic 9, 3) := by decide +kernel
theorem dJ1_charAt_3b067_6 : decode cJ1_charAt_3b067 6 = .ok (.aload_n 0, 1) := by decide +kernel
theorem dJ1_charAt_3b067_7 : decode cJ1_charAt_3b067 7 = .ok (.iload_n 1, 1) := by decide +kernel
theorem dJ1_charAt_3b067_8 : decode cJ1_charAt_3b067 8 = .ok (.baload, 1) := by decide +kernel
theorem dJ1_charAt_3b067_9 : decode cJ1_charAt_3b067 9 = .ok (.sipush 255, 3) := by decide +kernel
theorem dJ1_charAt_3b067_12 : decode cJ1_charAt_3b067 12 = .ok (.iand, 1) := by decide +kernel
theorem dJ1_charAt_3b067_13 : decode cJ1_charAt_3b067 13 = .ok (.i2c, 1) := by decide +kernel
theorem dJ1_charAt_3b067_14 : decode cJ1_charAt_3b067 14 = .ok (.ireturn, 1) := by decide +kernel
theorem dJ2_getChar_3b067_0 : decode cJ2_getChar_3b067 0 = .ok (.getstatic 44, 3) := by decide +kernel
theorem dJ2_getChar_3b067_3 : decode cJ2_getChar_3b067 3 = .ok (.ifCond .ne 25, 3) := by decide +kernel
theorem dJ2_getChar_3b067_6 : decode cJ2_getChar_3b067 6 = .ok (.iload_n 1, 1) := by decide +kernel
theorem dJ2_getChar_3b067_7 : decode cJ2_getChar_3b067 7 = .ok (.ifCond .lt 11, 3) := by decide +kernel
theorem dJ2_getChar_3b067_10 : decode cJ2_getChar_3b067 10 = .ok (.iload_n 1, 1) := by decide +kernel
theorem dJ2_getChar_3b067_11 : decode cJ2_getChar_3b067 11 = .ok (.aload_n 0, 1) := by decide +kernel
theorem dJ2_getChar_3b067_12 : decode cJ2_getChar_3b067 12 = .ok (.invokestatic 48, 3) := by decide +kernel
theorem dJ2_getChar_3b067_15 : decode cJ2_getChar_3b067 15 = .ok (.if_icmp .lt 13, 3) := by decide +kernel
theorem dJ2_getChar_3b067_18 : decode cJ2_getChar_3b067 18 = .ok (.new 52, 3) := by decide +kernel
theorem dJ2_getChar_3b067_21 : decode cJ2_getChar_3b067 21 = .ok (.dup, 1) := by decide +kernel
theorem dJ2_getChar_3b067_22 : decode cJ2_getChar_3b067 22 = .ok (.ldc 54, 2) := by decide +kernel
theorem dJ2_getChar_3b067_24 : decode cJ2_getChar_3b067 24 = .ok (.invokespecial 56, 3) := by decide +kernel
theorem dJ2_getChar_3b067_27 : decode cJ2_getChar_3b067 27 = .ok (.athrow, 1) := by decide +kernel
theorem dJ2_getChar_3b067_28 : decode cJ2_getChar_3b067 28 = .ok (.iload_n 1, 1) := by decide +kernel
theorem dJ2_getChar_3b067_29 : decode cJ2_getChar_3b067 29 = .ok (.iconst 1, 1) := by decide +kernel
theorem dJ2_getChar_3b067_30 : decode cJ2_getChar_3b067 30 = .ok (.ishl, 1) := by decide +kernel
theorem dJ2_getChar_3b067_31 : decode cJ2_getChar_3b067 31 = .ok (.istore_n 1, 1) := by decide +kernel
theorem dJ2_getChar_3b067_32 : decode cJ2_getChar_3b067 32 = .ok (.aload_n 0, 1) := by decide +kernel
theorem dJ2_getChar_3b067_33 : decode cJ2_getChar_3b067 33 = .ok (.iload_n 1, 1) := by decide +kernel
theorem dJ2_getChar_3b067_34 : decode cJ2_getChar_3b067 34 = .ok (.iinc 1 1, 3) := by decide +kernel
theorem dJ2_getChar_3b067_37 : decode cJ2_getChar_3b067 37 = .ok (.baload, 1) := by decide +kernel
theorem dJ2_getChar_3b067_38 : decode cJ2_getChar_3b067 38 = .ok (.sipush 255, 3) := by decide +kernel
theorem dJ2_getChar_3b067_41 : decode cJ2_getChar_3b067 41 = .ok (.iand, 1) := by decide +kernel
theorem dJ2_getChar_3b067_42 : decode cJ2_getChar_3b067 42 = .ok (.getstatic 59, 3) := by decide +kernel
theorem dJ2_getChar_3b067_45 : decode cJ2_getChar_3b067 45 = .ok (.ishl, 1) := by decide +kernel
theorem dJ2_getChar_3b067_46 : decode cJ2_getChar_3b067 46 = .ok (.aload_n 0, 1) := by decide +kernel
theorem dJ2_getChar_3b067_47 : decode cJ2_getChar_3b067 47 = .ok (.iload_n 1, 1) := by decide +kernel
theorem dJ2_getChar_3b067_48 : decode cJ2_getChar_3b067 48 = .ok (.baload, 1) := by decide +kernel
theorem dJ2_getChar_3b067_49 : decode cJ2_getChar_3b067 49 = .ok (.sipush 255, 3) := by decide +kernel
theorem dJ2_getChar_3b067_52 : decode cJ2_getChar_3b067 52 = .ok (.iand, 1) := by decide +kernel
theorem dJ2_getChar_3b067_53 : decode cJ2_getChar_3b067 53 = .ok (.getstatic 63, 3) := by decide +kernel
theorem dJ2_getChar_3b067_56 : decode cJ2_getChar_3b067 56 = .ok (.ishl, 1) := by decide +kernel
theorem dJ2_getChar_3b067_57 : decode cJ2_getChar_3b067 57 = .ok (.ior, 1) := by decide +kernel
theorem dJ2_getChar_3b067_58 : decode cJ2_getChar_3b067 58 = .ok (.i2c, 1) := by decide +kernel
theorem dJ2_getChar_3b067_59 : decode cJ2_getChar_3b067 59 = .ok (.ireturn, 1) := by decide +kernel
theorem dJ2_length_9d52b_0 : decode cJ2_length_9d52b 0 = .ok (.aload_n 0, 1) := by decide +kernel
theorem dJ2_length_9d52b_1 : decode cJ2_length_9d52b 1 = .ok (.arraylength, 1) := by decide +kernel
theorem dJ2_length_9d52b_2 : decode cJ2_length_9d52b 2 = .ok (.iconst 1, 1) := by decide +kernel
theorem dJ2_length_9d52b_3 : decode cJ2_length_9d52b 3 = .ok (.ishr, 1) := by decide +kernel
theorem dJ2_length_9d52b_4 : decode cJ2_length_9d52b 4 = .ok (.ireturn, 1) := by decide +kernel
theorem dJ2_charAt_3b067_0 : decode cJ2_charAt_3b067 0 = .ok (.iload_n 1, 1) := by decide +kernel
theorem dJ2_charAt_3b067_1 : decode cJ2_charAt_3b067 1 = .ok (.aload_n 0, 1) := by decide +kernel
theorem dJ2_charAt_3b067_2 : decode cJ2_charAt_3b067 2 = .ok (.invokestatic 67, 3) := by decide +kernel
theorem dJ2_charAt_3b067_5 : decode cJ2_charAt_3b067 5 = .ok (.aload_n 0, 1) := by decide +kernel
theorem dJ2_charAt_3b067_6 : decode cJ2_charAt_3b067 6 = .ok (.iload_n 1, 1) := by decide +kernel
theorem dJ2_charAt_3b067_7 : decode cJ2_charAt_3b067 7 = .ok (.invokestatic 71, 3) := by decide +kernel
theorem dJ2_charAt_3b067_10 : decode cJ2_charAt_3b067 10 = .ok (.ireturn, 1) := by decide +kernel
theorem dJ2_checkIndex_2214a_0 : decode cJ2_checkIndex_2214a 0 = .ok (.iload_n 0, 1) := by decide +kernel
theorem dJ2_checkIndex_2214a_1 : decode cJ2_checkIndex_2214a 1 = .ok (.aload_n 1, 1) := by decide +kernel
theorem dJ2_checkIndex_2214a_2 : decode cJ2_checkIndex_2214a 2 = .ok (.invokestatic 48, 3) := by decide +kernel
theorem dJ2_checkIndex_2214a_5 : decode cJ2_checkIndex_2214a 5 = .ok (.invokestatic 414, 3) := by decide +kernel
theorem dJ2_checkIndex_2214a_8 : decode cJ2_checkIndex_2214a 8 = .ok (.return_, 1) := by decide +kernel
theorem dJ7_fill_53178_0 : decode cJ7_fill_53178 0 = .ok (.iconst 0, 1) := by decide +kernel
theorem dJ7_fill_53178_1 : decode cJ7_fill_53178 1 = .ok (.istore_n 2, 1) := by decide +kernel
theorem dJ7_fill_53178_2 : decode cJ7_fill_53178 2 = .ok (.aload_n 0, 1) := by decide +kernel
theorem dJ7_fill_53178_3 : decode cJ7_fill_53178 3 = .ok (.arraylength, 1) := by decide +kernel
theorem dJ7_fill_53178_4 : decode cJ7_fill_53178 4 = .ok (.istore_n 3, 1) := by decide +kernel
theorem dJ7_fill_53178_5 : decode cJ7_fill_53178 5 = .ok (.iload_n 2, 1) := by decide +kernel
theorem dJ7_fill_53178_6 : decode cJ7_fill_53178 6 = .ok (.iload_n 3, 1) := by decide +kernel
theorem dJ7_fill_53178_7 : decode cJ7_fill_53178 7 = .ok (.if_icmp .ge 13, 3) := by decide +kernel
theorem dJ7_fill_53178_10 : decode cJ7_fill_53178 10 = .ok (.aload_n 0, 1) := by decide +kernel
theorem dJ7_fill_53178_11 : decode cJ7_fill_53178 11 = .ok (.iload_n 2, 1) := by decide +kernel
theorem dJ7_fill_53178_12 : decode cJ7_fill_53178 12 = .ok (.iload_n 1, 1) := by decide +kernel
theorem dJ7_fill_53178_13 : decode cJ7_fill_53178 13 = .ok (.iastore, 1) := by decide +kernel
theorem dJ7_fill_53178_14 : decode cJ7_fill_53178 14 = .ok (.iinc 2 1, 3) := by decide +kernel
theorem dJ7_fill_53178_17 : decode cJ7_fill_53178 17 = .ok (.goto (-12), 3) := by decide +kernel
theorem dJ7_fill_53178_20 : decode cJ7_fill_53178 20 = .ok (.return_, 1) := by decide +kernel
theorem dJ3_checkIndex_8e157_0 : decode cJ3_checkIndex_8e157 0 = .ok (.iload_n 0, 1) := by decide +kernel
theorem dJ3_checkIndex_8e157_1 : decode cJ3_checkIndex_8e157 1 = .ok (.ifCond .lt 8, 3) := by decide +kernel
theorem dJ3_checkIndex_8e157_4 : decode cJ3_checkIndex_8e157 4 = .ok (.iload_n 0, 1) := by decide +kernel
theorem dJ3_checkIndex_8e157_5 : decode cJ3_checkIndex_8e157 5 = .ok (.iload_n 1, 1) := by decide +kernel
theorem dJ3_checkIndex_8e157_6 : decode cJ3_checkIndex_8e157 6 = .ok (.if_icmp .lt 10, 3) := by decide +kernel
theorem dJ3_checkIndex_8e157_9 : decode cJ3_checkIndex_8e157 9 = .ok (.aload_n 2, 1) := by decide +kernel
theorem dJ3_checkIndex_8e157_10 : decode cJ3_checkIndex_8e157 10 = .ok (.iload_n 0, 1) := by decide +kernel
theorem dJ3_checkIndex_8e157_11 : decode cJ3_checkIndex_8e157 11 = .ok (.iload_n 1, 1) := by decide +kernel
theorem dJ3_checkIndex_8e157_12 : decode cJ3_checkIndex_8e157 12 = .ok (.invokestatic 95, 3) := by decide +kernel
theorem dJ3_checkIndex_8e157_15 : decode cJ3_checkIndex_8e157 15 = .ok (.athrow, 1) := by decide +kernel
theorem dJ3_checkIndex_8e157_16 : decode cJ3_checkIndex_8e157 16 = .ok (.iload_n 0, 1) := by decide +kernel
theorem dJ3_checkIndex_8e157_17 : decode cJ3_checkIndex_8e157 17 = .ok (.ireturn, 1) := by decide +kernel
theorem dX0_init_0 : decode cX0_init 0 = .ok (.aload_n 0, 1) := by decide +kernel
theorem dX0_init_1 : decode cX0_init 1 = .ok (.invokespecial 3, 3) := by decide +kernel
theorem dX0_init_4 : decode cX0_init 4 = .ok (.aload_n 0, 1) := by decide +kernel
theorem dX0_init_5 : decode cX0_init 5 = .ok (.iconst 4, 1) := by decide +kernel
theorem dX0_init_6 : decode cX0_init 6 = .ok (.newarray .int, 2) := by decide +kernel
theorem dX0_init_8 : decode cX0_init 8 = .ok (.putfield 11, 3) := by decide +kernel
theorem dX0_init_11 : decode cX0_init 11 = .ok (.aload_n 0, 1) := by decide +kernel
theorem dX0_init_12 : decode cX0_init 12 = .ok (.iconst 4, 1) := by decide +kernel
theorem dX0_init_13 : decode cX0_init 13 = .ok (.newarray .int, 2) := by decide +kernel
theorem dX0_init_15 : decode cX0_init 15 = .ok (.putfield 15, 3) := by decide +kernel
theorem dX0_init_18 : decode cX0_init 18 = .ok (.aload_n 0, 1) := by decide +kernel
theorem dX0_init_19 : decode cX0_init 19 = .ok (.sipush 160, 3) := by decide +kernel
theorem dX0_init_22 : decode cX0_init 22 = .ok (.newarray .int, 2) := by decide +kernel
theorem dX0_init_24 : decode cX0_init 24 = .ok (.putfield 18, 3) := by decide +kernel
theorem dX0_init_27 : decode cX0_init 27 = .ok (.aload_n 0, 1) := by decide +kernel
theorem dX0_init_28 : decode cX0_init 28 = .ok (.getfield 15, 3) := by decide +kernel
theorem dX0_init_31 : decode cX0_init 31 = .ok (.iconst (-1), 1) := by decide +kernel
theorem dX0_init_32 : decode cX0_init 32 = .ok (.invokestatic 21, 3) := by decide +kernel
theorem dX0_init_35 : decode cX0_init 35 = .ok (.return_, 1) := by decide +kernel
theorem dX0_isSheet_0 : decode cX0_isSheet 0 = .ok (.iload_n 1, 1) := by decide +kernel
theorem dX0_isSheet_1 : decode cX0_isSheet 1 = .ok (.ifCond .lt 12, 3) := by decide +kernel
theorem dX0_isSheet_4 : decode cX0_isSheet 4 = .ok (.iload_n 1, 1) := by decide +kernel
theorem dX0_isSheet_5 : decode cX0_isSheet 5 = .ok (.iconst 4, 1) := by decide +kernel
theorem dX0_isSheet_6 : decode cX0_isSheet 6 = .ok (.if_icmp .ge 7, 3) := by decide +kernel
theorem dX0_isSheet_9 : decode cX0_isSheet 9 = .ok (.iconst 1, 1) := by decide +kernel
theorem dX0_isSheet_10 : decode cX0_isSheet 10 = .ok (.goto 4, 3) := by decide +kernel
theorem dX0_isSheet_13 : decode cX0_isSheet 13 = .ok (.iconst 0, 1) := by decide +kernel
theorem dX0_isSheet_14 : decode cX0_isSheet 14 = .ok (.ireturn, 1) := by decide +kernel
theorem dX0_isLane_0 : decode cX0_isLane 0 = .ok (.iload_n 1, 1) := by decide +kernel
theorem dX0_isLane_1 : decode cX0_isLane 1 = .ok (.ifCond .lt 12, 3) := by decide +kernel
theorem dX0_isLane_4 : decode cX0_isLane 4 = .ok (.iload_n 1, 1) := by decide +kernel
theorem dX0_isLane_5 : decode cX0_isLane 5 = .ok (.iconst 3, 1) := by decide +kernel
theorem dX0_isLane_6 : decode cX0_isLane 6 = .ok (.if_icmp .ge 7, 3) := by decide +kernel
theorem dX0_isLane_9 : decode cX0_isLane 9 = .ok (.iconst 1, 1) := by decide +kernel
theorem dX0_isLane_10 : decode cX0_isLane 10 = .ok (.goto 4, 3) := by decide +kernel
theorem dX0_isLane_13 : decode cX0_isLane 13 = .ok (.iconst 0, 1) := by decide +kernel
theorem dX0_isLane_14 : decode cX0_isLane 14 = .ok (.ireturn, 1) := by decide +kernel
theorem dX0_renew_0 : decode cX0_renew 0 = .ok (.aload_n 0, 1) := by decide +kernel
theorem dX0_renew_1 : decode cX0_renew 1 = .ok (.getfield 11, 3) := by decide +kernel
theorem dX0_renew_4 : decode cX0_renew 4 = .ok (.iload_n 1, 1) := by decide +kernel
theorem dX0_renew_5 : decode cX0_renew 5 = .ok (.iload_n 2, 1) := by decide +kernel
theorem dX0_renew_6 : decode cX0_renew 6 = .ok (.iastore, 1) := by decide +kernel
theorem dX0_renew_7 : decode cX0_renew 7 = .ok (.aload_n 0, 1) := by decide +kernel
theorem dX0_renew_8 : decode cX0_renew 8 = .ok (.getfield 15, 3) := by decide +kernel
theorem dX0_renew_11 : decode cX0_renew 11 = .ok (.iload_n 1, 1) := by decide +kernel
theorem dX0_renew_12 : decode cX0_renew 12 = .ok (.iload_n 3, 1) := by decide +kernel
theorem dX0_renew_13 : decode cX0_renew 13 = .ok (.iastore, 1) := by decide +kernel
theorem dX0_renew_14 : decode cX0_renew 14 = .ok (.iconst 0, 1) := by decide +kernel
theorem dX0_renew_15 : decode cX0_renew 15 = .ok (.istore 4, 2) := by decide +kernel
theorem dX0_renew_17 : decode cX0_renew 17 = .ok (.iload 4, 2) := by decide +kernel
theorem dX0_renew_19 : decode cX0_renew 19 = .ok (.bipush 40, 2) := by decide +kernel
theorem dX0_renew_21 : decode cX0_renew 21 = .ok (.if_icmp .ge 22, 3) := by decide +kernel
theorem dX0_renew_24 : decode cX0_renew 24 = .ok (.aload_n 0, 1) := by decide +kernel
theorem dX0_renew_25 : decode cX0_renew 25 = .ok (.getfield 18, 3) := by decide +kernel
theorem dX0_renew_28 : decode cX0_renew 28 = .ok (.iload_n 1, 1) := by decide +kernel
theorem dX0_renew_29 : decode cX0_renew 29 = .ok (.bipush 40, 2) := by decide +kernel
theorem dX0_renew_31 : decode cX0_renew 31 = .ok (.imul, 1) := by decide +kernel
theorem dX0_renew_32 : decode cX0_renew 32 = .ok (.iload 4, 2) := by decide +kernel
theorem dX0_renew_34 : decode cX0_renew 34 = .ok (.iadd, 1) := by decide +kernel
theorem dX0_renew_35 : decode cX0_renew 35 = .ok (.iconst 0, 1) := by decide +kernel
theorem dX0_renew_36 : decode cX0_renew 36 = .ok (.iastore, 1) := by decide +kernel
theorem dX0_renew_37 : decode cX0_renew 37 = .ok (.iinc 4 1, 3) := by decide +kernel
theorem dX0_renew_40 : decode cX0_renew 40 = .ok (.goto (-23), 3) := by decide +kernel
theorem dX0_renew_43 : decode cX0_renew 43 = .ok (.return_, 1) := by decide +kernel
theorem dX0_faultOf_0 : decode cX0_faultOf 0 = .ok (.aload_n 0, 1) := by decide +kernel
theorem dX0_faultOf_1 : decode cX0_faultOf 1 = .ok (.getfield 15, 3) := by decide +kernel
theorem dX0_faultOf_4 : decode cX0_faultOf 4 = .ok (.iload_n 1, 1) := by decide +kernel
theorem dX0_faultOf_5 : decode cX0_faultOf 5 = .ok (.iaload, 1) := by decide +kernel
theorem dX0_faultOf_6 : decode cX0_faultOf 6 = .ok (.iconst (-1), 1) := by decide +kernel
theorem dX0_faultOf_7 : decode cX0_faultOf 7 = .ok (.if_icmp .ne 5, 3) := by decide +kernel
theorem dX0_faultOf_10 : decode cX0_faultOf 10 = .ok (.iconst 1, 1) := by decide +kernel
theorem dX0_faultOf_11 : decode cX0_faultOf 11 = .ok (.ireturn, 1) := by decide +kernel
theorem dX0_faultOf_12 : decode cX0_faultOf 12 = .ok (.aload_n 0, 1) := by decide +kernel
theorem dX0_faultOf_13 : decode cX0_faultOf 13 = .ok (.getfield 11, 3) := by decide +kernel
theorem dX0_faultOf_16 : decode cX0_faultOf 16 = .ok (.iload_n 1, 1) := by decide +kernel
theorem dX0_faultOf_17 : decode cX0_faultOf 17 = .ok (.iaload, 1) := by decide +kernel
theorem dX0_faultOf_18 : decode cX0_faultOf 18 = .ok (.iload_n 2, 1) := by decide +kernel
theorem dX0_faultOf_19 : decode cX0_faultOf 19 = .ok (.if_icmp .eq 5, 3) := by decide +kernel
theorem dX0_faultOf_22 : decode cX0_faultOf 22 = .ok (.iconst 3, 1) := by decide +kernel
theorem dX0_faultOf_23 : decode cX0_faultOf 23 = .ok (.ireturn, 1) := by decide +kernel
theorem dX0_faultOf_24 : decode cX0_faultOf 24 = .ok (.iload_n 3, 1) := by decide +kernel
theorem dX0_faultOf_25 : decode cX0_faultOf 25 = .ok (.ifCond .lt 16, 3) := by decide +kernel
theorem dX0_faultOf_28 : decode cX0_faultOf 28 = .ok (.iload_n 3, 1) := by decide +kernel
theorem dX0_faultOf_29 : decode cX0_faultOf 29 = .ok (.aload_n 0, 1) := by decide +kernel
theorem dX0_faultOf_30 : decode cX0_faultOf 30 = .ok (.getfield 15, 3) := by decide +kernel
theorem dX0_faultOf_33 : decode cX0_faultOf 33 = .ok (.iload_n 1, 1) := by decide +kernel
theorem dX0_faultOf_34 : decode cX0_faultOf 34 = .ok (.iaload, 1) := by decide +kernel
theorem dX0_faultOf_35 : decode cX0_faultOf 35 = .ok (.iload 4, 2) := by decide +kernel
theorem dX0_faultOf_37 : decode cX0_faultOf 37 = .ok (.isub, 1) := by decide +kernel
theorem dX0_faultOf_38 : decode cX0_faultOf 38 = .ok (.if_icmp .le 7, 3) := by decide +kernel
theorem dX0_faultOf_41 : decode cX0_faultOf 41 = .ok (.iconst 2, 1) := by decide +kernel
theorem dX0_faultOf_42 : decode cX0_faultOf 42 = .ok (.goto 4, 3) := by decide +kernel
theorem dX0_faultOf_45 : decode cX0_faultOf 45 = .ok (.iconst 0, 1) := by decide +kernel
theorem dX0_faultOf_46 : decode cX0_faultOf 46 = .ok (.ireturn, 1) := by decide +kernel
theorem dX0_cell_0 : decode cX0_cell 0 = .ok (.aload_n 0, 1) := by decide +kernel
theorem dX0_cell_1 : decode cX0_cell 1 = .ok (.getfield 18, 3) := by decide +kernel
theorem dX0_cell_4 : decode cX0_cell 4 = .ok (.iload_n 1, 1) := by decide +kernel
theorem dX0_cell_5 : decode cX0_cell 5 = .ok (.bipush 40, 2) := by decide +kernel
theorem dX0_cell_7 : decode cX0_cell 7 = .ok (.imul, 1) := by decide +kernel
theorem dX0_cell_8 : decode cX0_cell 8 = .ok (.iload_n 2, 1) := by decide +kernel
theorem dX0_cell_9 : decode cX0_cell 9 = .ok (.iadd, 1) := by decide +kernel
theorem dX0_cell_10 : decode cX0_cell 10 = .ok (.iaload, 1) := by decide +kernel
theorem dX0_cell_11 : decode cX0_cell 11 = .ok (.ireturn, 1) := by decide +kernel
theorem dX0_put_0 : decode cX0_put 0 = .ok (.aload_n 0, 1) := by decide +kernel
theorem dX0_put_1 : decode cX0_put 1 = .ok (.getfield 11, 3) := by decide +kernel
theorem dX0_put_4 : decode cX0_put 4 = .ok (.iload_n 1, 1) := by decide +kernel
theorem dX0_put_5 : decode cX0_put 5 = .ok (.iaload, 1) := by decide +kernel
theorem dX0_put_6 : decode cX0_put 6 = .ok (.ifCond .ne 8, 3) := by decide +kernel
theorem dX0_put_9 : decode cX0_put 9 = .ok (.iload_n 3, 1) := by decide +kernel
theorem dX0_put_10 : decode cX0_put 10 = .ok (.i2b, 1) := by decide +kernel
theorem dX0_put_11 : decode cX0_put 11 = .ok (.goto 19, 3) := by decide +kernel
theorem dX0_put_14 : decode cX0_put 14 = .ok (.aload_n 0, 1) := by decide +kernel
theorem dX0_put_15 : decode cX0_put 15 = .ok (.getfield 11, 3) := by decide +kernel
theorem dX0_put_18 : decode cX0_put 18 = .ok (.iload_n 1, 1) := by decide +kernel
theorem dX0_put_19 : decode cX0_put 19 = .ok (.iaload, 1) := by decide +kernel
theorem dX0_put_20 : decode cX0_put 20 = .ok (.iconst 1, 1) := by decide +kernel
theorem dX0_put_21 : decode cX0_put 21 = .ok (.if_icmp .ne 8, 3) := by decide +kernel
theorem dX0_put_24 : decode cX0_put 24 = .ok (.iload_n 3, 1) := by decide +kernel
theorem dX0_put_25 : decode cX0_put 25 = .ok (.i2s, 1) := by decide +kernel
theorem dX0_put_26 : decode cX0_put 26 = .ok (.goto 4, 3) := by decide +kernel
theorem dX0_put_29 : decode cX0_put 29 = .ok (.iload_n 3, 1) := by decide +kernel
theorem dX0_put_30 : decode cX0_put 30 = .ok (.istore 4, 2) := by decide +kernel
theorem dX0_put_32 : decode cX0_put 32 = .ok (.aload_n 0, 1) := by decide +kernel
theorem dX0_put_33 : decode cX0_put 33 = .ok (.getfield 18, 3) := by decide +kernel
theorem dX0_put_36 : decode cX0_put 36 = .ok (.iload_n 1, 1) := by decide +kernel
theorem dX0_put_37 : decode cX0_put 37 = .ok (.bipush 40, 2) := by decide +kernel
theorem dX0_put_39 : decode cX0_put 39 = .ok (.imul, 1) := by decide +kernel
theorem dX0_put_40 : decode cX0_put 40 = .ok (.iload_n 2, 1) := by decide +kernel
theorem dX0_put_41 : decode cX0_put 41 = .ok (.iadd, 1) := by decide +kernel
theorem dX0_put_42 : decode cX0_put 42 = .ok (.iload 4, 2) := by decide +kernel
theorem dX0_put_44 : decode cX0_put 44 = .ok (.iastore, 1) := by decide +kernel
theorem dX0_put_45 : decode cX0_put 45 = .ok (.return_, 1) := by decide +kernel
theorem dX1_init_0 : decode cX1_init 0 = .ok (.aload_n 0, 1) := by decide +kernel
theorem dX1_init_1 : decode cX1_init 1 = .ok (.invokespecial 1, 3) := by decide +kernel
theorem dX1_init_4 : decode cX1_init 4 = .ok (.aload_n 0, 1) := by decide +kernel
theorem dX1_init_5 : decode cX1_init 5 = .ok (.bipush 6, 2) := by decide +kernel
theorem dX1_init_7 : decode cX1_init 7 = .ok (.newarray .int, 2) := by decide +kernel
theorem dX1_init_9 : decode cX1_init 9 = .ok (.putfield 9, 3) := by decide +kernel
theorem dX1_init_12 : decode cX1_init 12 = .ok (.aload_n 0, 1) := by decide +kernel
theorem dX1_init_13 : decode cX1_init 13 = .ok (.bipush 6, 2) := by decide +kernel
theorem dX1_init_15 : decode cX1_init 15 = .ok (.newarray .int, 2) := by decide +kernel
theorem dX1_init_17 : decode cX1_init 17 = .ok (.putfield 13, 3) := by decide +kernel
theorem dX1_init_20 : decode cX1_init 20 = .ok (.aload_n 0, 1) := by decide +kernel
theorem dX1_init_21 : decode cX1_init 21 = .ok (.bipush 6, 2) := by decide +kernel
theorem dX1_init_23 : decode cX1_init 23 = .ok (.newarray .int, 2) := by decide +kernel
theorem dX1_init_25 : decode cX1_init 25 = .ok (.putfield 16, 3) := by decide +kernel
theorem dX1_init_28 : decode cX1_init 28 = .ok (.return_, 1) := by decide +kernel
theorem dX1_append_0 : decode cX1_append 0 = .ok (.aload_n 0, 1) := by decide +kernel
theorem dX1_append_1 : decode cX1_append 1 = .ok (.getfield 19, 3) := by decide +kernel
theorem dX1_append_4 : decode cX1_append 4 = .ok (.bipush 6, 2) := by decide +kernel
theorem dX1_append_6 : decode cX1_append 6 = .ok (.if_icmp .lt 5, 3) := by decide +kernel
theorem dX1_append_9 : decode cX1_append 9 = .ok (.iconst 0, 1) := by decide +kernel
theorem dX1_append_10 : decode cX1_append 10 = .ok (.ireturn, 1) := by decide +kernel
theorem dX1_append_11 : decode cX1_append 11 = .ok (.aload_n 0, 1) := by decide +kernel
theorem dX1_append_12 : decode cX1_append 12 = .ok (.getfield 9, 3) := by decide +kernel
theorem dX1_append_15 : decode cX1_append 15 = .ok (.aload_n 0, 1) := by decide +kernel
theorem dX1_append_16 : decode cX1_append 16 = .ok (.getfield 19, 3) := by decide +kernel
theorem dX1_append_19 : decode cX1_append 19 = .ok (.iload_n 1, 1) := by decide +kernel
theorem dX1_append_20 : decode cX1_append 20 = .ok (.iastore, 1) := by decide +kernel
theorem dX1_append_21 : decode cX1_append 21 = .ok (.aload_n 0, 1) := by decide +kernel
theorem dX1_append_22 : decode cX1_append 22 = .ok (.getfield 13, 3) := by decide +kernel
theorem dX1_append_25 : decode cX1_append 25 = .ok (.aload_n 0, 1) := by decide +kernel
theorem dX1_append_26 : decode cX1_append 26 = .ok (.getfield 19, 3) := by decide +kernel
theorem dX1_append_29 : decode cX1_append 29 = .ok (.iload_n 2, 1) := by decide +kernel
theorem dX1_append_30 : decode cX1_append 30 = .ok (.iastore, 1) := by decide +kernel
theorem dX1_append_31 : decode cX1_append 31 = .ok (.aload_n 0, 1) := by decide +kernel
theorem dX1_append_32 : decode cX1_append 32 = .ok (.getfield 16, 3) := by decide +kernel
theorem dX1_append_35 : decode cX1_append 35 = .ok (.aload_n 0, 1) := by decide +kernel
theorem dX1_append_36 : decode cX1_append 36 = .ok (.getfield 19, 3) := by decide +kernel
theorem dX1_append_39 : decode cX1_append 39 = .ok (.iload_n 3, 1) := by decide +kernel
theorem dX1_append_40 : decode cX1_append 40 = .ok (.iastore, 1) := by decide +kernel
theorem dX1_append_41 : decode cX1_append 41 = .ok (.aload_n 0, 1) := by decide +kernel
theorem dX1_append_42 : decode cX1_append 42 = .ok (.dup, 1) := by decide +kernel
theorem dX1_append_43 : decode cX1_append 43 = .ok (.getfield 19, 3) := by decide +kernel
theorem dX1_append_46 : decode cX1_append 46 = .ok (.iconst 1, 1) := by decide +kernel
theorem dX1_append_47 : decode cX1_append 47 = .ok (.iadd, 1) := by decide +kernel
theorem dX1_append_48 : decode cX1_append 48 = .ok (.putfield 19, 3) := by decide +kernel
theorem dX1_append_51 : decode cX1_append 51 = .ok (.iconst 1, 1) := by decide +kernel
theorem dX1_append_52 : decode cX1_append 52 = .ok (.ireturn, 1) := by decide +kernel
theorem dX1_comeTrueIn_0 : decode cX1_comeTrueIn 0 = .ok (.aload_n 0, 1) := by decide +kernel
theorem dX1_comeTrueIn_1 : decode cX1_comeTrueIn 1 = .ok (.invokevirtual 23, 3) := by decide +kernel
theorem dX1_comeTrueIn_4 : decode cX1_comeTrueIn 4 = .ok (.istore_n 2, 1) := by decide +kernel
theorem dX1_comeTrueIn_5 : decode cX1_comeTrueIn 5 = .ok (.iconst 0, 1) := by decide +kernel
theorem dX1_comeTrueIn_6 : decode cX1_comeTrueIn 6 = .ok (.istore_n 3, 1) := by decide +kernel
theorem dX1_comeTrueIn_7 : decode cX1_comeTrueIn 7 = .ok (.iload_n 3, 1) := by decide +kernel
theorem dX1_comeTrueIn_8 : decode cX1_comeTrueIn 8 = .ok (.iload_n 2, 1) := by decide +kernel
theorem dX1_comeTrueIn_9 : decode cX1_comeTrueIn 9 = .ok (.if_icmp .gt 25, 3) := by decide +kernel
theorem dX1_comeTrueIn_12 : decode cX1_comeTrueIn 12 = .ok (.aload_n 0, 1) := by decide +kernel
theorem dX1_comeTrueIn_13 : decode cX1_comeTrueIn 13 = .ok (.iload_n 3, 1) := by decide +kernel
theorem dX1_comeTrueIn_14 : decode cX1_comeTrueIn 14 = .ok (.aload_n 1, 1) := by decide +kernel
theorem dX1_comeTrueIn_15 : decode cX1_comeTrueIn 15 = .ok (.invokevirtual 27, 3) := by decide +kernel
theorem dX1_comeTrueIn_18 : decode cX1_comeTrueIn 18 = .ok (.ifCond .ne 5, 3) := by decide +kernel
theorem dX1_comeTrueIn_21 : decode cX1_comeTrueIn 21 = .ok (.iconst 0, 1) := by decide +kernel
theorem dX1_comeTrueIn_22 : decode cX1_comeTrueIn 22 = .ok (.ireturn, 1) := by decide +kernel
theorem dX1_comeTrueIn_23 : decode cX1_comeTrueIn 23 = .ok (.aload_n 1, 1) := by decide +kernel
theorem dX1_comeTrueIn_24 : decode cX1_comeTrueIn 24 = .ok (.invokevirtual 31, 3) := by decide +kernel
theorem dX1_comeTrueIn_27 : decode cX1_comeTrueIn 27 = .ok (.pop, 1) := by decide +kernel
theorem dX1_comeTrueIn_28 : decode cX1_comeTrueIn 28 = .ok (.iinc 3 1, 3) := by decide +kernel
theorem dX1_comeTrueIn_31 : decode cX1_comeTrueIn 31 = .ok (.goto (-24), 3) := by decide +kernel
theorem dX1_comeTrueIn_34 : decode cX1_comeTrueIn 34 = .ok (.iconst 1, 1) := by decide +kernel
theorem dX1_comeTrueIn_35 : decode cX1_comeTrueIn 35 = .ok (.ireturn, 1) := by decide +kernel
theorem dX1_lastDay_0 : decode cX1_lastDay 0 = .ok (.iconst (-1), 1) := by decide +kernel
theorem dX1_lastDay_1 : decode cX1_lastDay 1 = .ok (.istore_n 1, 1) := by decide +kernel
theorem dX1_lastDay_2 : decode cX1_lastDay 2 = .ok (.iconst 0, 1) := by decide +kernel
theorem dX1_lastDay_3 : decode cX1_lastDay 3 = .ok (.istore_n 2, 1) := by decide +kernel
theorem dX1_lastDay_4 : decode cX1_lastDay 4 = .ok (.iload_n 2, 1) := by decide +kernel
theorem dX1_lastDay_5 : decode cX1_lastDay 5 = .ok (.aload_n 0, 1) := by decide +kernel
theorem dX1_lastDay_6 : decode cX1_lastDay 6 = .ok (.getfield 19, 3) := by decide +kernel
theorem dX1_lastDay_9 : decode cX1_lastDay 9 = .ok (.if_icmp .ge 20, 3) := by decide +kernel
theorem dX1_lastDay_12 : decode cX1_lastDay 12 = .ok (.iload_n 1, 1) := by decide +kernel
theorem dX1_lastDay_13 : decode cX1_lastDay 13 = .ok (.aload_n 0, 1) := by decide +kernel
theorem dX1_lastDay_14 : decode cX1_lastDay 14 = .ok (.getfield 9, 3) := by decide +kernel
theorem dX1_lastDay_17 : decode cX1_lastDay 17 = .ok (.iload_n 2, 1) := by decide +kernel
theorem dX1_lastDay_18 : decode cX1_lastDay 18 = .ok (.iaload, 1) := by decide +kernel
theorem dX1_lastDay_19 : decode cX1_lastDay 19 = .ok (.invokestatic 36, 3) := by decide +kernel
theorem dX1_lastDay_22 : decode cX1_lastDay 22 = .ok (.istore_n 1, 1) := by decide +kernel
theorem dX1_lastDay_23 : decode cX1_lastDay 23 = .ok (.iinc 2 1, 3) := by decide +kernel
theorem dX1_lastDay_26 : decode cX1_lastDay 26 = .ok (.goto (-22), 3) := by decide +kernel
theorem dX1_lastDay_29 : decode cX1_lastDay 29 = .ok (.iload_n 1, 1) := by decide +kernel
theorem dX1_lastDay_30 : decode cX1_lastDay 30 = .ok (.ireturn, 1) := by decide +kernel
theorem dX1_areTrueOn_0 : decode cX1_areTrueOn 0 = .ok (.iconst 0, 1) := by decide +kernel
theorem dX1_areTrueOn_1 : decode cX1_areTrueOn 1 = .ok (.istore_n 3, 1) := by decide +kernel
theorem dX1_areTrueOn_2 : decode cX1_areTrueOn 2 = .ok (.iload_n 3, 1) := by decide +kernel
theorem dX1_areTrueOn_3 : decode cX1_areTrueOn 3 = .ok (.aload_n 0, 1) := by decide +kernel
theorem dX1_areTrueOn_4 : decode cX1_areTrueOn 4 = .ok (.getfield 19, 3) := by decide +kernel
theorem dX1_areTrueOn_7 : decode cX1_areTrueOn 7 = .ok (.if_icmp .ge 41, 3) := by decide +kernel
theorem dX1_areTrueOn_10 : decode cX1_areTrueOn 10 = .ok (.aload_n 0, 1) := by decide +kernel
theorem dX1_areTrueOn_11 : decode cX1_areTrueOn 11 = .ok (.getfield 9, 3) := by decide +kernel
theorem dX1_areTrueOn_14 : decode cX1_areTrueOn 14 = .ok (.iload_n 3, 1) := by decide +kernel
theorem dX1_areTrueOn_15 : decode cX1_areTrueOn 15 = .ok (.iaload, 1) := by decide +kernel
theorem dX1_areTrueOn_16 : decode cX1_areTrueOn 16 = .ok (.iload_n 1, 1) := by decide +kernel
theorem dX1_areTrueOn_17 : decode cX1_areTrueOn 17 = .ok (.if_icmp .ne 25, 3) := by decide +kernel
theorem dX1_areTrueOn_20 : decode cX1_areTrueOn 20 = .ok (.aload_n 2, 1) := by decide +kernel
theorem dX1_areTrueOn_21 : decode cX1_areTrueOn 21 = .ok (.getfield 42, 3) := by decide +kernel
theorem dX1_areTrueOn_24 : decode cX1_areTrueOn 24 = .ok (.aload_n 0, 1) := by decide +kernel
theorem dX1_areTrueOn_25 : decode cX1_areTrueOn 25 = .ok (.getfield 13, 3) := by decide +kernel
theorem dX1_areTrueOn_28 : decode cX1_areTrueOn 28 = .ok (.iload_n 3, 1) := by decide +kernel
theorem dX1_areTrueOn_29 : decode cX1_areTrueOn 29 = .ok (.iaload, 1) := by decide +kernel
theorem dX1_areTrueOn_30 : decode cX1_areTrueOn 30 = .ok (.iaload, 1) := by decide +kernel
theorem dX1_areTrueOn_31 : decode cX1_areTrueOn 31 = .ok (.aload_n 0, 1) := by decide +kernel
theorem dX1_areTrueOn_32 : decode cX1_areTrueOn 32 = .ok (.getfield 16, 3) := by decide +kernel
theorem dX1_areTrueOn_35 : decode cX1_areTrueOn 35 = .ok (.iload_n 3, 1) := by decide +kernel
theorem dX1_areTrueOn_36 : decode cX1_areTrueOn 36 = .ok (.iaload, 1) := by decide +kernel
theorem dX1_areTrueOn_37 : decode cX1_areTrueOn 37 = .ok (.if_icmp .eq 5, 3) := by decide +kernel
theorem dX1_areTrueOn_40 : decode cX1_areTrueOn 40 = .ok (.iconst 0, 1) := by decide +kernel
theorem dX1_areTrueOn_41 : decode cX1_areTrueOn 41 = .ok (.ireturn, 1) := by decide +kernel
theorem dX1_areTrueOn_42 : decode cX1_areTrueOn 42 = .ok (.iinc 3 1, 3) := by decide +kernel
theorem dX1_areTrueOn_45 : decode cX1_areTrueOn 45 = .ok (.goto (-43), 3) := by decide +kernel
theorem dX1_areTrueOn_48 : decode cX1_areTrueOn 48 = .ok (.iconst 1, 1) := by decide +kernel
theorem dX1_areTrueOn_49 : decode cX1_areTrueOn 49 = .ok (.ireturn, 1) := by decide +kernel
theorem dX2_init_0 : decode cX2_init 0 = .ok (.aload_n 0, 1) := by decide +kernel
theorem dX2_init_1 : decode cX2_init 1 = .ok (.invokespecial 3, 3) := by decide +kernel
theorem dX2_init_4 : decode cX2_init 4 = .ok (.aload_n 0, 1) := by decide +kernel
theorem dX2_init_5 : decode cX2_init 5 = .ok (.iconst 5, 1) := by decide +kernel
theorem dX2_init_6 : decode cX2_init 6 = .ok (.newarray .int, 2) := by decide +kernel
theorem dX2_init_8 : decode cX2_init 8 = .ok (.putfield 9, 3) := by decide +kernel
theorem dX2_init_11 : decode cX2_init 11 = .ok (.aload_n 0, 1) := by decide +kernel
theorem dX2_init_12 : decode cX2_init 12 = .ok (.iconst 5, 1) := by decide +kernel
theorem dX2_init_13 : decode cX2_init 13 = .ok (.newarray .int, 2) := by decide +kernel
theorem dX2_init_15 : decode cX2_init 15 = .ok (.putfield 15, 3) := by decide +kernel
theorem dX2_init_18 : decode cX2_init 18 = .ok (.aload_n 0, 1) := by decide +kernel
theorem dX2_init_19 : decode cX2_init 19 = .ok (.iconst 5, 1) := by decide +kernel
theorem dX2_init_20 : decode cX2_init 20 = .ok (.newarray .int, 2) := by decide +kernel
theorem dX2_init_22 : decode cX2_init 22 = .ok (.putfield 18, 3) := by decide +kernel
theorem dX2_init_25 : decode cX2_init 25 = .ok (.aload_n 0, 1) := by decide +kernel
theorem dX2_init_26 : decode cX2_init 26 = .ok (.iconst 4, 1) := by decide +kernel
theorem dX2_init_27 : decode cX2_init 27 = .ok (.newarray .int, 2) := by decide +kernel
theorem dX2_init_29 : decode cX2_init 29 = .ok (.putfield 21, 3) := by decide +kernel
theorem dX2_init_32 : decode cX2_init 32 = .ok (.aload_n 0, 1) := by decide +kernel
theorem dX2_init_33 : decode cX2_init 33 = .ok (.bipush 8, 2) := by decide +kernel
theorem dX2_init_35 : decode cX2_init 35 = .ok (.newarray .int, 2) := by decide +kernel
theorem dX2_init_37 : decode cX2_init 37 = .ok (.putfield 24, 3) := by decide +kernel
theorem dX2_init_40 : decode cX2_init 40 = .ok (.aload_n 0, 1) := by decide +kernel
theorem dX2_init_41 : decode cX2_init 41 = .ok (.bipush 8, 2) := by decide +kernel
theorem dX2_init_43 : decode cX2_init 43 = .ok (.newarray .int, 2) := by decide +kernel
theorem dX2_init_45 : decode cX2_init 45 = .ok (.putfield 27, 3) := by decide +kernel
theorem dX2_init_48 : decode cX2_init 48 = .ok (.aload_n 0, 1) := by decide +kernel
theorem dX2_init_49 : decode cX2_init 49 = .ok (.bipush 8, 2) := by decide +kernel
theorem dX2_init_51 : decode cX2_init 51 = .ok (.newarray .int, 2) := by decide +kernel
theorem dX2_init_53 : decode cX2_init 53 = .ok (.putfield 30, 3) := by decide +kernel
theorem dX2_init_56 : decode cX2_init 56 = .ok (.aload_n 0, 1) := by decide +kernel
theorem dX2_init_57 : decode cX2_init 57 = .ok (.bipush 8, 2) := by decide +kernel
theorem dX2_init_59 : decode cX2_init 59 = .ok (.newarray .int, 2) := by decide +kernel
theorem dX2_init_61 : decode cX2_init 61 = .ok (.putfield 33, 3) := by decide +kernel
theorem dX2_init_64 : decode cX2_init 64 = .ok (.aload_n 0, 1) := by decide +kernel
theorem dX2_init_65 : decode cX2_init 65 = .ok (.iconst 4, 1) := by decide +kernel
theorem dX2_init_66 : decode cX2_init 66 = .ok (.newarray .int, 2) := by decide +kernel
theorem dX2_init_68 : decode cX2_init 68 = .ok (.putfield 36, 3) := by decide +kernel
theorem dX2_init_71 : decode cX2_init 71 = .ok (.aload_n 0, 1) := by decide +kernel
theorem dX2_init_72 : decode cX2_init 72 = .ok (.invokevirtual 39, 3) := by decide +kernel
theorem dX2_init_75 : decode cX2_init 75 = .ok (.return_, 1) := by decide +kernel
theorem dX2_makeNew_0 : decode cX2_makeNew 0 = .ok (.aload_n 0, 1) := by decide +kernel
theorem dX2_makeNew_1 : decode cX2_makeNew 1 = .ok (.iconst 0, 1) := by decide +kernel
theorem dX2_makeNew_2 : decode cX2_makeNew 2 = .ok (.putfield 42, 3) := by decide +kernel
theorem dX2_makeNew_5 : decode cX2_makeNew 5 = .ok (.aload_n 0, 1) := by decide +kernel
theorem dX2_makeNew_6 : decode cX2_makeNew 6 = .ok (.bipush 25, 2) := by decide +kernel
theorem dX2_makeNew_8 : decode cX2_makeNew 8 = .ok (.putfield 46, 3) := by decide +kernel
theorem dX2_makeNew_11 : decode cX2_makeNew 11 = .ok (.aload_n 0, 1) := by decide +kernel
theorem dX2_makeNew_12 : decode cX2_makeNew 12 = .ok (.getfield 21, 3) := by decide +kernel
theorem dX2_makeNew_15 : decode cX2_makeNew 15 = .ok (.iconst 1, 1) := by decide +kernel
theorem dX2_makeNew_16 : decode cX2_makeNew 16 = .ok (.invokestatic 49, 3) := by decide +kernel
theorem dX2_makeNew_19 : decode cX2_makeNew 19 = .ok (.aload_n 0, 1) := by decide +kernel
theorem dX2_makeNew_20 : decode cX2_makeNew 20 = .ok (.iconst 0, 1) := by decide +kernel
theorem dX2_makeNew_21 : decode cX2_makeNew 21 = .ok (.putfield 55, 3) := by decide +kernel
theorem dX2_makeNew_24 : decode cX2_makeNew 24 = .ok (.aload_n 0, 1) := by decide +kernel
theorem dX2_makeNew_25 : decode cX2_makeNew 25 = .ok (.iconst 0, 1) := by decide +kernel
theorem dX2_makeNew_26 : decode cX2_makeNew 26 = .ok (.putfield 58, 3) := by decide +kernel
theorem dX2_makeNew_29 : decode cX2_makeNew 29 = .ok (.aload_n 0, 1) := by decide +kernel
theorem dX2_makeNew_30 : decode cX2_makeNew 30 = .ok (.iconst 0, 1) := by decide +kernel
theorem dX2_makeNew_31 : decode cX2_makeNew 31 = .ok (.putfield 61, 3) := by decide +kernel
theorem dX2_makeNew_34 : decode cX2_makeNew 34 = .ok (.aload_n 0, 1) := by decide +kernel
theorem dX2_makeNew_35 : decode cX2_makeNew 35 = .ok (.iconst 0, 1) := by decide +kernel
theorem dX2_makeNew_36 : decode cX2_makeNew 36 = .ok (.putfield 64, 3) := by decide +kernel
theorem dX2_makeNew_39 : decode cX2_makeNew 39 = .ok (.return_, 1) := by decide +kernel
theorem dX2_copyFrom_0 : decode cX2_copyFrom 0 = .ok (.aload_n 0, 1) := by decide +kernel
theorem dX2_copyFrom_1 : decode cX2_copyFrom 1 = .ok (.aload_n 1, 1) := by decide +kernel
theorem dX2_copyFrom_2 : decode cX2_copyFrom 2 = .ok (.getfield 42, 3) := by decide +kernel
theorem dX2_copyFrom_5 : decode cX2_copyFrom 5 = .ok (.putfield 42, 3) := by decide +kernel
theorem dX2_copyFrom_8 : decode cX2_copyFrom 8 = .ok (.aload_n 1, 1) := by decide +kernel
theorem dX2_copyFrom_9 : decode cX2_copyFrom 9 = .ok (.getfield 9, 3) := by decide +kernel
theorem dX2_copyFrom_12 : decode cX2_copyFrom 12 = .ok (.iconst 0, 1) := by decide +kernel
theorem dX2_copyFrom_13 : decode cX2_copyFrom 13 = .ok (.aload_n 0, 1) := by decide +kernel
theorem dX2_copyFrom_14 : decode cX2_copyFrom 14 = .ok (.getfield 9, 3) := by decide +kernel
theorem dX2_copyFrom_17 : decode cX2_copyFrom 17 = .ok (.iconst 0, 1) := by decide +kernel
theorem dX2_copyFrom_18 : decode cX2_copyFrom 18 = .ok (.iconst 5, 1) := by decide +kernel
theorem dX2_copyFrom_19 : decode cX2_copyFrom 19 = .ok (.invokestatic 67, 3) := by decide +kernel
theorem dX2_copyFrom_22 : decode cX2_copyFrom 22 = .ok (.aload_n 1, 1) := by decide +kernel
theorem dX2_copyFrom_23 : decode cX2_copyFrom 23 = .ok (.getfield 15, 3) := by decide +kernel
theorem dX2_copyFrom_26 : decode cX2_copyFrom 26 = .ok (.iconst 0, 1) := by decide +kernel
theorem dX2_copyFrom_27 : decode cX2_copyFrom 27 = .ok (.aload_n 0, 1) := by decide +kernel
theorem dX2_copyFrom_28 : decode cX2_copyFrom 28 = .ok (.getfield 15, 3) := by decide +kernel
theorem dX2_copyFrom_31 : decode cX2_copyFrom 31 = .ok (.iconst 0, 1) := by decide +kernel
theorem dX2_copyFrom_32 : decode cX2_copyFrom 32 = .ok (.iconst 5, 1) := by decide +kernel
theorem dX2_copyFrom_33 : decode cX2_copyFrom 33 = .ok (.invokestatic 67, 3) := by decide +kernel
theorem dX2_copyFrom_36 : decode cX2_copyFrom 36 = .ok (.aload_n 1, 1) := by decide +kernel
theorem dX2_copyFrom_37 : decode cX2_copyFrom 37 = .ok (.getfield 18, 3) := by decide +kernel
theorem dX2_copyFrom_40 : decode cX2_copyFrom 40 = .ok (.iconst 0, 1) := by decide +kernel
theorem dX2_copyFrom_41 : decode cX2_copyFrom 41 = .ok (.aload_n 0, 1) := by decide +kernel
theorem dX2_copyFrom_42 : decode cX2_copyFrom 42 = .ok (.getfield 18, 3) := by decide +kernel
theorem dX2_copyFrom_45 : decode cX2_copyFrom 45 = .ok (.iconst 0, 1) := by decide +kernel
theorem dX2_copyFrom_46 : decode cX2_copyFrom 46 = .ok (.iconst 5, 1) := by decide +kernel
theorem dX2_copyFrom_47 : decode cX2_copyFrom 47 = .ok (.invokestatic 67, 3) := by decide +kernel
theorem dX2_copyFrom_50 : decode cX2_copyFrom 50 = .ok (.aload_n 0, 1) := by decide +kernel
theorem dX2_copyFrom_51 : decode cX2_copyFrom 51 = .ok (.aload_n 1, 1) := by decide +kernel
theorem dX2_copyFrom_52 : decode cX2_copyFrom 52 = .ok (.getfield 46, 3) := by decide +kernel
theorem dX2_copyFrom_55 : decode cX2_copyFrom 55 = .ok (.putfield 46, 3) := by decide +kernel
theorem dX2_copyFrom_58 : decode cX2_copyFrom 58 = .ok (.aload_n 1, 1) := by decide +kernel
theorem dX2_copyFrom_59 : decode cX2_copyFrom 59 = .ok (.getfield 21, 3) := by decide +kernel
theorem dX2_copyFrom_62 : decode cX2_copyFrom 62 = .ok (.iconst 0, 1) := by decide +kernel
theorem dX2_copyFrom_63 : decode cX2_copyFrom 63 = .ok (.aload_n 0, 1) := by decide +kernel
theorem dX2_copyFrom_64 : decode cX2_copyFrom 64 = .ok (.getfield 21, 3) := by decide +kernel
theorem dX2_copyFrom_67 : decode cX2_copyFrom 67 = .ok (.iconst 0, 1) := by decide +kernel
theorem dX2_copyFrom_68 : decode cX2_copyFrom 68 = .ok (.iconst 4, 1) := by decide +kernel
theorem dX2_copyFrom_69 : decode cX2_copyFrom 69 = .ok (.invokestatic 67, 3) := by decide +kernel
theorem dX2_copyFrom_72 : decode cX2_copyFrom 72 = .ok (.aload_n 0, 1) := by decide +kernel
theorem dX2_copyFrom_73 : decode cX2_copyFrom 73 = .ok (.aload_n 1, 1) := by decide +kernel
theorem dX2_copyFrom_74 : decode cX2_copyFrom 74 = .ok (.getfield 55, 3) := by decide +kernel
theorem dX2_copyFrom_77 : decode cX2_copyFrom 77 = .ok (.putfield 55, 3) := by decide +kernel
theorem dX2_copyFrom_80 : decode cX2_copyFrom 80 = .ok (.aload_n 1, 1) := by decide +kernel
theorem dX2_copyFrom_81 : decode cX2_copyFrom 81 = .ok (.getfield 24, 3) := by decide +kernel
theorem dX2_copyFrom_84 : decode cX2_copyFrom 84 = .ok (.iconst 0, 1) := by decide +kernel
theorem dX2_copyFrom_85 : decode cX2_copyFrom 85 = .ok (.aload_n 0, 1) := by decide +kernel
theorem dX2_copyFrom_86 : decode cX2_copyFrom 86 = .ok (.getfield 24, 3) := by decide +kernel
theorem dX2_copyFrom_89 : decode cX2_copyFrom 89 = .ok (.iconst 0, 1) := by decide +kernel
theorem dX2_copyFrom_90 : decode cX2_copyFrom 90 = .ok (.bipush 8, 2) := by decide +kernel
theorem dX2_copyFrom_92 : decode cX2_copyFrom 92 = .ok (.invokestatic 67, 3) := by decide +kernel
theorem dX2_copyFrom_95 : decode cX2_copyFrom 95 = .ok (.aload_n 1, 1) := by decide +kernel
theorem dX2_copyFrom_96 : decode cX2_copyFrom 96 = .ok (.getfield 27, 3) := by decide +kernel
theorem dX2_copyFrom_99 : decode cX2_copyFrom 99 = .ok (.iconst 0, 1) := by decide +kernel
theorem dX2_copyFrom_100 : decode cX2_copyFrom 100 = .ok (.aload_n 0, 1) := by decide +kernel
theorem dX2_copyFrom_101 : decode cX2_copyFrom 101 = .ok (.getfield 27, 3) := by decide +kernel
theorem dX2_copyFrom_104 : decode cX2_copyFrom 104 = .ok (.iconst 0, 1) := by decide +kernel
theorem dX2_copyFrom_105 : decode cX2_copyFrom 105 = .ok (.bipush 8, 2) := by decide +kernel
theorem dX2_copyFrom_107 : decode cX2_copyFrom 107 = .ok (.invokestatic 67, 3) := by decide +kernel
theorem dX2_copyFrom_110 : decode cX2_copyFrom 110 = .ok (.aload_n 1, 1) := by decide +kernel
theorem dX2_copyFrom_111 : decode cX2_copyFrom 111 = .ok (.getfield 30, 3) := by decide +kernel
theorem dX2_copyFrom_114 : decode cX2_copyFrom 114 = .ok (.iconst 0, 1) := by decide +kernel
theorem dX2_copyFrom_115 : decode cX2_copyFrom 115 = .ok (.aload_n 0, 1) := by decide +kernel
theorem dX2_copyFrom_116 : decode cX2_copyFrom 116 = .ok (.getfield 30, 3) := by decide +kernel
theorem dX2_copyFrom_119 : decode cX2_copyFrom 119 = .ok (.iconst 0, 1) := by decide +kernel
theorem dX2_copyFrom_120 : decode cX2_copyFrom 120 = .ok (.bipush 8, 2) := by decide +kernel
theorem dX2_copyFrom_122 : decode cX2_copyFrom 122 = .ok (.invokestatic 67, 3) := by decide +kernel
theorem dX2_copyFrom_125 : decode cX2_copyFrom 125 = .ok (.aload_n 1, 1) := by decide +kernel
theorem dX2_copyFrom_126 : decode cX2_copyFrom 126 = .ok (.getfield 33, 3) := by decide +kernel
theorem dX2_copyFrom_129 : decode cX2_copyFrom 129 = .ok (.iconst 0, 1) := by decide +kernel
theorem dX2_copyFrom_130 : decode cX2_copyFrom 130 = .ok (.aload_n 0, 1) := by decide +kernel
theorem dX2_copyFrom_131 : decode cX2_copyFrom 131 = .ok (.getfield 33, 3) := by decide +kernel
theorem dX2_copyFrom_134 : decode cX2_copyFrom 134 = .ok (.iconst 0, 1) := by decide +kernel
theorem dX2_copyFrom_135 : decode cX2_copyFrom 135 = .ok (.bipush 8, 2) := by decide +kernel
theorem dX2_copyFrom_137 : decode cX2_copyFrom 137 = .ok (.invokestatic 67, 3) := by decide +kernel
theorem dX2_copyFrom_140 : decode cX2_copyFrom 140 = .ok (.aload_n 0, 1) := by decide +kernel
theorem dX2_copyFrom_141 : decode cX2_copyFrom 141 = .ok (.aload_n 1, 1) := by decide +kernel
theorem dX2_copyFrom_142 : decode cX2_copyFrom 142 = .ok (.getfield 58, 3) := by decide +kernel
theorem dX2_copyFrom_145 : decode cX2_copyFrom 145 = .ok (.putfield 58, 3) := by decide +kernel
theorem dX2_copyFrom_148 : decode cX2_copyFrom 148 = .ok (.aload_n 0, 1) := by decide +kernel
theorem dX2_copyFrom_149 : decode cX2_copyFrom 149 = .ok (.aload_n 1, 1) := by decide +kernel
theorem dX2_copyFrom_150 : decode cX2_copyFrom 150 = .ok (.getfield 61, 3) := by decide +kernel
theorem dX2_copyFrom_153 : decode cX2_copyFrom 153 = .ok (.putfield 61, 3) := by decide +kernel
theorem dX2_copyFrom_156 : decode cX2_copyFrom 156 = .ok (.aload_n 0, 1) := by decide +kernel
theorem dX2_copyFrom_157 : decode cX2_copyFrom 157 = .ok (.aload_n 1, 1) := by decide +kernel
theorem dX2_copyFrom_158 : decode cX2_copyFrom 158 = .ok (.getfield 64, 3) := by decide +kernel
theorem dX2_copyFrom_161 : decode cX2_copyFrom 161 = .ok (.putfield 64, 3) := by decide +kernel
theorem dX2_copyFrom_164 : decode cX2_copyFrom 164 = .ok (.return_, 1) := by decide +kernel
theorem dX2_addRider_0 : decode cX2_addRider 0 = .ok (.aload_n 0, 1) := by decide +kernel
theorem dX2_addRider_1 : decode cX2_addRider 1 = .ok (.getfield 42, 3) := by decide +kernel
theorem dX2_addRider_4 : decode cX2_addRider 4 = .ok (.iconst 5, 1) := by decide +kernel
theorem dX2_addRider_5 : decode cX2_addRider 5 = .ok (.if_icmp .ge 43, 3) := by decide +kernel
theorem dX2_addRider_8 : decode cX2_addRider 8 = .ok (.aload_n 0, 1) := by decide +kernel
theorem dX2_addRider_9 : decode cX2_addRider 9 = .ok (.getfield 9, 3) := by decide +kernel
theorem dX2_addRider_12 : decode cX2_addRider 12 = .ok (.aload_n 0, 1) := by decide +kernel
theorem dX2_addRider_13 : decode cX2_addRider 13 = .ok (.getfield 42, 3) := by decide +kernel
theorem dX2_addRider_16 : decode cX2_addRider 16 = .ok (.iload_n 1, 1) := by decide +kernel
theorem dX2_addRider_17 : decode cX2_addRider 17 = .ok (.iastore, 1) := by decide +kernel
theorem dX2_addRider_18 : decode cX2_addRider 18 = .ok (.aload_n 0, 1) := by decide +kernel
theorem dX2_addRider_19 : decode cX2_addRider 19 = .ok (.getfield 15, 3) := by decide +kernel
theorem dX2_addRider_22 : decode cX2_addRider 22 = .ok (.aload_n 0, 1) := by decide +kernel
theorem dX2_addRider_23 : decode cX2_addRider 23 = .ok (.getfield 42, 3) := by decide +kernel
theorem dX2_addRider_26 : decode cX2_addRider 26 = .ok (.iload_n 2, 1) := by decide +kernel
theorem dX2_addRider_27 : decode cX2_addRider 27 = .ok (.iastore, 1) := by decide +kernel
theorem dX2_addRider_28 : decode cX2_addRider 28 = .ok (.aload_n 0, 1) := by decide +kernel
theorem dX2_addRider_29 : decode cX2_addRider 29 = .ok (.getfield 18, 3) := by decide +kernel
theorem dX2_addRider_32 : decode cX2_addRider 32 = .ok (.aload_n 0, 1) := by decide +kernel
theorem dX2_addRider_33 : decode cX2_addRider 33 = .ok (.getfield 42, 3) := by decide +kernel
theorem dX2_addRider_36 : decode cX2_addRider 36 = .ok (.iload_n 3, 1) := by decide +kernel
theorem dX2_addRider_37 : decode cX2_addRider 37 = .ok (.iastore, 1) := by decide +kernel
theorem dX2_addRider_38 : decode cX2_addRider 38 = .ok (.aload_n 0, 1) := by decide +kernel
theorem dX2_addRider_39 : decode cX2_addRider 39 = .ok (.dup, 1) := by decide +kernel
theorem dX2_addRider_40 : decode cX2_addRider 40 = .ok (.getfield 42, 3) := by decide +kernel
theorem dX2_addRider_43 : decode cX2_addRider 43 = .ok (.iconst 1, 1) := by decide +kernel
theorem dX2_addRider_44 : decode cX2_addRider 44 = .ok (.iadd, 1) := by decide +kernel
theorem dX2_addRider_45 : decode cX2_addRider 45 = .ok (.putfield 42, 3) := by decide +kernel
theorem dX2_addRider_48 : decode cX2_addRider 48 = .ok (.return_, 1) := by decide +kernel
theorem dX2_addReport_0 : decode cX2_addReport 0 = .ok (.aload_n 0, 1) := by decide +kernel
theorem dX2_addReport_1 : decode cX2_addReport 1 = .ok (.getfield 55, 3) := by decide +kernel
theorem dX2_addReport_4 : decode cX2_addReport 4 = .ok (.bipush 8, 2) := by decide +kernel
theorem dX2_addReport_6 : decode cX2_addReport 6 = .ok (.if_icmp .lt 5, 3) := by decide +kernel
theorem dX2_addReport_9 : decode cX2_addReport 9 = .ok (.iconst 0, 1) := by decide +kernel
theorem dX2_addReport_10 : decode cX2_addReport 10 = .ok (.ireturn, 1) := by decide +kernel
theorem dX2_addReport_11 : decode cX2_addReport 11 = .ok (.aload_n 0, 1) := by decide +kernel
theorem dX2_addReport_12 : decode cX2_addReport 12 = .ok (.getfield 24, 3) := by decide +kernel
theorem dX2_addReport_15 : decode cX2_addReport 15 = .ok (.aload_n 0, 1) := by decide +kernel
theorem dX2_addReport_16 : decode cX2_addReport 16 = .ok (.getfield 55, 3) := by decide +kernel
theorem dX2_addReport_19 : decode cX2_addReport 19 = .ok (.iload_n 1, 1) := by decide +kernel
theorem dX2_addReport_20 : decode cX2_addReport 20 = .ok (.iastore, 1) := by decide +kernel
theorem dX2_addReport_21 : decode cX2_addReport 21 = .ok (.aload_n 0, 1) := by decide +kernel
theorem dX2_addReport_22 : decode cX2_addReport 22 = .ok (.getfield 27, 3) := by decide +kernel
theorem dX2_addReport_25 : decode cX2_addReport 25 = .ok (.aload_n 0, 1) := by decide +kernel
theorem dX2_addReport_26 : decode cX2_addReport 26 = .ok (.getfield 55, 3) := by decide +kernel
theorem dX2_addReport_29 : decode cX2_addReport 29 = .ok (.iload_n 2, 1) := by decide +kernel
theorem dX2_addReport_30 : decode cX2_addReport 30 = .ok (.iastore, 1) := by decide +kernel
theorem dX2_addReport_31 : decode cX2_addReport 31 = .ok (.aload_n 0, 1) := by decide +kernel
theorem dX2_addReport_32 : decode cX2_addReport 32 = .ok (.getfield 30, 3) := by decide +kernel
theorem dX2_addReport_35 : decode cX2_addReport 35 = .ok (.aload_n 0, 1) := by decide +kernel
theorem dX2_addReport_36 : decode cX2_addReport 36 = .ok (.getfield 55, 3) := by decide +kernel
theorem dX2_addReport_39 : decode cX2_addReport 39 = .ok (.iload_n 3, 1) := by decide +kernel
theorem dX2_addReport_40 : decode cX2_addReport 40 = .ok (.iastore, 1) := by decide +kernel
theorem dX2_addReport_41 : decode cX2_addReport 41 = .ok (.aload_n 0, 1) := by decide +kernel
theorem dX2_addReport_42 : decode cX2_addReport 42 = .ok (.getfield 33, 3) := by decide +kernel
theorem dX2_addReport_45 : decode cX2_addReport 45 = .ok (.aload_n 0, 1) := by decide +kernel
theorem dX2_addReport_46 : decode cX2_addReport 46 = .ok (.getfield 55, 3) := by decide +kernel
theorem dX2_addReport_49 : decode cX2_addReport 49 = .ok (.iload 4, 2) := by decide +kernel
theorem dX2_addReport_51 : decode cX2_addReport 51 = .ok (.iastore, 1) := by decide +kernel
theorem dX2_addReport_52 : decode cX2_addReport 52 = .ok (.aload_n 0, 1) := by decide +kernel
theorem dX2_addReport_53 : decode cX2_addReport 53 = .ok (.dup, 1) := by decide +kernel
theorem dX2_addReport_54 : decode cX2_addReport 54 = .ok (.getfield 55, 3) := by decide +kernel
theorem dX2_addReport_57 : decode cX2_addReport 57 = .ok (.iconst 1, 1) := by decide +kernel
theorem dX2_addReport_58 : decode cX2_addReport 58 = .ok (.iadd, 1) := by decide +kernel
theorem dX2_addReport_59 : decode cX2_addReport 59 = .ok (.putfield 55, 3) := by decide +kernel
theorem dX2_addReport_62 : decode cX2_addReport 62 = .ok (.iconst 1, 1) := by decide +kernel
theorem dX2_addReport_63 : decode cX2_addReport 63 = .ok (.ireturn, 1) := by decide +kernel
theorem dX2_readingOf_0 : decode cX2_readingOf 0 = .ok (.aload_n 0, 1) := by decide +kernel
theorem dX2_readingOf_1 : decode cX2_readingOf 1 = .ok (.getfield 9, 3) := by decide +kernel
theorem dX2_readingOf_4 : decode cX2_readingOf 4 = .ok (.iload_n 1, 1) := by decide +kernel
theorem dX2_readingOf_5 : decode cX2_readingOf 5 = .ok (.iaload, 1) := by decide +kernel
theorem dX2_readingOf_6 : decode cX2_readingOf 6 = .ok (.aload_n 0, 1) := by decide +kernel
theorem dX2_readingOf_7 : decode cX2_readingOf 7 = .ok (.getfield 15, 3) := by decide +kernel
theorem dX2_readingOf_10 : decode cX2_readingOf 10 = .ok (.iload_n 1, 1) := by decide +kernel
theorem dX2_readingOf_11 : decode cX2_readingOf 11 = .ok (.iaload, 1) := by decide +kernel
theorem dX2_readingOf_12 : decode cX2_readingOf 12 = .ok (.invokestatic 73, 3) := by decide +kernel
theorem dX2_readingOf_15 : decode cX2_readingOf 15 = .ok (.ireturn, 1) := by decide +kernel
theorem dX2_holds_0 : decode cX2_holds 0 = .ok (.iload_n 2, 1) := by decide +kernel
theorem dX2_holds_1 : decode cX2_holds 1 = .ok (.iload_n 1, 1) := by decide +kernel
theorem dX2_holds_2 : decode cX2_holds 2 = .ok (.invokestatic 77, 3) := by decide +kernel
theorem dX2_holds_5 : decode cX2_holds 5 = .ok (.aload_n 0, 1) := by decide +kernel
theorem dX2_holds_6 : decode cX2_holds 6 = .ok (.getfield 46, 3) := by decide +kernel
theorem dX2_holds_9 : decode cX2_holds 9 = .ok (.imul, 1) := by decide +kernel
theorem dX2_holds_10 : decode cX2_holds 10 = .ok (.if_icmp .gt 7, 3) := by decide +kernel
theorem dX2_holds_13 : decode cX2_holds 13 = .ok (.iconst 1, 1) := by decide +kernel
theorem dX2_holds_14 : decode cX2_holds 14 = .ok (.goto 4, 3) := by decide +kernel
theorem dX2_holds_17 : decode cX2_holds 17 = .ok (.iconst 0, 1) := by decide +kernel
theorem dX2_holds_18 : decode cX2_holds 18 = .ok (.ireturn, 1) := by decide +kernel
theorem dX2_reportsOn_0 : decode cX2_reportsOn 0 = .ok (.iconst 0, 1) := by decide +kernel
theorem dX2_reportsOn_1 : decode cX2_reportsOn 1 = .ok (.istore_n 2, 1) := by decide +kernel
theorem dX2_reportsOn_2 : decode cX2_reportsOn 2 = .ok (.iconst 0, 1) := by decide +kernel
theorem dX2_reportsOn_3 : decode cX2_reportsOn 3 = .ok (.istore_n 3, 1) := by decide +kernel
theorem dX2_reportsOn_4 : decode cX2_reportsOn 4 = .ok (.iload_n 3, 1) := by decide +kernel
theorem dX2_reportsOn_5 : decode cX2_reportsOn 5 = .ok (.aload_n 0, 1) := by decide +kernel
theorem dX2_reportsOn_6 : decode cX2_reportsOn 6 = .ok (.getfield 55, 3) := by decide +kernel
theorem dX2_reportsOn_9 : decode cX2_reportsOn 9 = .ok (.if_icmp .ge 29, 3) := by decide +kernel
theorem dX2_reportsOn_12 : decode cX2_reportsOn 12 = .ok (.iload_n 2, 1) := by decide +kernel
theorem dX2_reportsOn_13 : decode cX2_reportsOn 13 = .ok (.aload_n 0, 1) := by decide +kernel
theorem dX2_reportsOn_14 : decode cX2_reportsOn 14 = .ok (.getfield 30, 3) := by decide +kernel
theorem dX2_reportsOn_17 : decode cX2_reportsOn 17 = .ok (.iload_n 3, 1) := by decide +kernel
theorem dX2_reportsOn_18 : decode cX2_reportsOn 18 = .ok (.iaload, 1) := by decide +kernel
theorem dX2_reportsOn_19 : decode cX2_reportsOn 19 = .ok (.iload_n 1, 1) := by decide +kernel
theorem dX2_reportsOn_20 : decode cX2_reportsOn 20 = .ok (.if_icmp .ne 9, 3) := by decide +kernel
theorem dX2_reportsOn_23 : decode cX2_reportsOn 23 = .ok (.iconst 1, 1) := by decide +kernel
theorem dX2_reportsOn_24 : decode cX2_reportsOn 24 = .ok (.iload_n 3, 1) := by decide +kernel
theorem dX2_reportsOn_25 : decode cX2_reportsOn 25 = .ok (.ishl, 1) := by decide +kernel
theorem dX2_reportsOn_26 : decode cX2_reportsOn 26 = .ok (.goto 4, 3) := by decide +kernel
theorem dX2_reportsOn_29 : decode cX2_reportsOn 29 = .ok (.iconst 0, 1) := by decide +kernel
theorem dX2_reportsOn_30 : decode cX2_reportsOn 30 = .ok (.ior, 1) := by decide +kernel
theorem dX2_reportsOn_31 : decode cX2_reportsOn 31 = .ok (.istore_n 2, 1) := by decide +kernel
theorem dX2_reportsOn_32 : decode cX2_reportsOn 32 = .ok (.iinc 3 1, 3) := by decide +kernel
theorem dX2_reportsOn_35 : decode cX2_reportsOn 35 = .ok (.goto (-31), 3) := by decide +kernel
theorem dX2_reportsOn_38 : decode cX2_reportsOn 38 = .ok (.iload_n 2, 1) := by decide +kernel
theorem dX2_reportsOn_39 : decode cX2_reportsOn 39 = .ok (.ireturn, 1) := by decide +kernel
theorem dX2_sumTrust_0 : decode cX2_sumTrust 0 = .ok (.aload_n 0, 1) := by decide +kernel
theorem dX2_sumTrust_1 : decode cX2_sumTrust 1 = .ok (.getfield 36, 3) := by decide +kernel
theorem dX2_sumTrust_4 : decode cX2_sumTrust 4 = .ok (.iconst 0, 1) := by decide +kernel
theorem dX2_sumTrust_5 : decode cX2_sumTrust 5 = .ok (.invokestatic 49, 3) := by decide +kernel
theorem dX2_sumTrust_8 : decode cX2_sumTrust 8 = .ok (.iconst 0, 1) := by decide +kernel
theorem dX2_sumTrust_9 : decode cX2_sumTrust 9 = .ok (.istore_n 3, 1) := by decide +kernel
theorem dX2_sumTrust_10 : decode cX2_sumTrust 10 = .ok (.iload_n 3, 1) := by decide +kernel
theorem dX2_sumTrust_11 : decode cX2_sumTrust 11 = .ok (.aload_n 0, 1) := by decide +kernel
theorem dX2_sumTrust_12 : decode cX2_sumTrust 12 = .ok (.getfield 55, 3) := by decide +kernel
theorem dX2_sumTrust_15 : decode cX2_sumTrust 15 = .ok (.if_icmp .ge 65, 3) := by decide +kernel
theorem dX2_sumTrust_18 : decode cX2_sumTrust 18 = .ok (.aload_n 0, 1) := by decide +kernel
theorem dX2_sumTrust_19 : decode cX2_sumTrust 19 = .ok (.getfield 30, 3) := by decide +kernel
theorem dX2_sumTrust_22 : decode cX2_sumTrust 22 = .ok (.iload_n 3, 1) := by decide +kernel
theorem dX2_sumTrust_23 : decode cX2_sumTrust 23 = .ok (.iaload, 1) := by decide +kernel
theorem dX2_sumTrust_24 : decode cX2_sumTrust 24 = .ok (.iload_n 1, 1) := by decide +kernel
theorem dX2_sumTrust_25 : decode cX2_sumTrust 25 = .ok (.if_icmp .ne 49, 3) := by decide +kernel
theorem dX2_sumTrust_28 : decode cX2_sumTrust 28 = .ok (.aload_n 0, 1) := by decide +kernel
theorem dX2_sumTrust_29 : decode cX2_sumTrust 29 = .ok (.getfield 24, 3) := by decide +kernel
theorem dX2_sumTrust_32 : decode cX2_sumTrust 32 = .ok (.iload_n 3, 1) := by decide +kernel
theorem dX2_sumTrust_33 : decode cX2_sumTrust 33 = .ok (.iaload, 1) := by decide +kernel
theorem dX2_sumTrust_34 : decode cX2_sumTrust 34 = .ok (.iload_n 2, 1) := by decide +kernel
theorem dX2_sumTrust_35 : decode cX2_sumTrust 35 = .ok (.if_icmp .gt 39, 3) := by decide +kernel
theorem dX2_sumTrust_38 : decode cX2_sumTrust 38 = .ok (.aload_n 0, 1) := by decide +kernel
theorem dX2_sumTrust_39 : decode cX2_sumTrust 39 = .ok (.getfield 58, 3) := by decide +kernel
theorem dX2_sumTrust_42 : decode cX2_sumTrust 42 = .ok (.iload_n 3, 1) := by decide +kernel
theorem dX2_sumTrust_43 : decode cX2_sumTrust 43 = .ok (.ishr, 1) := by decide +kernel
theorem dX2_sumTrust_44 : decode cX2_sumTrust 44 = .ok (.iconst 1, 1) := by decide +kernel
theorem dX2_sumTrust_45 : decode cX2_sumTrust 45 = .ok (.iand, 1) := by decide +kernel
theorem dX2_sumTrust_46 : decode cX2_sumTrust 46 = .ok (.ifCond .ne 28, 3) := by decide +kernel
theorem dX2_sumTrust_49 : decode cX2_sumTrust 49 = .ok (.aload_n 0, 1) := by decide +kernel
theorem dX2_sumTrust_50 : decode cX2_sumTrust 50 = .ok (.getfield 36, 3) := by decide +kernel
theorem dX2_sumTrust_53 : decode cX2_sumTrust 53 = .ok (.aload_n 0, 1) := by decide +kernel
theorem dX2_sumTrust_54 : decode cX2_sumTrust 54 = .ok (.getfield 33, 3) := by decide +kernel
theorem dX2_sumTrust_57 : decode cX2_sumTrust 57 = .ok (.iload_n 3, 1) := by decide +kernel
theorem dX2_sumTrust_58 : decode cX2_sumTrust 58 = .ok (.iaload, 1) := by decide +kernel
theorem dX2_sumTrust_59 : decode cX2_sumTrust 59 = .ok (.dup2, 1) := by decide +kernel
theorem dX2_sumTrust_60 : decode cX2_sumTrust 60 = .ok (.iaload, 1) := by decide +kernel
theorem dX2_sumTrust_61 : decode cX2_sumTrust 61 = .ok (.aload_n 0, 1) := by decide +kernel
theorem dX2_sumTrust_62 : decode cX2_sumTrust 62 = .ok (.getfield 21, 3) := by decide +kernel
theorem dX2_sumTrust_65 : decode cX2_sumTrust 65 = .ok (.aload_n 0, 1) := by decide +kernel
theorem dX2_sumTrust_66 : decode cX2_sumTrust 66 = .ok (.getfield 27, 3) := by decide +kernel
theorem dX2_sumTrust_69 : decode cX2_sumTrust 69 = .ok (.iload_n 3, 1) := by decide +kernel
theorem dX2_sumTrust_70 : decode cX2_sumTrust 70 = .ok (.iaload, 1) := by decide +kernel
theorem dX2_sumTrust_71 : decode cX2_sumTrust 71 = .ok (.iaload, 1) := by decide +kernel
theorem dX2_sumTrust_72 : decode cX2_sumTrust 72 = .ok (.iadd, 1) := by decide +kernel
theorem dX2_sumTrust_73 : decode cX2_sumTrust 73 = .ok (.iastore, 1) := by decide +kernel
theorem dX2_sumTrust_74 : decode cX2_sumTrust 74 = .ok (.iinc 3 1, 3) := by decide +kernel
theorem dX2_sumTrust_77 : decode cX2_sumTrust 77 = .ok (.goto (-67), 3) := by decide +kernel
theorem dX2_sumTrust_80 : decode cX2_sumTrust 80 = .ok (.return_, 1) := by decide +kernel
theorem dX2_beliefOf_0 : decode cX2_beliefOf 0 = .ok (.aload_n 0, 1) := by decide +kernel
theorem dX2_beliefOf_1 : decode cX2_beliefOf 1 = .ok (.iload_n 1, 1) := by decide +kernel
theorem dX2_beliefOf_2 : decode cX2_beliefOf 2 = .ok (.iload_n 2, 1) := by decide +kernel
theorem dX2_beliefOf_3 : decode cX2_beliefOf 3 = .ok (.invokevirtual 81, 3) := by decide +kernel
theorem dX2_beliefOf_6 : decode cX2_beliefOf 6 = .ok (.iconst 0, 1) := by decide +kernel
theorem dX2_beliefOf_7 : decode cX2_beliefOf 7 = .ok (.istore_n 3, 1) := by decide +kernel
theorem dX2_beliefOf_8 : decode cX2_beliefOf 8 = .ok (.bipush (-4), 2) := by decide +kernel
theorem dX2_beliefOf_10 : decode cX2_beliefOf 10 = .ok (.istore 4, 2) := by decide +kernel
theorem dX2_beliefOf_12 : decode cX2_beliefOf 12 = .ok (.iconst 0, 1) := by decide +kernel
theorem dX2_beliefOf_13 : decode cX2_beliefOf 13 = .ok (.istore 5, 2) := by decide +kernel
theorem dX2_beliefOf_15 : decode cX2_beliefOf 15 = .ok (.iload 5, 2) := by decide +kernel
theorem dX2_beliefOf_17 : decode cX2_beliefOf 17 = .ok (.iconst 4, 1) := by decide +kernel
theorem dX2_beliefOf_18 : decode cX2_beliefOf 18 = .ok (.if_icmp .ge 32, 3) := by decide +kernel
theorem dX2_beliefOf_21 : decode cX2_beliefOf 21 = .ok (.aload_n 0, 1) := by decide +kernel
theorem dX2_beliefOf_22 : decode cX2_beliefOf 22 = .ok (.getfield 36, 3) := by decide +kernel
theorem dX2_beliefOf_25 : decode cX2_beliefOf 25 = .ok (.iload 5, 2) := by decide +kernel
theorem dX2_beliefOf_27 : decode cX2_beliefOf 27 = .ok (.iaload, 1) := by decide +kernel
theorem dX2_beliefOf_28 : decode cX2_beliefOf 28 = .ok (.iload_n 3, 1) := by decide +kernel
theorem dX2_beliefOf_29 : decode cX2_beliefOf 29 = .ok (.if_icmp .le 15, 3) := by decide +kernel
theorem dX2_beliefOf_32 : decode cX2_beliefOf 32 = .ok (.aload_n 0, 1) := by decide +kernel
theorem dX2_beliefOf_33 : decode cX2_beliefOf 33 = .ok (.getfield 36, 3) := by decide +kernel
theorem dX2_beliefOf_36 : decode cX2_beliefOf 36 = .ok (.iload 5, 2) := by decide +kernel
theorem dX2_beliefOf_38 : decode cX2_beliefOf 38 = .ok (.iaload, 1) := by decide +kernel
theorem dX2_beliefOf_39 : decode cX2_beliefOf 39 = .ok (.istore_n 3, 1) := by decide +kernel
theorem dX2_beliefOf_40 : decode cX2_beliefOf 40 = .ok (.iload 5, 2) := by decide +kernel
theorem dX2_beliefOf_42 : decode cX2_beliefOf 42 = .ok (.istore 4, 2) := by decide +kernel
theorem dX2_beliefOf_44 : decode cX2_beliefOf 44 = .ok (.iinc 5 1, 3) := by decide +kernel
theorem dX2_beliefOf_47 : decode cX2_beliefOf 47 = .ok (.goto (-32), 3) := by decide +kernel
theorem dX2_beliefOf_50 : decode cX2_beliefOf 50 = .ok (.iload 4, 2) := by decide +kernel
theorem dX2_beliefOf_52 : decode cX2_beliefOf 52 = .ok (.ireturn, 1) := by decide +kernel
theorem dX2_isContent_0 : decode cX2_isContent 0 = .ok (.aload_n 0, 1) := by decide +kernel
theorem dX2_isContent_1 : decode cX2_isContent 1 = .ok (.iload_n 1, 1) := by decide +kernel
theorem dX2_isContent_2 : decode cX2_isContent 2 = .ok (.aload_n 0, 1) := by decide +kernel
theorem dX2_isContent_3 : decode cX2_isContent 3 = .ok (.getfield 61, 3) := by decide +kernel
theorem dX2_isContent_6 : decode cX2_isContent 6 = .ok (.invokevirtual 85, 3) := by decide +kernel
theorem dX2_isContent_9 : decode cX2_isContent 9 = .ok (.istore_n 2, 1) := by decide +kernel
theorem dX2_isContent_10 : decode cX2_isContent 10 = .ok (.iload_n 2, 1) := by decide +kernel
theorem dX2_isContent_11 : decode cX2_isContent 11 = .ok (.bipush (-4), 2) := by decide +kernel
theorem dX2_isContent_13 : decode cX2_isContent 13 = .ok (.if_icmp .eq 12, 3) := by decide +kernel
theorem dX2_isContent_16 : decode cX2_isContent 16 = .ok (.iload_n 2, 1) := by decide +kernel
theorem dX2_isContent_17 : decode cX2_isContent 17 = .ok (.aload_n 0, 1) := by decide +kernel
theorem dX2_isContent_18 : decode cX2_isContent 18 = .ok (.iload_n 1, 1) := by decide +kernel
theorem dX2_isContent_19 : decode cX2_isContent 19 = .ok (.invokevirtual 88, 3) := by decide +kernel
theorem dX2_isContent_22 : decode cX2_isContent 22 = .ok (.if_icmp .ne 7, 3) := by decide +kernel
theorem dX2_isContent_25 : decode cX2_isContent 25 = .ok (.iconst 1, 1) := by decide +kernel
theorem dX2_isContent_26 : decode cX2_isContent 26 = .ok (.goto 4, 3) := by decide +kernel
theorem dX2_isContent_29 : decode cX2_isContent 29 = .ok (.iconst 0, 1) := by decide +kernel
theorem dX2_isContent_30 : decode cX2_isContent 30 = .ok (.ireturn, 1) := by decide +kernel
theorem dX2_agreeing_0 : decode cX2_agreeing 0 = .ok (.iconst 0, 1) := by decide +kernel
theorem dX2_agreeing_1 : decode cX2_agreeing 1 = .ok (.istore_n 1, 1) := by decide +kernel
theorem dX2_agreeing_2 : decode cX2_agreeing 2 = .ok (.iconst 0, 1) := by decide +kernel
theorem dX2_agreeing_3 : decode cX2_agreeing 3 = .ok (.istore_n 2, 1) := by decide +kernel
theorem dX2_agreeing_4 : decode cX2_agreeing 4 = .ok (.iload_n 2, 1) := by decide +kernel
theorem dX2_agreeing_5 : decode cX2_agreeing 5 = .ok (.aload_n 0, 1) := by decide +kernel
theorem dX2_agreeing_6 : decode cX2_agreeing 6 = .ok (.getfield 42, 3) := by decide +kernel
theorem dX2_agreeing_9 : decode cX2_agreeing 9 = .ok (.if_icmp .ge 27, 3) := by decide +kernel
theorem dX2_agreeing_12 : decode cX2_agreeing 12 = .ok (.iload_n 1, 1) := by decide +kernel
theorem dX2_agreeing_13 : decode cX2_agreeing 13 = .ok (.aload_n 0, 1) := by decide +kernel
theorem dX2_agreeing_14 : decode cX2_agreeing 14 = .ok (.iload_n 2, 1) := by decide +kernel
theorem dX2_agreeing_15 : decode cX2_agreeing 15 = .ok (.invokevirtual 91, 3) := by decide +kernel
theorem dX2_agreeing_18 : decode cX2_agreeing 18 = .ok (.ifCond .eq 9, 3) := by decide +kernel
theorem dX2_agreeing_21 : decode cX2_agreeing 21 = .ok (.iconst 1, 1) := by decide +kernel
theorem dX2_agreeing_22 : decode cX2_agreeing 22 = .ok (.iload_n 2, 1) := by decide +kernel
theorem dX2_agreeing_23 : decode cX2_agreeing 23 = .ok (.ishl, 1) := by decide +kernel
theorem dX2_agreeing_24 : decode cX2_agreeing 24 = .ok (.goto 4, 3) := by decide +kernel
theorem dX2_agreeing_27 : decode cX2_agreeing 27 = .ok (.iconst 0, 1) := by decide +kernel
theorem dX2_agreeing_28 : decode cX2_agreeing 28 = .ok (.ior, 1) := by decide +kernel
theorem dX2_agreeing_29 : decode cX2_agreeing 29 = .ok (.istore_n 1, 1) := by decide +kernel
theorem dX2_agreeing_30 : decode cX2_agreeing 30 = .ok (.iinc 2 1, 3) := by decide +kernel
theorem dX2_agreeing_33 : decode cX2_agreeing 33 = .ok (.goto (-29), 3) := by decide +kernel
theorem dX2_agreeing_36 : decode cX2_agreeing 36 = .ok (.iload_n 1, 1) := by decide +kernel
theorem dX2_agreeing_37 : decode cX2_agreeing 37 = .ok (.ireturn, 1) := by decide +kernel
theorem dX2_standing_0 : decode cX2_standing 0 = .ok (.iconst 0, 1) := by decide +kernel
theorem dX2_standing_1 : decode cX2_standing 1 = .ok (.istore_n 1, 1) := by decide +kernel
theorem dX2_standing_2 : decode cX2_standing 2 = .ok (.iconst 0, 1) := by decide +kernel
theorem dX2_standing_3 : decode cX2_standing 3 = .ok (.istore_n 2, 1) := by decide +kernel
theorem dX2_standing_4 : decode cX2_standing 4 = .ok (.iload_n 2, 1) := by decide +kernel
theorem dX2_standing_5 : decode cX2_standing 5 = .ok (.aload_n 0, 1) := by decide +kernel
theorem dX2_standing_6 : decode cX2_standing 6 = .ok (.getfield 42, 3) := by decide +kernel
theorem dX2_standing_9 : decode cX2_standing 9 = .ok (.if_icmp .ge 38, 3) := by decide +kernel
theorem dX2_standing_12 : decode cX2_standing 12 = .ok (.iload_n 1, 1) := by decide +kernel
theorem dX2_standing_13 : decode cX2_standing 13 = .ok (.aload_n 0, 1) := by decide +kernel
theorem dX2_standing_14 : decode cX2_standing 14 = .ok (.aload_n 0, 1) := by decide +kernel
theorem dX2_standing_15 : decode cX2_standing 15 = .ok (.getfield 15, 3) := by decide +kernel
theorem dX2_standing_18 : decode cX2_standing 18 = .ok (.iload_n 2, 1) := by decide +kernel
theorem dX2_standing_19 : decode cX2_standing 19 = .ok (.iaload, 1) := by decide +kernel
theorem dX2_standing_20 : decode cX2_standing 20 = .ok (.aload_n 0, 1) := by decide +kernel
theorem dX2_standing_21 : decode cX2_standing 21 = .ok (.getfield 18, 3) := by decide +kernel
theorem dX2_standing_24 : decode cX2_standing 24 = .ok (.iload_n 2, 1) := by decide +kernel
theorem dX2_standing_25 : decode cX2_standing 25 = .ok (.iaload, 1) := by decide +kernel
theorem dX2_standing_26 : decode cX2_standing 26 = .ok (.invokevirtual 95, 3) := by decide +kernel
theorem dX2_standing_29 : decode cX2_standing 29 = .ok (.ifCond .eq 9, 3) := by decide +kernel
theorem dX2_standing_32 : decode cX2_standing 32 = .ok (.iconst 1, 1) := by decide +kernel
theorem dX2_standing_33 : decode cX2_standing 33 = .ok (.iload_n 2, 1) := by decide +kernel
theorem dX2_standing_34 : decode cX2_standing 34 = .ok (.ishl, 1) := by decide +kernel
theorem dX2_standing_35 : decode cX2_standing 35 = .ok (.goto 4, 3) := by decide +kernel
theorem dX2_standing_38 : decode cX2_standing 38 = .ok (.iconst 0, 1) := by decide +kernel
theorem dX2_standing_39 : decode cX2_standing 39 = .ok (.ior, 1) := by decide +kernel
theorem dX2_standing_40 : decode cX2_standing 40 = .ok (.istore_n 1, 1) := by decide +kernel
theorem dX2_standing_41 : decode cX2_standing 41 = .ok (.iinc 2 1, 3) := by decide +kernel
theorem dX2_standing_44 : decode cX2_standing 44 = .ok (.goto (-40), 3) := by decide +kernel
theorem dX2_standing_47 : decode cX2_standing 47 = .ok (.iload_n 1, 1) := by decide +kernel
theorem dX2_standing_48 : decode cX2_standing 48 = .ok (.ireturn, 1) := by decide +kernel
theorem dX2_moveHoof_0 : decode cX2_moveHoof 0 = .ok (.aload_n 0, 1) := by decide +kernel
theorem dX2_moveHoof_1 : decode cX2_moveHoof 1 = .ok (.iload_n 1, 1) := by decide +kernel
theorem dX2_moveHoof_2 : decode cX2_moveHoof 2 = .ok (.aload_n 0, 1) := by decide +kernel
theorem dX2_moveHoof_3 : decode cX2_moveHoof 3 = .ok (.getfield 61, 3) := by decide +kernel
theorem dX2_moveHoof_6 : decode cX2_moveHoof 6 = .ok (.invokevirtual 85, 3) := by decide +kernel
theorem dX2_moveHoof_9 : decode cX2_moveHoof 9 = .ok (.istore_n 2, 1) := by decide +kernel
theorem dX2_moveHoof_10 : decode cX2_moveHoof 10 = .ok (.aload_n 0, 1) := by decide +kernel
theorem dX2_moveHoof_11 : decode cX2_moveHoof 11 = .ok (.iload_n 1, 1) := by decide +kernel
theorem dX2_moveHoof_12 : decode cX2_moveHoof 12 = .ok (.invokevirtual 88, 3) := by decide +kernel
theorem dX2_moveHoof_15 : decode cX2_moveHoof 15 = .ok (.iload_n 2, 1) := by decide +kernel
theorem dX2_moveHoof_16 : decode cX2_moveHoof 16 = .ok (.isub, 1) := by decide +kernel
theorem dX2_moveHoof_17 : decode cX2_moveHoof 17 = .ok (.invokestatic 99, 3) := by decide +kernel
theorem dX2_moveHoof_20 : decode cX2_moveHoof 20 = .ok (.istore_n 3, 1) := by decide +kernel
theorem dX2_moveHoof_21 : decode cX2_moveHoof 21 = .ok (.iload_n 2, 1) := by decide +kernel
theorem dX2_moveHoof_22 : decode cX2_moveHoof 22 = .ok (.bipush (-4), 2) := by decide +kernel
theorem dX2_moveHoof_24 : decode cX2_moveHoof 24 = .ok (.if_icmp .eq 7, 3) := by decide +kernel
theorem dX2_moveHoof_27 : decode cX2_moveHoof 27 = .ok (.iload_n 3, 1) := by decide +kernel
theorem dX2_moveHoof_28 : decode cX2_moveHoof 28 = .ok (.ifCond .ne 5, 3) := by decide +kernel
theorem dX2_moveHoof_31 : decode cX2_moveHoof 31 = .ok (.iconst 0, 1) := by decide +kernel
theorem dX2_moveHoof_32 : decode cX2_moveHoof 32 = .ok (.ireturn, 1) := by decide +kernel
theorem dX2_moveHoof_33 : decode cX2_moveHoof 33 = .ok (.iconst 0, 1) := by decide +kernel
theorem dX2_moveHoof_34 : decode cX2_moveHoof 34 = .ok (.istore 4, 2) := by decide +kernel
theorem dX2_moveHoof_36 : decode cX2_moveHoof 36 = .ok (.iload 4, 2) := by decide +kernel
theorem dX2_moveHoof_38 : decode cX2_moveHoof 38 = .ok (.iconst 4, 1) := by decide +kernel
theorem dX2_moveHoof_39 : decode cX2_moveHoof 39 = .ok (.if_icmp .ge 67, 3) := by decide +kernel
theorem dX2_moveHoof_42 : decode cX2_moveHoof 42 = .ok (.aload_n 0, 1) := by decide +kernel
theorem dX2_moveHoof_43 : decode cX2_moveHoof 43 = .ok (.getfield 15, 3) := by decide +kernel
theorem dX2_moveHoof_46 : decode cX2_moveHoof 46 = .ok (.iload_n 1, 1) := by decide +kernel
theorem dX2_moveHoof_47 : decode cX2_moveHoof 47 = .ok (.iaload, 1) := by decide +kernel
theorem dX2_moveHoof_48 : decode cX2_moveHoof 48 = .ok (.iconst 1, 1) := by decide +kernel
theorem dX2_moveHoof_49 : decode cX2_moveHoof 49 = .ok (.iload 4, 2) := by decide +kernel
theorem dX2_moveHoof_51 : decode cX2_moveHoof 51 = .ok (.ishl, 1) := by decide +kernel
theorem dX2_moveHoof_52 : decode cX2_moveHoof 52 = .ok (.ixor, 1) := by decide +kernel
theorem dX2_moveHoof_53 : decode cX2_moveHoof 53 = .ok (.istore 5, 2) := by decide +kernel
theorem dX2_moveHoof_55 : decode cX2_moveHoof 55 = .ok (.aload_n 0, 1) := by decide +kernel
theorem dX2_moveHoof_56 : decode cX2_moveHoof 56 = .ok (.getfield 9, 3) := by decide +kernel
theorem dX2_moveHoof_59 : decode cX2_moveHoof 59 = .ok (.iload_n 1, 1) := by decide +kernel
theorem dX2_moveHoof_60 : decode cX2_moveHoof 60 = .ok (.iaload, 1) := by decide +kernel
theorem dX2_moveHoof_61 : decode cX2_moveHoof 61 = .ok (.iload 5, 2) := by decide +kernel
theorem dX2_moveHoof_63 : decode cX2_moveHoof 63 = .ok (.invokestatic 73, 3) := by decide +kernel
theorem dX2_moveHoof_66 : decode cX2_moveHoof 66 = .ok (.iload_n 2, 1) := by decide +kernel
theorem dX2_moveHoof_67 : decode cX2_moveHoof 67 = .ok (.isub, 1) := by decide +kernel
theorem dX2_moveHoof_68 : decode cX2_moveHoof 68 = .ok (.invokestatic 99, 3) := by decide +kernel
theorem dX2_moveHoof_71 : decode cX2_moveHoof 71 = .ok (.iload_n 3, 1) := by decide +kernel
theorem dX2_moveHoof_72 : decode cX2_moveHoof 72 = .ok (.if_icmp .ge 28, 3) := by decide +kernel
theorem dX2_moveHoof_75 : decode cX2_moveHoof 75 = .ok (.aload_n 0, 1) := by decide +kernel
theorem dX2_moveHoof_76 : decode cX2_moveHoof 76 = .ok (.iload 5, 2) := by decide +kernel
theorem dX2_moveHoof_78 : decode cX2_moveHoof 78 = .ok (.aload_n 0, 1) := by decide +kernel
theorem dX2_moveHoof_79 : decode cX2_moveHoof 79 = .ok (.getfield 18, 3) := by decide +kernel
theorem dX2_moveHoof_82 : decode cX2_moveHoof 82 = .ok (.iload_n 1, 1) := by decide +kernel
theorem dX2_moveHoof_83 : decode cX2_moveHoof 83 = .ok (.iaload, 1) := by decide +kernel
theorem dX2_moveHoof_84 : decode cX2_moveHoof 84 = .ok (.invokevirtual 95, 3) := by decide +kernel
theorem dX2_moveHoof_87 : decode cX2_moveHoof 87 = .ok (.ifCond .eq 13, 3) := by decide +kernel
theorem dX2_moveHoof_90 : decode cX2_moveHoof 90 = .ok (.aload_n 0, 1) := by decide +kernel
theorem dX2_moveHoof_91 : decode cX2_moveHoof 91 = .ok (.getfield 15, 3) := by decide +kernel
theorem dX2_moveHoof_94 : decode cX2_moveHoof 94 = .ok (.iload_n 1, 1) := by decide +kernel
theorem dX2_moveHoof_95 : decode cX2_moveHoof 95 = .ok (.iload 5, 2) := by decide +kernel
theorem dX2_moveHoof_97 : decode cX2_moveHoof 97 = .ok (.iastore, 1) := by decide +kernel
theorem dX2_moveHoof_98 : decode cX2_moveHoof 98 = .ok (.iconst 1, 1) := by decide +kernel
theorem dX2_moveHoof_99 : decode cX2_moveHoof 99 = .ok (.ireturn, 1) := by decide +kernel
theorem dX2_moveHoof_100 : decode cX2_moveHoof 100 = .ok (.iinc 4 1, 3) := by decide +kernel
theorem dX2_moveHoof_103 : decode cX2_moveHoof 103 = .ok (.goto (-67), 3) := by decide +kernel
theorem dX2_moveHoof_106 : decode cX2_moveHoof 106 = .ok (.iconst 0, 1) := by decide +kernel
theorem dX2_moveHoof_107 : decode cX2_moveHoof 107 = .ok (.ireturn, 1) := by decide +kernel
theorem dX2_passDay_0 : decode cX2_passDay 0 = .ok (.iconst 0, 1) := by decide +kernel
theorem dX2_passDay_1 : decode cX2_passDay 1 = .ok (.istore_n 1, 1) := by decide +kernel
theorem dX2_passDay_2 : decode cX2_passDay 2 = .ok (.iconst 0, 1) := by decide +kernel
theorem dX2_passDay_3 : decode cX2_passDay 3 = .ok (.istore_n 2, 1) := by decide +kernel
theorem dX2_passDay_4 : decode cX2_passDay 4 = .ok (.iload_n 2, 1) := by decide +kernel
theorem dX2_passDay_5 : decode cX2_passDay 5 = .ok (.aload_n 0, 1) := by decide +kernel
theorem dX2_passDay_6 : decode cX2_passDay 6 = .ok (.getfield 42, 3) := by decide +kernel
theorem dX2_passDay_9 : decode cX2_passDay 9 = .ok (.if_icmp .ge 17, 3) := by decide +kernel
theorem dX2_passDay_12 : decode cX2_passDay 12 = .ok (.iload_n 1, 1) := by decide +kernel
theorem dX2_passDay_13 : decode cX2_passDay 13 = .ok (.aload_n 0, 1) := by decide +kernel
theorem dX2_passDay_14 : decode cX2_passDay 14 = .ok (.iload_n 2, 1) := by decide +kernel
theorem dX2_passDay_15 : decode cX2_passDay 15 = .ok (.invokevirtual 104, 3) := by decide +kernel
theorem dX2_passDay_18 : decode cX2_passDay 18 = .ok (.iadd, 1) := by decide +kernel
theorem dX2_passDay_19 : decode cX2_passDay 19 = .ok (.istore_n 1, 1) := by decide +kernel
theorem dX2_passDay_20 : decode cX2_passDay 20 = .ok (.iinc 2 1, 3) := by decide +kernel
theorem dX2_passDay_23 : decode cX2_passDay 23 = .ok (.goto (-19), 3) := by decide +kernel
theorem dX2_passDay_26 : decode cX2_passDay 26 = .ok (.aload_n 0, 1) := by decide +kernel
theorem dX2_passDay_27 : decode cX2_passDay 27 = .ok (.sipush 9999, 3) := by decide +kernel
theorem dX2_passDay_30 : decode cX2_passDay 30 = .ok (.aload_n 0, 1) := by decide +kernel
theorem dX2_passDay_31 : decode cX2_passDay 31 = .ok (.getfield 64, 3) := by decide +kernel
theorem dX2_passDay_34 : decode cX2_passDay 34 = .ok (.iload_n 1, 1) := by decide +kernel
theorem dX2_passDay_35 : decode cX2_passDay 35 = .ok (.iadd, 1) := by decide +kernel
theorem dX2_passDay_36 : decode cX2_passDay 36 = .ok (.invokestatic 107, 3) := by decide +kernel
theorem dX2_passDay_39 : decode cX2_passDay 39 = .ok (.putfield 64, 3) := by decide +kernel
theorem dX2_passDay_42 : decode cX2_passDay 42 = .ok (.aload_n 0, 1) := by decide +kernel
theorem dX2_passDay_43 : decode cX2_passDay 43 = .ok (.dup, 1) := by decide +kernel
theorem dX2_passDay_44 : decode cX2_passDay 44 = .ok (.getfield 61, 3) := by decide +kernel
theorem dX2_passDay_47 : decode cX2_passDay 47 = .ok (.iconst 1, 1) := by decide +kernel
theorem dX2_passDay_48 : decode cX2_passDay 48 = .ok (.iadd, 1) := by decide +kernel
theorem dX2_passDay_49 : decode cX2_passDay 49 = .ok (.putfield 61, 3) := by decide +kernel
theorem dX2_passDay_52 : decode cX2_passDay 52 = .ok (.iload_n 1, 1) := by decide +kernel
theorem dX2_passDay_53 : decode cX2_passDay 53 = .ok (.ireturn, 1) := by decide +kernel
theorem dX2_passDays_0 : decode cX2_passDays 0 = .ok (.aload_n 0, 1) := by decide +kernel
theorem dX2_passDays_1 : decode cX2_passDays 1 = .ok (.getfield 61, 3) := by decide +kernel
theorem dX2_passDays_4 : decode cX2_passDays 4 = .ok (.iload_n 1, 1) := by decide +kernel
theorem dX2_passDays_5 : decode cX2_passDays 5 = .ok (.iadd, 1) := by decide +kernel
theorem dX2_passDays_6 : decode cX2_passDays 6 = .ok (.istore_n 2, 1) := by decide +kernel
theorem dX2_passDays_7 : decode cX2_passDays 7 = .ok (.iconst 0, 1) := by decide +kernel
theorem dX2_passDays_8 : decode cX2_passDays 8 = .ok (.istore_n 3, 1) := by decide +kernel
theorem dX2_passDays_9 : decode cX2_passDays 9 = .ok (.iconst 0, 1) := by decide +kernel
theorem dX2_passDays_10 : decode cX2_passDays 10 = .ok (.istore 4, 2) := by decide +kernel
theorem dX2_passDays_12 : decode cX2_passDays 12 = .ok (.iload 4, 2) := by decide +kernel
theorem dX2_passDays_14 : decode cX2_passDays 14 = .ok (.iload_n 1, 1) := by decide +kernel
theorem dX2_passDays_15 : decode cX2_passDays 15 = .ok (.if_icmp .ge 42, 3) := by decide +kernel
theorem dX2_passDays_18 : decode cX2_passDays 18 = .ok (.aload_n 0, 1) := by decide +kernel
theorem dX2_passDays_19 : decode cX2_passDays 19 = .ok (.getfield 61, 3) := by decide +kernel
theorem dX2_passDays_22 : decode cX2_passDays 22 = .ok (.iload_n 2, 1) := by decide +kernel
theorem dX2_passDays_23 : decode cX2_passDays 23 = .ok (.if_icmp .ge 34, 3) := by decide +kernel
theorem dX2_passDays_26 : decode cX2_passDays 26 = .ok (.aload_n 0, 1) := by decide +kernel
theorem dX2_passDays_27 : decode cX2_passDays 27 = .ok (.invokevirtual 110, 3) := by decide +kernel
theorem dX2_passDays_30 : decode cX2_passDays 30 = .ok (.istore 5, 2) := by decide +kernel
theorem dX2_passDays_32 : decode cX2_passDays 32 = .ok (.iload_n 3, 1) := by decide +kernel
theorem dX2_passDays_33 : decode cX2_passDays 33 = .ok (.iload 5, 2) := by decide +kernel
theorem dX2_passDays_35 : decode cX2_passDays 35 = .ok (.iadd, 1) := by decide +kernel
theorem dX2_passDays_36 : decode cX2_passDays 36 = .ok (.istore_n 3, 1) := by decide +kernel
theorem dX2_passDays_37 : decode cX2_passDays 37 = .ok (.iload 5, 2) := by decide +kernel
theorem dX2_passDays_39 : decode cX2_passDays 39 = .ok (.ifCond .ne 12, 3) := by decide +kernel
theorem dX2_passDays_42 : decode cX2_passDays 42 = .ok (.aload_n 0, 1) := by decide +kernel
theorem dX2_passDays_43 : decode cX2_passDays 43 = .ok (.aload_n 0, 1) := by decide +kernel
theorem dX2_passDays_44 : decode cX2_passDays 44 = .ok (.iload_n 2, 1) := by decide +kernel
theorem dX2_passDays_45 : decode cX2_passDays 45 = .ok (.invokevirtual 114, 3) := by decide +kernel
theorem dX2_passDays_48 : decode cX2_passDays 48 = .ok (.putfield 61, 3) := by decide +kernel
theorem dX2_passDays_51 : decode cX2_passDays 51 = .ok (.iinc 4 1, 3) := by decide +kernel
theorem dX2_passDays_54 : decode cX2_passDays 54 = .ok (.goto (-42), 3) := by decide +kernel
theorem dX2_passDays_57 : decode cX2_passDays 57 = .ok (.iload_n 3, 1) := by decide +kernel
theorem dX2_passDays_58 : decode cX2_passDays 58 = .ok (.ireturn, 1) := by decide +kernel
theorem dX2_dayOfNextReport_0 : decode cX2_dayOfNextReport 0 = .ok (.iload_n 1, 1) := by decide +kernel
theorem dX2_dayOfNextReport_1 : decode cX2_dayOfNextReport 1 = .ok (.istore_n 2, 1) := by decide +kernel
theorem dX2_dayOfNextReport_2 : decode cX2_dayOfNextReport 2 = .ok (.iconst 0, 1) := by decide +kernel
theorem dX2_dayOfNextReport_3 : decode cX2_dayOfNextReport 3 = .ok (.istore_n 3, 1) := by decide +kernel
theorem dX2_dayOfNextReport_4 : decode cX2_dayOfNextReport 4 = .ok (.iload_n 3, 1) := by decide +kernel
theorem dX2_dayOfNextReport_5 : decode cX2_dayOfNextReport 5 = .ok (.aload_n 0, 1) := by decide +kernel
theorem dX2_dayOfNextReport_6 : decode cX2_dayOfNextReport 6 = .ok (.getfield 55, 3) := by decide +kernel
theorem dX2_dayOfNextReport_9 : decode cX2_dayOfNextReport 9 = .ok (.if_icmp .ge 39, 3) := by decide +kernel
theorem dX2_dayOfNextReport_12 : decode cX2_dayOfNextReport 12 = .ok (.aload_n 0, 1) := by decide +kernel
theorem dX2_dayOfNextReport_13 : decode cX2_dayOfNextReport 13 = .ok (.getfield 24, 3) := by decide +kernel
theorem dX2_dayOfNextReport_16 : decode cX2_dayOfNextReport 16 = .ok (.iload_n 3, 1) := by decide +kernel
theorem dX2_dayOfNextReport_17 : decode cX2_dayOfNextReport 17 = .ok (.iaload, 1) := by decide +kernel
theorem dX2_dayOfNextReport_18 : decode cX2_dayOfNextReport 18 = .ok (.aload_n 0, 1) := by decide +kernel
theorem dX2_dayOfNextReport_19 : decode cX2_dayOfNextReport 19 = .ok (.getfield 61, 3) := by decide +kernel
theorem dX2_dayOfNextReport_22 : decode cX2_dayOfNextReport 22 = .ok (.if_icmp .lt 20, 3) := by decide +kernel
theorem dX2_dayOfNextReport_25 : decode cX2_dayOfNextReport 25 = .ok (.aload_n 0, 1) := by decide +kernel
theorem dX2_dayOfNextReport_26 : decode cX2_dayOfNextReport 26 = .ok (.getfield 24, 3) := by decide +kernel
theorem dX2_dayOfNextReport_29 : decode cX2_dayOfNextReport 29 = .ok (.iload_n 3, 1) := by decide +kernel
theorem dX2_dayOfNextReport_30 : decode cX2_dayOfNextReport 30 = .ok (.iaload, 1) := by decide +kernel
theorem dX2_dayOfNextReport_31 : decode cX2_dayOfNextReport 31 = .ok (.iload_n 2, 1) := by decide +kernel
theorem dX2_dayOfNextReport_32 : decode cX2_dayOfNextReport 32 = .ok (.if_icmp .ge 10, 3) := by decide +kernel
theorem dX2_dayOfNextReport_35 : decode cX2_dayOfNextReport 35 = .ok (.aload_n 0, 1) := by decide +kernel
theorem dX2_dayOfNextReport_36 : decode cX2_dayOfNextReport 36 = .ok (.getfield 24, 3) := by decide +kernel
theorem dX2_dayOfNextReport_39 : decode cX2_dayOfNextReport 39 = .ok (.iload_n 3, 1) := by decide +kernel
theorem dX2_dayOfNextReport_40 : decode cX2_dayOfNextReport 40 = .ok (.iaload, 1) := by decide +kernel
theorem dX2_dayOfNextReport_41 : decode cX2_dayOfNextReport 41 = .ok (.istore_n 2, 1) := by decide +kernel
theorem dX2_dayOfNextReport_42 : decode cX2_dayOfNextReport 42 = .ok (.iinc 3 1, 3) := by decide +kernel
theorem dX2_dayOfNextReport_45 : decode cX2_dayOfNextReport 45 = .ok (.goto (-41), 3) := by decide +kernel
theorem dX2_dayOfNextReport_48 : decode cX2_dayOfNextReport 48 = .ok (.iload_n 2, 1) := by decide +kernel
theorem dX2_dayOfNextReport_49 : decode cX2_dayOfNextReport 49 = .ok (.ireturn, 1) := by decide +kernel
theorem dX3_init_0 : decode cX3_init 0 = .ok (.aload_n 0, 1) := by decide +kernel
theorem dX3_init_1 : decode cX3_init 1 = .ok (.invokespecial 3, 3) := by decide +kernel
theorem dX3_init_4 : decode cX3_init 4 = .ok (.aload_n 0, 1) := by decide +kernel
theorem dX3_init_5 : decode cX3_init 5 = .ok (.sipush 160, 3) := by decide +kernel
theorem dX3_init_8 : decode cX3_init 8 = .ok (.newarray .byte, 2) := by decide +kernel
theorem dX3_init_10 : decode cX3_init 10 = .ok (.putfield 11, 3) := by decide +kernel
theorem dX3_init_13 : decode cX3_init 13 = .ok (.return_, 1) := by decide +kernel
theorem dX3_append_0 : decode cX3_append 0 = .ok (.aload_n 0, 1) := by decide +kernel
theorem dX3_append_1 : decode cX3_append 1 = .ok (.getfield 15, 3) := by decide +kernel
theorem dX3_append_4 : decode cX3_append 4 = .ok (.sipush 160, 3) := by decide +kernel
theorem dX3_append_7 : decode cX3_append 7 = .ok (.if_icmp .lt 5, 3) := by decide +kernel
theorem dX3_append_10 : decode cX3_append 10 = .ok (.iconst 0, 1) := by decide +kernel
theorem dX3_append_11 : decode cX3_append 11 = .ok (.ireturn, 1) := by decide +kernel
theorem dX3_append_12 : decode cX3_append 12 = .ok (.aload_n 0, 1) := by decide +kernel
theorem dX3_append_13 : decode cX3_append 13 = .ok (.getfield 11, 3) := by decide +kernel
theorem dX3_append_16 : decode cX3_append 16 = .ok (.aload_n 0, 1) := by decide +kernel
theorem dX3_append_17 : decode cX3_append 17 = .ok (.getfield 15, 3) := by decide +kernel
theorem dX3_append_20 : decode cX3_append 20 = .ok (.iload_n 1, 1) := by decide +kernel
theorem dX3_append_21 : decode cX3_append 21 = .ok (.i2b, 1) := by decide +kernel
theorem dX3_append_22 : decode cX3_append 22 = .ok (.bastore, 1) := by decide +kernel
theorem dX3_append_23 : decode cX3_append 23 = .ok (.aload_n 0, 1) := by decide +kernel
theorem dX3_append_24 : decode cX3_append 24 = .ok (.dup, 1) := by decide +kernel
theorem dX3_append_25 : decode cX3_append 25 = .ok (.getfield 15, 3) := by decide +kernel
theorem dX3_append_28 : decode cX3_append 28 = .ok (.iconst 1, 1) := by decide +kernel
theorem dX3_append_29 : decode cX3_append 29 = .ok (.iadd, 1) := by decide +kernel
theorem dX3_append_30 : decode cX3_append 30 = .ok (.putfield 15, 3) := by decide +kernel
theorem dX3_append_33 : decode cX3_append 33 = .ok (.iconst 1, 1) := by decide +kernel
theorem dX3_append_34 : decode cX3_append 34 = .ok (.ireturn, 1) := by decide +kernel
theorem dX3_parse_0 : decode cX3_parse 0 = .ok (.aload_n 1, 1) := by decide +kernel
theorem dX3_parse_1 : decode cX3_parse 1 = .ok (.invokevirtual 19, 3) := by decide +kernel
theorem dX3_parse_4 : decode cX3_parse 4 = .ok (.aload_n 0, 1) := by decide +kernel
theorem dX3_parse_5 : decode cX3_parse 5 = .ok (.iconst 0, 1) := by decide +kernel
theorem dX3_parse_6 : decode cX3_parse 6 = .ok (.putfield 24, 3) := by decide +kernel
theorem dX3_parse_9 : decode cX3_parse 9 = .ok (.aload_n 0, 1) := by decide +kernel
theorem dX3_parse_10 : decode cX3_parse 10 = .ok (.iconst 0, 1) := by decide +kernel
theorem dX3_parse_11 : decode cX3_parse 11 = .ok (.putfield 27, 3) := by decide +kernel
theorem dX3_parse_14 : decode cX3_parse 14 = .ok (.aload_n 0, 1) := by decide +kernel
theorem dX3_parse_15 : decode cX3_parse 15 = .ok (.iconst 0, 1) := by decide +kernel
theorem dX3_parse_16 : decode cX3_parse 16 = .ok (.putfield 30, 3) := by decide +kernel
theorem dX3_parse_19 : decode cX3_parse 19 = .ok (.aload_n 0, 1) := by decide +kernel
theorem dX3_parse_20 : decode cX3_parse 20 = .ok (.iconst 0, 1) := by decide +kernel
theorem dX3_parse_21 : decode cX3_parse 21 = .ok (.putfield 33, 3) := by decide +kernel
theorem dX3_parse_24 : decode cX3_parse 24 = .ok (.aload_n 0, 1) := by decide +kernel
theorem dX3_parse_25 : decode cX3_parse 25 = .ok (.iconst 0, 1) := by decide +kernel
theorem dX3_parse_26 : decode cX3_parse 26 = .ok (.putfield 36, 3) := by decide +kernel
theorem dX3_parse_29 : decode cX3_parse 29 = .ok (.aload_n 0, 1) := by decide +kernel
theorem dX3_parse_30 : decode cX3_parse 30 = .ok (.iconst 0, 1) := by decide +kernel
theorem dX3_parse_31 : decode cX3_parse 31 = .ok (.putfield 40, 3) := by decide +kernel
theorem dX3_parse_34 : decode cX3_parse 34 = .ok (.aload_n 0, 1) := by decide +kernel
theorem dX3_parse_35 : decode cX3_parse 35 = .ok (.invokevirtual 43, 3) := by decide +kernel
theorem dX3_parse_38 : decode cX3_parse 38 = .ok (.iconst 0, 1) := by decide +kernel
theorem dX3_parse_39 : decode cX3_parse 39 = .ok (.istore_n 2, 1) := by decide +kernel
theorem dX3_parse_40 : decode cX3_parse 40 = .ok (.iload_n 2, 1) := by decide +kernel
theorem dX3_parse_41 : decode cX3_parse 41 = .ok (.sipush 160, 3) := by decide +kernel
theorem dX3_parse_44 : decode cX3_parse 44 = .ok (.if_icmp .ge 42, 3) := by decide +kernel
theorem dX3_parse_47 : decode cX3_parse 47 = .ok (.aload_n 0, 1) := by decide +kernel
theorem dX3_parse_48 : decode cX3_parse 48 = .ok (.getfield 24, 3) := by decide +kernel
theorem dX3_parse_51 : decode cX3_parse 51 = .ok (.ifCond .ne 35, 3) := by decide +kernel
theorem dX3_parse_54 : decode cX3_parse 54 = .ok (.aload_n 0, 1) := by decide +kernel
theorem dX3_parse_55 : decode cX3_parse 55 = .ok (.getfield 46, 3) := by decide +kernel
theorem dX3_parse_58 : decode cX3_parse 58 = .ok (.ifCond .eq 28, 3) := by decide +kernel
theorem dX3_parse_61 : decode cX3_parse 61 = .ok (.aload_n 0, 1) := by decide +kernel
theorem dX3_parse_62 : decode cX3_parse 62 = .ok (.aload_n 1, 1) := by decide +kernel
theorem dX3_parse_63 : decode cX3_parse 63 = .ok (.invokevirtual 49, 3) := by decide +kernel
theorem dX3_parse_66 : decode cX3_parse 66 = .ok (.aload_n 0, 1) := by decide +kernel
theorem dX3_parse_67 : decode cX3_parse 67 = .ok (.dup, 1) := by decide +kernel
theorem dX3_parse_68 : decode cX3_parse 68 = .ok (.getfield 30, 3) := by decide +kernel
theorem dX3_parse_71 : decode cX3_parse 71 = .ok (.iconst 1, 1) := by decide +kernel
theorem dX3_parse_72 : decode cX3_parse 72 = .ok (.iadd, 1) := by decide +kernel
theorem dX3_parse_73 : decode cX3_parse 73 = .ok (.putfield 30, 3) := by decide +kernel
theorem dX3_parse_76 : decode cX3_parse 76 = .ok (.aload_n 0, 1) := by decide +kernel
theorem dX3_parse_77 : decode cX3_parse 77 = .ok (.invokevirtual 43, 3) := by decide +kernel
theorem dX3_parse_80 : decode cX3_parse 80 = .ok (.iinc 2 1, 3) := by decide +kernel
theorem dX3_parse_83 : decode cX3_parse 83 = .ok (.goto (-43), 3) := by decide +kernel
theorem dX3_parse_86 : decode cX3_parse 86 = .ok (.aload_n 0, 1) := by decide +kernel
theorem dX3_parse_87 : decode cX3_parse 87 = .ok (.getfield 24, 3) := by decide +kernel
theorem dX3_parse_90 : decode cX3_parse 90 = .ok (.ifCond .ne 20, 3) := by decide +kernel
theorem dX3_parse_93 : decode cX3_parse 93 = .ok (.aload_n 1, 1) := by decide +kernel
theorem dX3_parse_94 : decode cX3_parse 94 = .ok (.invokestatic 53, 3) := by decide +kernel
theorem dX3_parse_97 : decode cX3_parse 97 = .ok (.ifCond .eq 13, 3) := by decide +kernel
theorem dX3_parse_100 : decode cX3_parse 100 = .ok (.aload_n 0, 1) := by decide +kernel
theorem dX3_parse_101 : decode cX3_parse 101 = .ok (.bipush 6, 2) := by decide +kernel
theorem dX3_parse_103 : decode cX3_parse 103 = .ok (.aload_n 0, 1) := by decide +kernel
theorem dX3_parse_104 : decode cX3_parse 104 = .ok (.getfield 15, 3) := by decide +kernel
theorem dX3_parse_107 : decode cX3_parse 107 = .ok (.invokevirtual 57, 3) := by decide +kernel
theorem dX3_parse_110 : decode cX3_parse 110 = .ok (.return_, 1) := by decide +kernel
theorem dX3_fail_0 : decode cX3_fail 0 = .ok (.aload_n 0, 1) := by decide +kernel
theorem dX3_fail_1 : decode cX3_fail 1 = .ok (.getfield 24, 3) := by decide +kernel
theorem dX3_fail_4 : decode cX3_fail 4 = .ok (.ifCond .ne 13, 3) := by decide +kernel
theorem dX3_fail_7 : decode cX3_fail 7 = .ok (.aload_n 0, 1) := by decide +kernel
theorem dX3_fail_8 : decode cX3_fail 8 = .ok (.iload_n 1, 1) := by decide +kernel
theorem dX3_fail_9 : decode cX3_fail 9 = .ok (.putfield 24, 3) := by decide +kernel
theorem dX3_fail_12 : decode cX3_fail 12 = .ok (.aload_n 0, 1) := by decide +kernel
theorem dX3_fail_13 : decode cX3_fail 13 = .ok (.iload_n 2, 1) := by decide +kernel
theorem dX3_fail_14 : decode cX3_fail 14 = .ok (.putfield 27, 3) := by decide +kernel
theorem dX3_fail_17 : decode cX3_fail 17 = .ok (.return_, 1) := by decide +kernel
theorem dX3_byteAt_0 : decode cX3_byteAt 0 = .ok (.iload_n 1, 1) := by decide +kernel
theorem dX3_byteAt_1 : decode cX3_byteAt 1 = .ok (.ifCond .lt 27, 3) := by decide +kernel
theorem dX3_byteAt_4 : decode cX3_byteAt 4 = .ok (.iload_n 1, 1) := by decide +kernel
theorem dX3_byteAt_5 : decode cX3_byteAt 5 = .ok (.aload_n 0, 1) := by decide +kernel
theorem dX3_byteAt_6 : decode cX3_byteAt 6 = .ok (.getfield 15, 3) := by decide +kernel
theorem dX3_byteAt_9 : decode cX3_byteAt 9 = .ok (.if_icmp .ge 19, 3) := by decide +kernel
theorem dX3_byteAt_12 : decode cX3_byteAt 12 = .ok (.iload_n 1, 1) := by decide +kernel
theorem dX3_byteAt_13 : decode cX3_byteAt 13 = .ok (.sipush 160, 3) := by decide +kernel
theorem dX3_byteAt_16 : decode cX3_byteAt 16 = .ok (.if_icmp .ge 12, 3) := by decide +kernel
theorem dX3_byteAt_19 : decode cX3_byteAt 19 = .ok (.aload_n 0, 1) := by decide +kernel
theorem dX3_byteAt_20 : decode cX3_byteAt 20 = .ok (.getfield 11, 3) := by decide +kernel
theorem dX3_byteAt_23 : decode cX3_byteAt 23 = .ok (.iload_n 1, 1) := by decide +kernel
theorem dX3_byteAt_24 : decode cX3_byteAt 24 = .ok (.baload, 1) := by decide +kernel
theorem dX3_byteAt_25 : decode cX3_byteAt 25 = .ok (.goto 4, 3) := by decide +kernel
theorem dX3_byteAt_28 : decode cX3_byteAt 28 = .ok (.iconst (-1), 1) := by decide +kernel
theorem dX3_byteAt_29 : decode cX3_byteAt 29 = .ok (.ireturn, 1) := by decide +kernel
theorem dX3_isLetter_0 : decode cX3_isLetter 0 = .ok (.iload_n 0, 1) := by decide +kernel
theorem dX3_isLetter_1 : decode cX3_isLetter 1 = .ok (.bipush 97, 2) := by decide +kernel
theorem dX3_isLetter_3 : decode cX3_isLetter 3 = .ok (.if_icmp .lt 13, 3) := by decide +kernel
theorem dX3_isLetter_6 : decode cX3_isLetter 6 = .ok (.iload_n 0, 1) := by decide +kernel
theorem dX3_isLetter_7 : decode cX3_isLetter 7 = .ok (.bipush 122, 2) := by decide +kernel
theorem dX3_isLetter_9 : decode cX3_isLetter 9 = .ok (.if_icmp .gt 7, 3) := by decide +kernel
theorem dX3_isLetter_12 : decode cX3_isLetter 12 = .ok (.iconst 1, 1) := by decide +kernel
theorem dX3_isLetter_13 : decode cX3_isLetter 13 = .ok (.goto 4, 3) := by decide +kernel
theorem dX3_isLetter_16 : decode cX3_isLetter 16 = .ok (.iconst 0, 1) := by decide +kernel
theorem dX3_isLetter_17 : decode cX3_isLetter 17 = .ok (.ireturn, 1) := by decide +kernel
theorem dX3_isFigure_0 : decode cX3_isFigure 0 = .ok (.iload_n 0, 1) := by decide +kernel
theorem dX3_isFigure_1 : decode cX3_isFigure 1 = .ok (.bipush 48, 2) := by decide +kernel
theorem dX3_isFigure_3 : decode cX3_isFigure 3 = .ok (.if_icmp .lt 13, 3) := by decide +kernel
theorem dX3_isFigure_6 : decode cX3_isFigure 6 = .ok (.iload_n 0, 1) := by decide +kernel
theorem dX3_isFigure_7 : decode cX3_isFigure 7 = .ok (.bipush 57, 2) := by decide +kernel
theorem dX3_isFigure_9 : decode cX3_isFigure 9 = .ok (.if_icmp .gt 7, 3) := by decide +kernel
theorem dX3_isFigure_12 : decode cX3_isFigure 12 = .ok (.iconst 1, 1) := by decide +kernel
theorem dX3_isFigure_13 : decode cX3_isFigure 13 = .ok (.goto 4, 3) := by decide +kernel
theorem dX3_isFigure_16 : decode cX3_isFigure 16 = .ok (.iconst 0, 1) := by decide +kernel
theorem dX3_isFigure_17 : decode cX3_isFigure 17 = .ok (.ireturn, 1) := by decide +kernel
theorem dX3_take_0 : decode cX3_take 0 = .ok (.aload_n 0, 1) := by decide +kernel
theorem dX3_take_1 : decode cX3_take 1 = .ok (.getfield 24, 3) := by decide +kernel
theorem dX3_take_4 : decode cX3_take 4 = .ok (.ifCond .eq 4, 3) := by decide +kernel
theorem dX3_take_7 : decode cX3_take 7 = .ok (.return_, 1) := by decide +kernel
theorem dX3_take_8 : decode cX3_take 8 = .ok (.aload_n 0, 1) := by decide +kernel
theorem dX3_take_9 : decode cX3_take 9 = .ok (.aload_n 0, 1) := by decide +kernel
theorem dX3_take_10 : decode cX3_take 10 = .ok (.getfield 33, 3) := by decide +kernel
theorem dX3_take_13 : decode cX3_take 13 = .ok (.putfield 61, 3) := by decide +kernel
theorem dX3_take_16 : decode cX3_take 16 = .ok (.aload_n 0, 1) := by decide +kernel
theorem dX3_take_17 : decode cX3_take 17 = .ok (.getfield 61, 3) := by decide +kernel
theorem dX3_take_20 : decode cX3_take 20 = .ok (.aload_n 0, 1) := by decide +kernel
theorem dX3_take_21 : decode cX3_take 21 = .ok (.getfield 15, 3) := by decide +kernel
theorem dX3_take_24 : decode cX3_take 24 = .ok (.if_icmp .ge 29, 3) := by decide +kernel
theorem dX3_take_27 : decode cX3_take 27 = .ok (.aload_n 0, 1) := by decide +kernel
theorem dX3_take_28 : decode cX3_take 28 = .ok (.aload_n 0, 1) := by decide +kernel
theorem dX3_take_29 : decode cX3_take 29 = .ok (.getfield 61, 3) := by decide +kernel
theorem dX3_take_32 : decode cX3_take 32 = .ok (.invokevirtual 64, 3) := by decide +kernel
theorem dX3_take_35 : decode cX3_take 35 = .ok (.bipush 32, 2) := by decide +kernel
theorem dX3_take_37 : decode cX3_take 37 = .ok (.if_icmp .ne 16, 3) := by decide +kernel
theorem dX3_take_40 : decode cX3_take 40 = .ok (.aload_n 0, 1) := by decide +kernel
theorem dX3_take_41 : decode cX3_take 41 = .ok (.dup, 1) := by decide +kernel
theorem dX3_take_42 : decode cX3_take 42 = .ok (.getfield 61, 3) := by decide +kernel
theorem dX3_take_45 : decode cX3_take 45 = .ok (.iconst 1, 1) := by decide +kernel
theorem dX3_take_46 : decode cX3_take 46 = .ok (.iadd, 1) := by decide +kernel
theorem dX3_take_47 : decode cX3_take 47 = .ok (.putfield 61, 3) := by decide +kernel
theorem dX3_take_50 : decode cX3_take 50 = .ok (.goto (-34), 3) := by decide +kernel
theorem dX3_take_53 : decode cX3_take 53 = .ok (.aload_n 0, 1) := by decide +kernel
theorem dX3_take_54 : decode cX3_take 54 = .ok (.aload_n 0, 1) := by decide +kernel
theorem dX3_take_55 : decode cX3_take 55 = .ok (.getfield 61, 3) := by decide +kernel
theorem dX3_take_58 : decode cX3_take 58 = .ok (.putfield 33, 3) := by decide +kernel
theorem dX3_take_61 : decode cX3_take 61 = .ok (.aload_n 0, 1) := by decide +kernel
theorem dX3_take_62 : decode cX3_take 62 = .ok (.aload_n 0, 1) := by decide +kernel
theorem dX3_take_63 : decode cX3_take 63 = .ok (.getfield 61, 3) := by decide +kernel
theorem dX3_take_66 : decode cX3_take 66 = .ok (.invokevirtual 64, 3) := by decide +kernel
theorem dX3_take_69 : decode cX3_take 69 = .ok (.istore_n 1, 1) := by decide +kernel
theorem dX3_take_70 : decode cX3_take 70 = .ok (.aload_n 0, 1) := by decide +kernel
theorem dX3_take_71 : decode cX3_take 71 = .ok (.getfield 61, 3) := by decide +kernel
theorem dX3_take_74 : decode cX3_take 74 = .ok (.aload_n 0, 1) := by decide +kernel
theorem dX3_take_75 : decode cX3_take 75 = .ok (.getfield 15, 3) := by decide +kernel
theorem dX3_take_78 : decode cX3_take 78 = .ok (.if_icmp .lt 11, 3) := by decide +kernel
theorem dX3_take_81 : decode cX3_take 81 = .ok (.aload_n 0, 1) := by decide +kernel
theorem dX3_take_82 : decode cX3_take 82 = .ok (.iconst 0, 1) := by decide +kernel
theorem dX3_take_83 : decode cX3_take 83 = .ok (.putfield 46, 3) := by decide +kernel
theorem dX3_take_86 : decode cX3_take 86 = .ok (.goto 161, 3) := by decide +kernel
theorem dX3_take_89 : decode cX3_take 89 = .ok (.iload_n 1, 1) := by decide +kernel
theorem dX3_take_90 : decode cX3_take 90 = .ok (.invokestatic 68, 3) := by decide +kernel
theorem dX3_take_93 : decode cX3_take 93 = .ok (.ifCond .eq 46, 3) := by decide +kernel
theorem dX3_take_96 : decode cX3_take 96 = .ok (.aload_n 0, 1) := by decide +kernel
theorem dX3_take_97 : decode cX3_take 97 = .ok (.iconst 1, 1) := by decide +kernel
theorem dX3_take_98 : decode cX3_take 98 = .ok (.putfield 46, 3) := by decide +kernel
theorem dX3_take_101 : decode cX3_take 101 = .ok (.aload_n 0, 1) := by decide +kernel
theorem dX3_take_102 : decode cX3_take 102 = .ok (.getfield 33, 3) := by decide +kernel
theorem dX3_take_105 : decode cX3_take 105 = .ok (.aload_n 0, 1) := by decide +kernel
theorem dX3_take_106 : decode cX3_take 106 = .ok (.getfield 15, 3) := by decide +kernel
theorem dX3_take_109 : decode cX3_take 109 = .ok (.if_icmp .ge 138, 3) := by decide +kernel
theorem dX3_take_112 : decode cX3_take 112 = .ok (.aload_n 0, 1) := by decide +kernel
theorem dX3_take_113 : decode cX3_take 113 = .ok (.aload_n 0, 1) := by decide +kernel
theorem dX3_take_114 : decode cX3_take 114 = .ok (.getfield 33, 3) := by decide +kernel
theorem dX3_take_117 : decode cX3_take 117 = .ok (.invokevirtual 64, 3) := by decide +kernel
theorem dX3_take_120 : decode cX3_take 120 = .ok (.invokestatic 68, 3) := by decide +kernel
theorem dX3_take_123 : decode cX3_take 123 = .ok (.ifCond .eq 124, 3) := by decide +kernel
theorem dX3_take_126 : decode cX3_take 126 = .ok (.aload_n 0, 1) := by decide +kernel
theorem dX3_take_127 : decode cX3_take 127 = .ok (.dup, 1) := by decide +kernel
theorem dX3_take_128 : decode cX3_take 128 = .ok (.getfield 33, 3) := by decide +kernel
theorem dX3_take_131 : decode cX3_take 131 = .ok (.iconst 1, 1) := by decide +kernel
theorem dX3_take_132 : decode cX3_take 132 = .ok (.iadd, 1) := by decide +kernel
theorem dX3_take_133 : decode cX3_take 133 = .ok (.putfield 33, 3) := by decide +kernel
theorem dX3_take_136 : decode cX3_take 136 = .ok (.goto (-35), 3) := by decide +kernel
theorem dX3_take_139 : decode cX3_take 139 = .ok (.iload_n 1, 1) := by decide +kernel
theorem dX3_take_140 : decode cX3_take 140 = .ok (.invokestatic 72, 3) := by decide +kernel
theorem dX3_take_143 : decode cX3_take 143 = .ok (.ifCond .eq 71, 3) := by decide +kernel
theorem dX3_take_146 : decode cX3_take 146 = .ok (.aload_n 0, 1) := by decide +kernel
theorem dX3_take_147 : decode cX3_take 147 = .ok (.iconst 2, 1) := by decide +kernel
theorem dX3_take_148 : decode cX3_take 148 = .ok (.putfield 46, 3) := by decide +kernel
theorem dX3_take_151 : decode cX3_take 151 = .ok (.aload_n 0, 1) := by decide +kernel
theorem dX3_take_152 : decode cX3_take 152 = .ok (.getfield 33, 3) := by decide +kernel
theorem dX3_take_155 : decode cX3_take 155 = .ok (.aload_n 0, 1) := by decide +kernel
theorem dX3_take_156 : decode cX3_take 156 = .ok (.getfield 15, 3) := by decide +kernel
theorem dX3_take_159 : decode cX3_take 159 = .ok (.if_icmp .ge 30, 3) := by decide +kernel
theorem dX3_take_162 : decode cX3_take 162 = .ok (.aload_n 0, 1) := by decide +kernel
theorem dX3_take_163 : decode cX3_take 163 = .ok (.aload_n 0, 1) := by decide +kernel
theorem dX3_take_164 : decode cX3_take 164 = .ok (.getfield 33, 3) := by decide +kernel
theorem dX3_take_167 : decode cX3_take 167 = .ok (.invokevirtual 64, 3) := by decide +kernel
theorem dX3_take_170 : decode cX3_take 170 = .ok (.invokestatic 72, 3) := by decide +kernel
theorem dX3_take_173 : decode cX3_take 173 = .ok (.ifCond .eq 16, 3) := by decide +kernel
theorem dX3_take_176 : decode cX3_take 176 = .ok (.aload_n 0, 1) := by decide +kernel
theorem dX3_take_177 : decode cX3_take 177 = .ok (.dup, 1) := by decide +kernel
theorem dX3_take_178 : decode cX3_take 178 = .ok (.getfield 33, 3) := by decide +kernel
theorem dX3_take_181 : decode cX3_take 181 = .ok (.iconst 1, 1) := by decide +kernel
theorem dX3_take_182 : decode cX3_take 182 = .ok (.iadd, 1) := by decide +kernel
theorem dX3_take_183 : decode cX3_take 183 = .ok (.putfield 33, 3) := by decide +kernel
theorem dX3_take_186 : decode cX3_take 186 = .ok (.goto (-35), 3) := by decide +kernel
theorem dX3_take_189 : decode cX3_take 189 = .ok (.aload_n 0, 1) := by decide +kernel
theorem dX3_take_190 : decode cX3_take 190 = .ok (.getfield 33, 3) := by decide +kernel
theorem dX3_take_193 : decode cX3_take 193 = .ok (.aload_n 0, 1) := by decide +kernel
theorem dX3_take_194 : decode cX3_take 194 = .ok (.getfield 61, 3) := by decide +kernel
theorem dX3_take_197 : decode cX3_take 197 = .ok (.isub, 1) := by decide +kernel
theorem dX3_take_198 : decode cX3_take 198 = .ok (.iconst 2, 1) := by decide +kernel
theorem dX3_take_199 : decode cX3_take 199 = .ok (.if_icmp .le 48, 3) := by decide +kernel
theorem dX3_take_202 : decode cX3_take 202 = .ok (.aload_n 0, 1) := by decide +kernel
theorem dX3_take_203 : decode cX3_take 203 = .ok (.iconst 1, 1) := by decide +kernel
theorem dX3_take_204 : decode cX3_take 204 = .ok (.aload_n 0, 1) := by decide +kernel
theorem dX3_take_205 : decode cX3_take 205 = .ok (.getfield 61, 3) := by decide +kernel
theorem dX3_take_208 : decode cX3_take 208 = .ok (.invokevirtual 57, 3) := by decide +kernel
theorem dX3_take_211 : decode cX3_take 211 = .ok (.goto 36, 3) := by decide +kernel
theorem dX3_take_214 : decode cX3_take 214 = .ok (.iload_n 1, 1) := by decide +kernel
theorem dX3_take_215 : decode cX3_take 215 = .ok (.bipush 59, 2) := by decide +kernel
theorem dX3_take_217 : decode cX3_take 217 = .ok (.if_icmp .ne 21, 3) := by decide +kernel
theorem dX3_take_220 : decode cX3_take 220 = .ok (.aload_n 0, 1) := by decide +kernel
theorem dX3_take_221 : decode cX3_take 221 = .ok (.iconst 3, 1) := by decide +kernel
theorem dX3_take_222 : decode cX3_take 222 = .ok (.putfield 46, 3) := by decide +kernel
theorem dX3_take_225 : decode cX3_take 225 = .ok (.aload_n 0, 1) := by decide +kernel
theorem dX3_take_226 : decode cX3_take 226 = .ok (.dup, 1) := by decide +kernel
theorem dX3_take_227 : decode cX3_take 227 = .ok (.getfield 33, 3) := by decide +kernel
theorem dX3_take_230 : decode cX3_take 230 = .ok (.iconst 1, 1) := by decide +kernel
theorem dX3_take_231 : decode cX3_take 231 = .ok (.iadd, 1) := by decide +kernel
theorem dX3_take_232 : decode cX3_take 232 = .ok (.putfield 33, 3) := by decide +kernel
theorem dX3_take_235 : decode cX3_take 235 = .ok (.goto 12, 3) := by decide +kernel
theorem dX3_take_238 : decode cX3_take 238 = .ok (.aload_n 0, 1) := by decide +kernel
theorem dX3_take_239 : decode cX3_take 239 = .ok (.iconst 1, 1) := by decide +kernel
theorem dX3_take_240 : decode cX3_take 240 = .ok (.aload_n 0, 1) := by decide +kernel
theorem dX3_take_241 : decode cX3_take 241 = .ok (.getfield 61, 3) := by decide +kernel
theorem dX3_take_244 : decode cX3_take 244 = .ok (.invokevirtual 57, 3) := by decide +kernel
theorem dX3_take_247 : decode cX3_take 247 = .ok (.return_, 1) := by decide +kernel
theorem dX3_takeLine_0 : decode cX3_takeLine 0 = .ok (.aload_n 0, 1) := by decide +kernel
theorem dX3_takeLine_1 : decode cX3_takeLine 1 = .ok (.ldc 75, 2) := by decide +kernel
theorem dX3_takeLine_3 : decode cX3_takeLine 3 = .ok (.invokevirtual 77, 3) := by decide +kernel
theorem dX3_takeLine_6 : decode cX3_takeLine 6 = .ok (.ifCond .eq 12, 3) := by decide +kernel
theorem dX3_takeLine_9 : decode cX3_takeLine 9 = .ok (.aload_n 0, 1) := by decide +kernel
theorem dX3_takeLine_10 : decode cX3_takeLine 10 = .ok (.aload_n 1, 1) := by decide +kernel
theorem dX3_takeLine_11 : decode cX3_takeLine 11 = .ok (.iconst 0, 1) := by decide +kernel
theorem dX3_takeLine_12 : decode cX3_takeLine 12 = .ok (.invokevirtual 81, 3) := by decide +kernel
theorem dX3_takeLine_15 : decode cX3_takeLine 15 = .ok (.goto 117, 3) := by decide +kernel
theorem dX3_takeLine_18 : decode cX3_takeLine 18 = .ok (.aload_n 0, 1) := by decide +kernel
theorem dX3_takeLine_19 : decode cX3_takeLine 19 = .ok (.ldc 85, 2) := by decide +kernel
theorem dX3_takeLine_21 : decode cX3_takeLine 21 = .ok (.invokevirtual 77, 3) := by decide +kernel
theorem dX3_takeLine_24 : decode cX3_takeLine 24 = .ok (.ifCond .eq 12, 3) := by decide +kernel
theorem dX3_takeLine_27 : decode cX3_takeLine 27 = .ok (.aload_n 0, 1) := by decide +kernel
theorem dX3_takeLine_28 : decode cX3_takeLine 28 = .ok (.aload_n 1, 1) := by decide +kernel
theorem dX3_takeLine_29 : decode cX3_takeLine 29 = .ok (.iconst 1, 1) := by decide +kernel
theorem dX3_takeLine_30 : decode cX3_takeLine 30 = .ok (.invokevirtual 81, 3) := by decide +kernel
theorem dX3_takeLine_33 : decode cX3_takeLine 33 = .ok (.goto 99, 3) := by decide +kernel
theorem dX3_takeLine_36 : decode cX3_takeLine 36 = .ok (.aload_n 0, 1) := by decide +kernel
theorem dX3_takeLine_37 : decode cX3_takeLine 37 = .ok (.ldc 87, 2) := by decide +kernel
theorem dX3_takeLine_39 : decode cX3_takeLine 39 = .ok (.invokevirtual 77, 3) := by decide +kernel
theorem dX3_takeLine_42 : decode cX3_takeLine 42 = .ok (.ifCond .eq 12, 3) := by decide +kernel
theorem dX3_takeLine_45 : decode cX3_takeLine 45 = .ok (.aload_n 0, 1) := by decide +kernel
theorem dX3_takeLine_46 : decode cX3_takeLine 46 = .ok (.aload_n 1, 1) := by decide +kernel
theorem dX3_takeLine_47 : decode cX3_takeLine 47 = .ok (.iconst 2, 1) := by decide +kernel
theorem dX3_takeLine_48 : decode cX3_takeLine 48 = .ok (.invokevirtual 81, 3) := by decide +kernel
theorem dX3_takeLine_51 : decode cX3_takeLine 51 = .ok (.goto 81, 3) := by decide +kernel
theorem dX3_takeLine_54 : decode cX3_takeLine 54 = .ok (.aload_n 0, 1) := by decide +kernel
theorem dX3_takeLine_55 : decode cX3_takeLine 55 = .ok (.ldc 89, 2) := by decide +kernel
theorem dX3_takeLine_57 : decode cX3_takeLine 57 = .ok (.invokevirtual 77, 3) := by decide +kernel
theorem dX3_takeLine_60 : decode cX3_takeLine 60 = .ok (.ifCond .eq 12, 3) := by decide +kernel
theorem dX3_takeLine_63 : decode cX3_takeLine 63 = .ok (.aload_n 0, 1) := by decide +kernel
theorem dX3_takeLine_64 : decode cX3_takeLine 64 = .ok (.aload_n 1, 1) := by decide +kernel
theorem dX3_takeLine_65 : decode cX3_takeLine 65 = .ok (.iconst 3, 1) := by decide +kernel
theorem dX3_takeLine_66 : decode cX3_takeLine 66 = .ok (.invokevirtual 81, 3) := by decide +kernel
theorem dX3_takeLine_69 : decode cX3_takeLine 69 = .ok (.goto 63, 3) := by decide +kernel
theorem dX3_takeLine_72 : decode cX3_takeLine 72 = .ok (.aload_n 0, 1) := by decide +kernel
theorem dX3_takeLine_73 : decode cX3_takeLine 73 = .ok (.ldc 91, 2) := by decide +kernel
theorem dX3_takeLine_75 : decode cX3_takeLine 75 = .ok (.invokevirtual 77, 3) := by decide +kernel
theorem dX3_takeLine_78 : decode cX3_takeLine 78 = .ok (.ifCond .eq 11, 3) := by decide +kernel
theorem dX3_takeLine_81 : decode cX3_takeLine 81 = .ok (.aload_n 0, 1) := by decide +kernel
theorem dX3_takeLine_82 : decode cX3_takeLine 82 = .ok (.aload_n 1, 1) := by decide +kernel
theorem dX3_takeLine_83 : decode cX3_takeLine 83 = .ok (.invokevirtual 93, 3) := by decide +kernel
theorem dX3_takeLine_86 : decode cX3_takeLine 86 = .ok (.goto 46, 3) := by decide +kernel
theorem dX3_takeLine_89 : decode cX3_takeLine 89 = .ok (.aload_n 0, 1) := by decide +kernel
theorem dX3_takeLine_90 : decode cX3_takeLine 90 = .ok (.ldc 96, 2) := by decide +kernel
theorem dX3_takeLine_92 : decode cX3_takeLine 92 = .ok (.invokevirtual 77, 3) := by decide +kernel
theorem dX3_takeLine_95 : decode cX3_takeLine 95 = .ok (.ifCond .eq 11, 3) := by decide +kernel
theorem dX3_takeLine_98 : decode cX3_takeLine 98 = .ok (.aload_n 0, 1) := by decide +kernel
theorem dX3_takeLine_99 : decode cX3_takeLine 99 = .ok (.aload_n 1, 1) := by decide +kernel
theorem dX3_takeLine_100 : decode cX3_takeLine 100 = .ok (.invokevirtual 98, 3) := by decide +kernel
theorem dX3_takeLine_103 : decode cX3_takeLine 103 = .ok (.goto 29, 3) := by decide +kernel
theorem dX3_takeLine_106 : decode cX3_takeLine 106 = .ok (.aload_n 0, 1) := by decide +kernel
theorem dX3_takeLine_107 : decode cX3_takeLine 107 = .ok (.ldc 101, 2) := by decide +kernel
theorem dX3_takeLine_109 : decode cX3_takeLine 109 = .ok (.invokevirtual 77, 3) := by decide +kernel
theorem dX3_takeLine_112 : decode cX3_takeLine 112 = .ok (.ifCond .eq 11, 3) := by decide +kernel
theorem dX3_takeLine_115 : decode cX3_takeLine 115 = .ok (.aload_n 0, 1) := by decide +kernel
theorem dX3_takeLine_116 : decode cX3_takeLine 116 = .ok (.aload_n 1, 1) := by decide +kernel
theorem dX3_takeLine_117 : decode cX3_takeLine 117 = .ok (.invokevirtual 103, 3) := by decide +kernel
theorem dX3_takeLine_120 : decode cX3_takeLine 120 = .ok (.goto 12, 3) := by decide +kernel
theorem dX3_takeLine_123 : decode cX3_takeLine 123 = .ok (.aload_n 0, 1) := by decide +kernel
theorem dX3_takeLine_124 : decode cX3_takeLine 124 = .ok (.iconst 2, 1) := by decide +kernel
theorem dX3_takeLine_125 : decode cX3_takeLine 125 = .ok (.aload_n 0, 1) := by decide +kernel
theorem dX3_takeLine_126 : decode cX3_takeLine 126 = .ok (.getfield 61, 3) := by decide +kernel
theorem dX3_takeLine_129 : decode cX3_takeLine 129 = .ok (.invokevirtual 57, 3) := by decide +kernel
theorem dX3_takeLine_132 : decode cX3_takeLine 132 = .ok (.return_, 1) := by decide +kernel
theorem dX3_isNamed_0 : decode cX3_isNamed 0 = .ok (.aload_n 0, 1) := by decide +kernel
theorem dX3_isNamed_1 : decode cX3_isNamed 1 = .ok (.getfield 46, 3) := by decide +kernel
theorem dX3_isNamed_4 : decode cX3_isNamed 4 = .ok (.iconst 1, 1) := by decide +kernel
theorem dX3_isNamed_5 : decode cX3_isNamed 5 = .ok (.if_icmp .ne 19, 3) := by decide +kernel
theorem dX3_isNamed_8 : decode cX3_isNamed 8 = .ok (.aload_n 0, 1) := by decide +kernel
theorem dX3_isNamed_9 : decode cX3_isNamed 9 = .ok (.getfield 33, 3) := by decide +kernel
theorem dX3_isNamed_12 : decode cX3_isNamed 12 = .ok (.aload_n 0, 1) := by decide +kernel
theorem dX3_isNamed_13 : decode cX3_isNamed 13 = .ok (.getfield 61, 3) := by decide +kernel
theorem dX3_isNamed_16 : decode cX3_isNamed 16 = .ok (.isub, 1) := by decide +kernel
theorem dX3_isNamed_17 : decode cX3_isNamed 17 = .ok (.aload_n 1, 1) := by decide +kernel
theorem dX3_isNamed_18 : decode cX3_isNamed 18 = .ok (.invokevirtual 106, 3) := by decide +kernel
theorem dX3_isNamed_21 : decode cX3_isNamed 21 = .ok (.if_icmp .eq 5, 3) := by decide +kernel
theorem dX3_isNamed_24 : decode cX3_isNamed 24 = .ok (.iconst 0, 1) := by decide +kernel
theorem dX3_isNamed_25 : decode cX3_isNamed 25 = .ok (.ireturn, 1) := by decide +kernel
theorem dX3_isNamed_26 : decode cX3_isNamed 26 = .ok (.iconst 0, 1) := by decide +kernel
theorem dX3_isNamed_27 : decode cX3_isNamed 27 = .ok (.istore_n 2, 1) := by decide +kernel
theorem dX3_isNamed_28 : decode cX3_isNamed 28 = .ok (.iload_n 2, 1) := by decide +kernel
theorem dX3_isNamed_29 : decode cX3_isNamed 29 = .ok (.aload_n 1, 1) := by decide +kernel
theorem dX3_isNamed_30 : decode cX3_isNamed 30 = .ok (.invokevirtual 106, 3) := by decide +kernel
theorem dX3_isNamed_33 : decode cX3_isNamed 33 = .ok (.if_icmp .ge 29, 3) := by decide +kernel
theorem dX3_isNamed_36 : decode cX3_isNamed 36 = .ok (.aload_n 0, 1) := by decide +kernel
theorem dX3_isNamed_37 : decode cX3_isNamed 37 = .ok (.aload_n 0, 1) := by decide +kernel
theorem dX3_isNamed_38 : decode cX3_isNamed 38 = .ok (.getfield 61, 3) := by decide +kernel
theorem dX3_isNamed_41 : decode cX3_isNamed 41 = .ok (.iload_n 2, 1) := by decide +kernel
theorem dX3_isNamed_42 : decode cX3_isNamed 42 = .ok (.iadd, 1) := by decide +kernel
theorem dX3_isNamed_43 : decode cX3_isNamed 43 = .ok (.invokevirtual 64, 3) := by decide +kernel
theorem dX3_isNamed_46 : decode cX3_isNamed 46 = .ok (.aload_n 1, 1) := by decide +kernel
theorem dX3_isNamed_47 : decode cX3_isNamed 47 = .ok (.iload_n 2, 1) := by decide +kernel
theorem dX3_isNamed_48 : decode cX3_isNamed 48 = .ok (.invokevirtual 111, 3) := by decide +kernel
theorem dX3_isNamed_51 : decode cX3_isNamed 51 = .ok (.if_icmp .eq 5, 3) := by decide +kernel
theorem dX3_isNamed_54 : decode cX3_isNamed 54 = .ok (.iconst 0, 1) := by decide +kernel
theorem dX3_isNamed_55 : decode cX3_isNamed 55 = .ok (.ireturn, 1) := by decide +kernel
theorem dX3_isNamed_56 : decode cX3_isNamed 56 = .ok (.iinc 2 1, 3) := by decide +kernel
theorem dX3_isNamed_59 : decode cX3_isNamed 59 = .ok (.goto (-31), 3) := by decide +kernel
theorem dX3_isNamed_62 : decode cX3_isNamed 62 = .ok (.iconst 1, 1) := by decide +kernel
theorem dX3_isNamed_63 : decode cX3_isNamed 63 = .ok (.ireturn, 1) := by decide +kernel
theorem dX3_takeNumber_0 : decode cX3_takeNumber 0 = .ok (.aload_n 0, 1) := by decide +kernel
theorem dX3_takeNumber_1 : decode cX3_takeNumber 1 = .ok (.invokevirtual 43, 3) := by decide +kernel
theorem dX3_takeNumber_4 : decode cX3_takeNumber 4 = .ok (.aload_n 0, 1) := by decide +kernel
theorem dX3_takeNumber_5 : decode cX3_takeNumber 5 = .ok (.getfield 24, 3) := by decide +kernel
theorem dX3_takeNumber_8 : decode cX3_takeNumber 8 = .ok (.ifCond .eq 5, 3) := by decide +kernel
theorem dX3_takeNumber_11 : decode cX3_takeNumber 11 = .ok (.iload_n 1, 1) := by decide +kernel
theorem dX3_takeNumber_12 : decode cX3_takeNumber 12 = .ok (.ireturn, 1) := by decide +kernel
theorem dX3_takeNumber_13 : decode cX3_takeNumber 13 = .ok (.aload_n 0, 1) := by decide +kernel
theorem dX3_takeNumber_14 : decode cX3_takeNumber 14 = .ok (.getfield 46, 3) := by decide +kernel
theorem dX3_takeNumber_17 : decode cX3_takeNumber 17 = .ok (.iconst 2, 1) := by decide +kernel
theorem dX3_takeNumber_18 : decode cX3_takeNumber 18 = .ok (.if_icmp .eq 14, 3) := by decide +kernel
theorem dX3_takeNumber_21 : decode cX3_takeNumber 21 = .ok (.aload_n 0, 1) := by decide +kernel
theorem dX3_takeNumber_22 : decode cX3_takeNumber 22 = .ok (.iconst 2, 1) := by decide +kernel
theorem dX3_takeNumber_23 : decode cX3_takeNumber 23 = .ok (.aload_n 0, 1) := by decide +kernel
theorem dX3_takeNumber_24 : decode cX3_takeNumber 24 = .ok (.getfield 61, 3) := by decide +kernel
theorem dX3_takeNumber_27 : decode cX3_takeNumber 27 = .ok (.invokevirtual 57, 3) := by decide +kernel
theorem dX3_takeNumber_30 : decode cX3_takeNumber 30 = .ok (.iload_n 1, 1) := by decide +kernel
theorem dX3_takeNumber_31 : decode cX3_takeNumber 31 = .ok (.ireturn, 1) := by decide +kernel
theorem dX3_takeNumber_32 : decode cX3_takeNumber 32 = .ok (.iconst 0, 1) := by decide +kernel
theorem dX3_takeNumber_33 : decode cX3_takeNumber 33 = .ok (.istore_n 3, 1) := by decide +kernel
theorem dX3_takeNumber_34 : decode cX3_takeNumber 34 = .ok (.aload_n 0, 1) := by decide +kernel
theorem dX3_takeNumber_35 : decode cX3_takeNumber 35 = .ok (.getfield 61, 3) := by decide +kernel
theorem dX3_takeNumber_38 : decode cX3_takeNumber 38 = .ok (.istore 4, 2) := by decide +kernel
theorem dX3_takeNumber_40 : decode cX3_takeNumber 40 = .ok (.iload 4, 2) := by decide +kernel
theorem dX3_takeNumber_42 : decode cX3_takeNumber 42 = .ok (.aload_n 0, 1) := by decide +kernel
theorem dX3_takeNumber_43 : decode cX3_takeNumber 43 = .ok (.getfield 33, 3) := by decide +kernel
theorem dX3_takeNumber_46 : decode cX3_takeNumber 46 = .ok (.if_icmp .ge 24, 3) := by decide +kernel
theorem dX3_takeNumber_49 : decode cX3_takeNumber 49 = .ok (.iload_n 3, 1) := by decide +kernel
theorem dX3_takeNumber_50 : decode cX3_takeNumber 50 = .ok (.bipush 10, 2) := by decide +kernel
theorem dX3_takeNumber_52 : decode cX3_takeNumber 52 = .ok (.imul, 1) := by decide +kernel
theorem dX3_takeNumber_53 : decode cX3_takeNumber 53 = .ok (.aload_n 0, 1) := by decide +kernel
theorem dX3_takeNumber_54 : decode cX3_takeNumber 54 = .ok (.iload 4, 2) := by decide +kernel
theorem dX3_takeNumber_56 : decode cX3_takeNumber 56 = .ok (.invokevirtual 64, 3) := by decide +kernel
theorem dX3_takeNumber_59 : decode cX3_takeNumber 59 = .ok (.iadd, 1) := by decide +kernel
theorem dX3_takeNumber_60 : decode cX3_takeNumber 60 = .ok (.bipush 48, 2) := by decide +kernel
theorem dX3_takeNumber_62 : decode cX3_takeNumber 62 = .ok (.isub, 1) := by decide +kernel
theorem dX3_takeNumber_63 : decode cX3_takeNumber 63 = .ok (.istore_n 3, 1) := by decide +kernel
theorem dX3_takeNumber_64 : decode cX3_takeNumber 64 = .ok (.iinc 4 1, 3) := by decide +kernel
theorem dX3_takeNumber_67 : decode cX3_takeNumber 67 = .ok (.goto (-27), 3) := by decide +kernel
theorem dX3_takeNumber_70 : decode cX3_takeNumber 70 = .ok (.iload_n 3, 1) := by decide +kernel
theorem dX3_takeNumber_71 : decode cX3_takeNumber 71 = .ok (.iload_n 1, 1) := by decide +kernel
theorem dX3_takeNumber_72 : decode cX3_takeNumber 72 = .ok (.if_icmp .lt 8, 3) := by decide +kernel
theorem dX3_takeNumber_75 : decode cX3_takeNumber 75 = .ok (.iload_n 3, 1) := by decide +kernel
theorem dX3_takeNumber_76 : decode cX3_takeNumber 76 = .ok (.iload_n 2, 1) := by decide +kernel
theorem dX3_takeNumber_77 : decode cX3_takeNumber 77 = .ok (.if_icmp .le 14, 3) := by decide +kernel
theorem dX3_takeNumber_80 : decode cX3_takeNumber 80 = .ok (.aload_n 0, 1) := by decide +kernel
theorem dX3_takeNumber_81 : decode cX3_takeNumber 81 = .ok (.iconst 3, 1) := by decide +kernel
theorem dX3_takeNumber_82 : decode cX3_takeNumber 82 = .ok (.aload_n 0, 1) := by decide +kernel
theorem dX3_takeNumber_83 : decode cX3_takeNumber 83 = .ok (.getfield 61, 3) := by decide +kernel
theorem dX3_takeNumber_86 : decode cX3_takeNumber 86 = .ok (.invokevirtual 57, 3) := by decide +kernel
theorem dX3_takeNumber_89 : decode cX3_takeNumber 89 = .ok (.iload_n 1, 1) := by decide +kernel
theorem dX3_takeNumber_90 : decode cX3_takeNumber 90 = .ok (.ireturn, 1) := by decide +kernel
theorem dX3_takeNumber_91 : decode cX3_takeNumber 91 = .ok (.iload_n 3, 1) := by decide +kernel
theorem dX3_takeNumber_92 : decode cX3_takeNumber 92 = .ok (.ireturn, 1) := by decide +kernel
theorem dX3_takeSemicolon_0 : decode cX3_takeSemicolon 0 = .ok (.aload_n 0, 1) := by decide +kernel
theorem dX3_takeSemicolon_1 : decode cX3_takeSemicolon 1 = .ok (.invokevirtual 43, 3) := by decide +kernel
theorem dX3_takeSemicolon_4 : decode cX3_takeSemicolon 4 = .ok (.aload_n 0, 1) := by decide +kernel
theorem dX3_takeSemicolon_5 : decode cX3_takeSemicolon 5 = .ok (.getfield 46, 3) := by decide +kernel
theorem dX3_takeSemicolon_8 : decode cX3_takeSemicolon 8 = .ok (.iconst 3, 1) := by decide +kernel
theorem dX3_takeSemicolon_9 : decode cX3_takeSemicolon 9 = .ok (.if_icmp .eq 12, 3) := by decide +kernel
theorem dX3_takeSemicolon_12 : decode cX3_takeSemicolon 12 = .ok (.aload_n 0, 1) := by decide +kernel
theorem dX3_takeSemicolon_13 : decode cX3_takeSemicolon 13 = .ok (.iconst 2, 1) := by decide +kernel
theorem dX3_takeSemicolon_14 : decode cX3_takeSemicolon 14 = .ok (.aload_n 0, 1) := by decide +kernel
theorem dX3_takeSemicolon_15 : decode cX3_takeSemicolon 15 = .ok (.getfield 61, 3) := by decide +kernel
theorem dX3_takeSemicolon_18 : decode cX3_takeSemicolon 18 = .ok (.invokevirtual 57, 3) := by decide +kernel
theorem dX3_takeSemicolon_21 : decode cX3_takeSemicolon 21 = .ok (.return_, 1) := by decide +kernel
theorem dX3_takeRider_0 : decode cX3_takeRider 0 = .ok (.aload_n 1, 1) := by decide +kernel
theorem dX3_takeRider_1 : decode cX3_takeRider 1 = .ok (.getfield 115, 3) := by decide +kernel
theorem dX3_takeRider_4 : decode cX3_takeRider 4 = .ok (.iconst 5, 1) := by decide +kernel
theorem dX3_takeRider_5 : decode cX3_takeRider 5 = .ok (.if_icmp .lt 12, 3) := by decide +kernel
theorem dX3_takeRider_8 : decode cX3_takeRider 8 = .ok (.aload_n 0, 1) := by decide +kernel
theorem dX3_takeRider_9 : decode cX3_takeRider 9 = .ok (.iconst 5, 1) := by decide +kernel
theorem dX3_takeRider_10 : decode cX3_takeRider 10 = .ok (.aload_n 0, 1) := by decide +kernel
theorem dX3_takeRider_11 : decode cX3_takeRider 11 = .ok (.getfield 61, 3) := by decide +kernel
theorem dX3_takeRider_14 : decode cX3_takeRider 14 = .ok (.invokevirtual 57, 3) := by decide +kernel
theorem dX3_takeRider_17 : decode cX3_takeRider 17 = .ok (.aload_n 0, 1) := by decide +kernel
theorem dX3_takeRider_18 : decode cX3_takeRider 18 = .ok (.iconst 0, 1) := by decide +kernel
theorem dX3_takeRider_19 : decode cX3_takeRider 19 = .ok (.bipush 15, 2) := by decide +kernel
theorem dX3_takeRider_21 : decode cX3_takeRider 21 = .ok (.invokevirtual 118, 3) := by decide +kernel
theorem dX3_takeRider_24 : decode cX3_takeRider 24 = .ok (.istore_n 3, 1) := by decide +kernel
theorem dX3_takeRider_25 : decode cX3_takeRider 25 = .ok (.aload_n 0, 1) := by decide +kernel
theorem dX3_takeRider_26 : decode cX3_takeRider 26 = .ok (.iconst 1, 1) := by decide +kernel
theorem dX3_takeRider_27 : decode cX3_takeRider 27 = .ok (.bipush 99, 2) := by decide +kernel
theorem dX3_takeRider_29 : decode cX3_takeRider 29 = .ok (.invokevirtual 118, 3) := by decide +kernel
theorem dX3_takeRider_32 : decode cX3_takeRider 32 = .ok (.istore 4, 2) := by decide +kernel
theorem dX3_takeRider_34 : decode cX3_takeRider 34 = .ok (.aload_n 0, 1) := by decide +kernel
theorem dX3_takeRider_35 : decode cX3_takeRider 35 = .ok (.invokevirtual 122, 3) := by decide +kernel
theorem dX3_takeRider_38 : decode cX3_takeRider 38 = .ok (.aload_n 0, 1) := by decide +kernel
theorem dX3_takeRider_39 : decode cX3_takeRider 39 = .ok (.getfield 24, 3) := by decide +kernel
theorem dX3_takeRider_42 : decode cX3_takeRider 42 = .ok (.ifCond .ne 11, 3) := by decide +kernel
theorem dX3_takeRider_45 : decode cX3_takeRider 45 = .ok (.aload_n 1, 1) := by decide +kernel
theorem dX3_takeRider_46 : decode cX3_takeRider 46 = .ok (.iload_n 2, 1) := by decide +kernel
theorem dX3_takeRider_47 : decode cX3_takeRider 47 = .ok (.iload_n 3, 1) := by decide +kernel
theorem dX3_takeRider_48 : decode cX3_takeRider 48 = .ok (.iload 4, 2) := by decide +kernel
theorem dX3_takeRider_50 : decode cX3_takeRider 50 = .ok (.invokevirtual 125, 3) := by decide +kernel
theorem dX3_takeRider_53 : decode cX3_takeRider 53 = .ok (.return_, 1) := by decide +kernel
theorem dX3_takeBearing_0 : decode cX3_takeBearing 0 = .ok (.aload_n 0, 1) := by decide +kernel
theorem dX3_takeBearing_1 : decode cX3_takeBearing 1 = .ok (.getfield 36, 3) := by decide +kernel
theorem dX3_takeBearing_4 : decode cX3_takeBearing 4 = .ok (.ifCond .eq 12, 3) := by decide +kernel
theorem dX3_takeBearing_7 : decode cX3_takeBearing 7 = .ok (.aload_n 0, 1) := by decide +kernel
theorem dX3_takeBearing_8 : decode cX3_takeBearing 8 = .ok (.iconst 4, 1) := by decide +kernel
theorem dX3_takeBearing_9 : decode cX3_takeBearing 9 = .ok (.aload_n 0, 1) := by decide +kernel
theorem dX3_takeBearing_10 : decode cX3_takeBearing 10 = .ok (.getfield 61, 3) := by decide +kernel
theorem dX3_takeBearing_13 : decode cX3_takeBearing 13 = .ok (.invokevirtual 57, 3) := by decide +kernel
theorem dX3_takeBearing_16 : decode cX3_takeBearing 16 = .ok (.aload_n 1, 1) := by decide +kernel
theorem dX3_takeBearing_17 : decode cX3_takeBearing 17 = .ok (.aload_n 0, 1) := by decide +kernel
theorem dX3_takeBearing_18 : decode cX3_takeBearing 18 = .ok (.iconst 1, 1) := by decide +kernel
theorem dX3_takeBearing_19 : decode cX3_takeBearing 19 = .ok (.bipush 99, 2) := by decide +kernel
theorem dX3_takeBearing_21 : decode cX3_takeBearing 21 = .ok (.invokevirtual 118, 3) := by decide +kernel
theorem dX3_takeBearing_24 : decode cX3_takeBearing 24 = .ok (.putfield 129, 3) := by decide +kernel
theorem dX3_takeBearing_27 : decode cX3_takeBearing 27 = .ok (.aload_n 0, 1) := by decide +kernel
theorem dX3_takeBearing_28 : decode cX3_takeBearing 28 = .ok (.invokevirtual 122, 3) := by decide +kernel
theorem dX3_takeBearing_31 : decode cX3_takeBearing 31 = .ok (.aload_n 0, 1) := by decide +kernel
theorem dX3_takeBearing_32 : decode cX3_takeBearing 32 = .ok (.iconst 1, 1) := by decide +kernel
theorem dX3_takeBearing_33 : decode cX3_takeBearing 33 = .ok (.putfield 36, 3) := by decide +kernel
theorem dX3_takeBearing_36 : decode cX3_takeBearing 36 = .ok (.return_, 1) := by decide +kernel
theorem dX3_takeTrust_0 : decode cX3_takeTrust 0 = .ok (.aload_n 0, 1) := by decide +kernel
theorem dX3_takeTrust_1 : decode cX3_takeTrust 1 = .ok (.iconst 0, 1) := by decide +kernel
theorem dX3_takeTrust_2 : decode cX3_takeTrust 2 = .ok (.iconst 3, 1) := by decide +kernel
theorem dX3_takeTrust_3 : decode cX3_takeTrust 3 = .ok (.invokevirtual 118, 3) := by decide +kernel
theorem dX3_takeTrust_6 : decode cX3_takeTrust 6 = .ok (.istore_n 2, 1) := by decide +kernel
theorem dX3_takeTrust_7 : decode cX3_takeTrust 7 = .ok (.aload_n 0, 1) := by decide +kernel
theorem dX3_takeTrust_8 : decode cX3_takeTrust 8 = .ok (.getfield 40, 3) := by decide +kernel
theorem dX3_takeTrust_11 : decode cX3_takeTrust 11 = .ok (.iload_n 2, 1) := by decide +kernel
theorem dX3_takeTrust_12 : decode cX3_takeTrust 12 = .ok (.ishr, 1) := by decide +kernel
theorem dX3_takeTrust_13 : decode cX3_takeTrust 13 = .ok (.iconst 1, 1) := by decide +kernel
theorem dX3_takeTrust_14 : decode cX3_takeTrust 14 = .ok (.iand, 1) := by decide +kernel
theorem dX3_takeTrust_15 : decode cX3_takeTrust 15 = .ok (.iconst 1, 1) := by decide +kernel
theorem dX3_takeTrust_16 : decode cX3_takeTrust 16 = .ok (.if_icmp .ne 12, 3) := by decide +kernel
theorem dX3_takeTrust_19 : decode cX3_takeTrust 19 = .ok (.aload_n 0, 1) := by decide +kernel
theorem dX3_takeTrust_20 : decode cX3_takeTrust 20 = .ok (.iconst 4, 1) := by decide +kernel
theorem dX3_takeTrust_21 : decode cX3_takeTrust 21 = .ok (.aload_n 0, 1) := by decide +kernel
theorem dX3_takeTrust_22 : decode cX3_takeTrust 22 = .ok (.getfield 61, 3) := by decide +kernel
theorem dX3_takeTrust_25 : decode cX3_takeTrust 25 = .ok (.invokevirtual 57, 3) := by decide +kernel
theorem dX3_takeTrust_28 : decode cX3_takeTrust 28 = .ok (.aload_n 1, 1) := by decide +kernel
theorem dX3_takeTrust_29 : decode cX3_takeTrust 29 = .ok (.getfield 132, 3) := by decide +kernel
theorem dX3_takeTrust_32 : decode cX3_takeTrust 32 = .ok (.iload_n 2, 1) := by decide +kernel
theorem dX3_takeTrust_33 : decode cX3_takeTrust 33 = .ok (.aload_n 0, 1) := by decide +kernel
theorem dX3_takeTrust_34 : decode cX3_takeTrust 34 = .ok (.iconst 0, 1) := by decide +kernel
theorem dX3_takeTrust_35 : decode cX3_takeTrust 35 = .ok (.bipush 9, 2) := by decide +kernel
theorem dX3_takeTrust_37 : decode cX3_takeTrust 37 = .ok (.invokevirtual 118, 3) := by decide +kernel
theorem dX3_takeTrust_40 : decode cX3_takeTrust 40 = .ok (.iastore, 1) := by decide +kernel
theorem dX3_takeTrust_41 : decode cX3_takeTrust 41 = .ok (.aload_n 0, 1) := by decide +kernel
theorem dX3_takeTrust_42 : decode cX3_takeTrust 42 = .ok (.invokevirtual 122, 3) := by decide +kernel
theorem dX3_takeTrust_45 : decode cX3_takeTrust 45 = .ok (.aload_n 0, 1) := by decide +kernel
theorem dX3_takeTrust_46 : decode cX3_takeTrust 46 = .ok (.dup, 1) := by decide +kernel
theorem dX3_takeTrust_47 : decode cX3_takeTrust 47 = .ok (.getfield 40, 3) := by decide +kernel
theorem dX3_takeTrust_50 : decode cX3_takeTrust 50 = .ok (.iconst 1, 1) := by decide +kernel
theorem dX3_takeTrust_51 : decode cX3_takeTrust 51 = .ok (.iload_n 2, 1) := by decide +kernel
theorem dX3_takeTrust_52 : decode cX3_takeTrust 52 = .ok (.ishl, 1) := by decide +kernel
theorem dX3_takeTrust_53 : decode cX3_takeTrust 53 = .ok (.ior, 1) := by decide +kernel
theorem dX3_takeTrust_54 : decode cX3_takeTrust 54 = .ok (.putfield 40, 3) := by decide +kernel
theorem dX3_takeTrust_57 : decode cX3_takeTrust 57 = .ok (.return_, 1) := by decide +kernel
theorem dX3_takeReport_0 : decode cX3_takeReport 0 = .ok (.aload_n 1, 1) := by decide +kernel
theorem dX3_takeReport_1 : decode cX3_takeReport 1 = .ok (.getfield 136, 3) := by decide +kernel
theorem dX3_takeReport_4 : decode cX3_takeReport 4 = .ok (.bipush 8, 2) := by decide +kernel
theorem dX3_takeReport_6 : decode cX3_takeReport 6 = .ok (.if_icmp .lt 12, 3) := by decide +kernel
theorem dX3_takeReport_9 : decode cX3_takeReport 9 = .ok (.aload_n 0, 1) := by decide +kernel
theorem dX3_takeReport_10 : decode cX3_takeReport 10 = .ok (.iconst 5, 1) := by decide +kernel
theorem dX3_takeReport_11 : decode cX3_takeReport 11 = .ok (.aload_n 0, 1) := by decide +kernel
theorem dX3_takeReport_12 : decode cX3_takeReport 12 = .ok (.getfield 61, 3) := by decide +kernel
theorem dX3_takeReport_15 : decode cX3_takeReport 15 = .ok (.invokevirtual 57, 3) := by decide +kernel
theorem dX3_takeReport_18 : decode cX3_takeReport 18 = .ok (.aload_n 0, 1) := by decide +kernel
theorem dX3_takeReport_19 : decode cX3_takeReport 19 = .ok (.iconst 0, 1) := by decide +kernel
theorem dX3_takeReport_20 : decode cX3_takeReport 20 = .ok (.bipush 99, 2) := by decide +kernel
theorem dX3_takeReport_22 : decode cX3_takeReport 22 = .ok (.invokevirtual 118, 3) := by decide +kernel
theorem dX3_takeReport_25 : decode cX3_takeReport 25 = .ok (.istore_n 2, 1) := by decide +kernel
theorem dX3_takeReport_26 : decode cX3_takeReport 26 = .ok (.aload_n 0, 1) := by decide +kernel
theorem dX3_takeReport_27 : decode cX3_takeReport 27 = .ok (.iconst 0, 1) := by decide +kernel
theorem dX3_takeReport_28 : decode cX3_takeReport 28 = .ok (.iconst 3, 1) := by decide +kernel
theorem dX3_takeReport_29 : decode cX3_takeReport 29 = .ok (.invokevirtual 118, 3) := by decide +kernel
theorem dX3_takeReport_32 : decode cX3_takeReport 32 = .ok (.istore_n 3, 1) := by decide +kernel
theorem dX3_takeReport_33 : decode cX3_takeReport 33 = .ok (.aload_n 0, 1) := by decide +kernel
theorem dX3_takeReport_34 : decode cX3_takeReport 34 = .ok (.iconst 0, 1) := by decide +kernel
theorem dX3_takeReport_35 : decode cX3_takeReport 35 = .ok (.iconst 4, 1) := by decide +kernel
theorem dX3_takeReport_36 : decode cX3_takeReport 36 = .ok (.invokevirtual 118, 3) := by decide +kernel
theorem dX3_takeReport_39 : decode cX3_takeReport 39 = .ok (.istore 4, 2) := by decide +kernel
theorem dX3_takeReport_41 : decode cX3_takeReport 41 = .ok (.aload_n 0, 1) := by decide +kernel
theorem dX3_takeReport_42 : decode cX3_takeReport 42 = .ok (.iconst 0, 1) := by decide +kernel
theorem dX3_takeReport_43 : decode cX3_takeReport 43 = .ok (.iconst 3, 1) := by decide +kernel
theorem dX3_takeReport_44 : decode cX3_takeReport 44 = .ok (.invokevirtual 118, 3) := by decide +kernel
theorem dX3_takeReport_47 : decode cX3_takeReport 47 = .ok (.istore 5, 2) := by decide +kernel
theorem dX3_takeReport_49 : decode cX3_takeReport 49 = .ok (.aload_n 0, 1) := by decide +kernel
theorem dX3_takeReport_50 : decode cX3_takeReport 50 = .ok (.invokevirtual 122, 3) := by decide +kernel
theorem dX3_takeReport_53 : decode cX3_takeReport 53 = .ok (.aload_n 0, 1) := by decide +kernel
theorem dX3_takeReport_54 : decode cX3_takeReport 54 = .ok (.getfield 24, 3) := by decide +kernel
theorem dX3_takeReport_57 : decode cX3_takeReport 57 = .ok (.ifCond .ne 14, 3) := by decide +kernel
theorem dX3_takeReport_60 : decode cX3_takeReport 60 = .ok (.aload_n 1, 1) := by decide +kernel
theorem dX3_takeReport_61 : decode cX3_takeReport 61 = .ok (.iload_n 2, 1) := by decide +kernel
theorem dX3_takeReport_62 : decode cX3_takeReport 62 = .ok (.iload_n 3, 1) := by decide +kernel
theorem dX3_takeReport_63 : decode cX3_takeReport 63 = .ok (.iload 4, 2) := by decide +kernel
theorem dX3_takeReport_65 : decode cX3_takeReport 65 = .ok (.iload 5, 2) := by decide +kernel
theorem dX3_takeReport_67 : decode cX3_takeReport 67 = .ok (.invokevirtual 139, 3) := by decide +kernel
theorem dX3_takeReport_70 : decode cX3_takeReport 70 = .ok (.pop, 1) := by decide +kernel
theorem dX3_takeReport_71 : decode cX3_takeReport 71 = .ok (.return_, 1) := by decide +kernel
theorem dX3_tellsOfMissingRider_0 : decode cX3_tellsOfMissingRider 0 = .ok (.iconst 0, 1) := by decide +kernel
theorem dX3_tellsOfMissingRider_1 : decode cX3_tellsOfMissingRider 1 = .ok (.istore_n 1, 1) := by decide +kernel
theorem dX3_tellsOfMissingRider_2 : decode cX3_tellsOfMissingRider 2 = .ok (.iload_n 1, 1) := by decide +kernel
theorem dX3_tellsOfMissingRider_3 : decode cX3_tellsOfMissingRider 3 = .ok (.aload_n 0, 1) := by decide +kernel
theorem dX3_tellsOfMissingRider_4 : decode cX3_tellsOfMissingRider 4 = .ok (.getfield 136, 3) := by decide +kernel
theorem dX3_tellsOfMissingRider_7 : decode cX3_tellsOfMissingRider 7 = .ok (.if_icmp .ge 24, 3) := by decide +kernel
theorem dX3_tellsOfMissingRider_10 : decode cX3_tellsOfMissingRider 10 = .ok (.aload_n 0, 1) := by decide +kernel
theorem dX3_tellsOfMissingRider_11 : decode cX3_tellsOfMissingRider 11 = .ok (.getfield 143, 3) := by decide +kernel
theorem dX3_tellsOfMissingRider_14 : decode cX3_tellsOfMissingRider 14 = .ok (.iload_n 1, 1) := by decide +kernel
theorem dX3_tellsOfMissingRider_15 : decode cX3_tellsOfMissingRider 15 = .ok (.iaload, 1) := by decide +kernel
theorem dX3_tellsOfMissingRider_16 : decode cX3_tellsOfMissingRider 16 = .ok (.aload_n 0, 1) := by decide +kernel
theorem dX3_tellsOfMissingRider_17 : decode cX3_tellsOfMissingRider 17 = .ok (.getfield 115, 3) := by decide +kernel
theorem dX3_tellsOfMissingRider_20 : decode cX3_tellsOfMissingRider 20 = .ok (.if_icmp .lt 5, 3) := by decide +kernel
theorem dX3_tellsOfMissingRider_23 : decode cX3_tellsOfMissingRider 23 = .ok (.iconst 1, 1) := by decide +kernel
theorem dX3_tellsOfMissingRider_24 : decode cX3_tellsOfMissingRider 24 = .ok (.ireturn, 1) := by decide +kernel
theorem dX3_tellsOfMissingRider_25 : decode cX3_tellsOfMissingRider 25 = .ok (.iinc 1 1, 3) := by decide +kernel
theorem dX3_tellsOfMissingRider_28 : decode cX3_tellsOfMissingRider 28 = .ok (.goto (-26), 3) := by decide +kernel
theorem dX3_tellsOfMissingRider_31 : decode cX3_tellsOfMissingRider 31 = .ok (.iconst 0, 1) := by decide +kernel
theorem dX3_tellsOfMissingRider_32 : decode cX3_tellsOfMissingRider 32 = .ok (.ireturn, 1) := by decide +kernel
