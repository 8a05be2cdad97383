theorem dJ0_charAt_5068e_0 : decode cJ0_charAt_5068e 0 = .ok (.aload_n 0, 1) := by decide +kernel
theorem dJ0_charAt_5068e_1 : decode cJ0_charAt_5068e 1 = .ok (.invokevirtual 492, 3) := by decide +kernel
theorem dJ0_charAt_5068e_4 : decode cJ0_charAt_5068e 4 = .ok (.ifCond .eq 12, 3) := by decide +kernel
theorem dJ0_charAt_5068e_7 : decode cJ0_charAt_5068e 7 = .ok (.aload_n 0, 1) := by decide +kernel
theorem dJ0_charAt_5068e_8 : decode cJ0_charAt_5068e 8 = .ok (.getfield 9, 3) := by decide +kernel
theorem dJ0_charAt_5068e_11 : decode cJ0_charAt_5068e 11 = .ok (.iload_n 1, 1) := by decide +kernel
theorem dJ0_charAt_5068e_12 : decode cJ0_charAt_5068e 12 = .ok (.invokestatic 495, 3) := by decide +kernel
theorem dJ0_charAt_5068e_15 : decode cJ0_charAt_5068e 15 = .ok (.ireturn, 1) := by decide +kernel
theorem dJ0_charAt_5068e_16 : decode cJ0_charAt_5068e 16 = .ok (.aload_n 0, 1) := by decide +kernel
theorem dJ0_charAt_5068e_17 : decode cJ0_charAt_5068e 17 = .ok (.getfield 9, 3) := by decide +kernel
theorem dJ0_charAt_5068e_20 : decode cJ0_charAt_5068e 20 = .ok (.iload_n 1, 1) := by decide +kernel
theorem dJ0_charAt_5068e_21 : decode cJ0_charAt_5068e 21 = .ok (.invokestatic 498, 3) := by decide +kernel
theorem dJ0_charAt_5068e_24 : decode cJ0_charAt_5068e 24 = .ok (.ireturn, 1) := by decide +kernel
theorem dJ0_checkIndex_df160_0 : decode cJ0_checkIndex_df160 0 = .ok (.iload_n 0, 1) := by decide +kernel
theorem dJ0_checkIndex_df160_1 : decode cJ0_checkIndex_df160 1 = .ok (.iload_n 1, 1) := by decide +kernel
theorem dJ0_checkIndex_df160_2 : decode cJ0_checkIndex_df160 2 = .ok (.getstatic 1053, 3) := by decide +kernel
theorem dJ0_checkIndex_df160_5 : decode cJ0_checkIndex_df160 5 = .ok (.invokestatic 1059, 3) := by decide +kernel
theorem dJ0_checkIndex_df160_8 : decode cJ0_checkIndex_df160 8 = .ok (.pop, 1) := by decide +kernel
theorem dJ0_checkIndex_df160_9 : decode cJ0_checkIndex_df160 9 = .ok (.return_, 1) := by decide +kernel
theorem dJ0_coder_7d493_0 : decode cJ0_coder_7d493 0 = .ok (.getstatic 38, 3) := by decide +kernel
theorem dJ0_coder_7d493_3 : decode cJ0_coder_7d493 3 = .ok (.ifCond .eq 10, 3) := by decide +kernel
theorem dJ0_coder_7d493_6 : decode cJ0_coder_7d493 6 = .ok (.aload_n 0, 1) := by decide +kernel
theorem dJ0_coder_7d493_7 : decode cJ0_coder_7d493 7 = .ok (.getfield 15, 3) := by decide +kernel
theorem dJ0_coder_7d493_10 : decode cJ0_coder_7d493 10 = .ok (.goto 4, 3) := by decide +kernel
theorem dJ0_coder_7d493_13 : decode cJ0_coder_7d493 13 = .ok (.iconst 1, 1) := by decide +kernel
theorem dJ0_coder_7d493_14 : decode cJ0_coder_7d493 14 = .ok (.ireturn, 1) := by decide +kernel
theorem dJ0_isLatin1_aae02_0 : decode cJ0_isLatin1_aae02 0 = .ok (.getstatic 38, 3) := by decide +kernel
theorem dJ0_isLatin1_aae02_3 : decode cJ0_isLatin1_aae02 3 = .ok (.ifCond .eq 14, 3) := by decide +kernel
theorem dJ0_isLatin1_aae02_6 : decode cJ0_isLatin1_aae02 6 = .ok (.aload_n 0, 1) := by decide +kernel
theorem dJ0_isLatin1_aae02_7 : decode cJ0_isLatin1_aae02 7 = .ok (.getfield 15, 3) := by decide +kernel
theorem dJ0_isLatin1_aae02_10 : decode cJ0_isLatin1_aae02 10 = .ok (.ifCond .ne 7, 3) := by decide +kernel
theorem dJ0_isLatin1_aae02_13 : decode cJ0_isLatin1_aae02 13 = .ok (.iconst 1, 1) := by decide +kernel
theorem dJ0_isLatin1_aae02_14 : decode cJ0_isLatin1_aae02 14 = .ok (.goto 4, 3) := by decide +kernel
theorem dJ0_isLatin1_aae02_17 : decode cJ0_isLatin1_aae02 17 = .ok (.iconst 0, 1) := by decide +kernel
theorem dJ0_isLatin1_aae02_18 : decode cJ0_isLatin1_aae02 18 = .ok (.ireturn, 1) := by decide +kernel
theorem dJ0_length_8abf5_0 : decode cJ0_length_8abf5 0 = .ok (.aload_n 0, 1) := by decide +kernel
theorem dJ0_length_8abf5_1 : decode cJ0_length_8abf5 1 = .ok (.getfield 9, 3) := by decide +kernel
theorem dJ0_length_8abf5_4 : decode cJ0_length_8abf5 4 = .ok (.arraylength, 1) := by decide +kernel
theorem dJ0_length_8abf5_5 : decode cJ0_length_8abf5 5 = .ok (.aload_n 0, 1) := by decide +kernel
theorem dJ0_length_8abf5_6 : decode cJ0_length_8abf5 6 = .ok (.invokevirtual 335, 3) := by decide +kernel
theorem dJ0_length_8abf5_9 : decode cJ0_length_8abf5 9 = .ok (.ishr, 1) := by decide +kernel
theorem dJ0_length_8abf5_10 : decode cJ0_length_8abf5 10 = .ok (.ireturn, 1) := by decide +kernel
theorem dJ1_charAt_3b067_0 : decode cJ1_charAt_3b067 0 = .ok (.iload_n 1, 1) := by decide +kernel
theorem dJ1_charAt_3b067_1 : decode cJ1_charAt_3b067 1 = .ok (.aload_n 0, 1) := by decide +kernel
theorem dJ1_charAt_3b067_2 : decode cJ1_charAt_3b067 2 = .ok (.arraylength, 1) := by decide +kernel
theorem dJ1_charAt_3b067_3 : decode cJ1_charAt_3b067 3 = .ok (.invokestatic 9, 3) := by decide +kernel
theorem dJ1_charAt_3b067_6 : decode cJ1_charAt_3b067 6 = .ok (.aload_n 0, 1) := by decide +kernel
theorem dJ1_charAt_3b067_7 : decode cJ1_charAt_3b067 7 = .ok (.iload_n 1, 1) := by decide +kernel
theorem dJ1_charAt_3b067_8 : decode cJ1_charAt_3b067 8 = .ok (.baload, 1) := by decide +kernel
theorem dJ1_charAt_3b067_9 : decode cJ1_charAt_3b067 9 = .ok (.sipush 255, 3) := by decide +kernel
theorem dJ1_charAt_3b067_12 : decode cJ1_charAt_3b067 12 = .ok (.iand, 1) := by decide +kernel
theorem dJ1_charAt_3b067_13 : decode cJ1_charAt_3b067 13 = .ok (.i2c, 1) := by decide +kernel
theorem dJ1_charAt_3b067_14 : decode cJ1_charAt_3b067 14 = .ok (.ireturn, 1) := by decide +kernel
theorem dJ2_charAt_3b067_0 : decode cJ2_charAt_3b067 0 = .ok (.iload_n 1, 1) := by decide +kernel
theorem dJ2_charAt_3b067_1 : decode cJ2_charAt_3b067 1 = .ok (.aload_n 0, 1) := by decide +kernel
theorem dJ2_charAt_3b067_2 : decode cJ2_charAt_3b067 2 = .ok (.invokestatic 67, 3) := by decide +kernel
theorem dJ2_charAt_3b067_5 : decode cJ2_charAt_3b067 5 = .ok (.aload_n 0, 1) := by decide +kernel
theorem dJ2_charAt_3b067_6 : decode cJ2_charAt_3b067 6 = .ok (.iload_n 1, 1) := by decide +kernel
theorem dJ2_charAt_3b067_7 : decode cJ2_charAt_3b067 7 = .ok (.invokestatic 71, 3) := by decide +kernel
theorem dJ2_charAt_3b067_10 : decode cJ2_charAt_3b067 10 = .ok (.ireturn, 1) := by decide +kernel
theorem dJ2_checkIndex_2214a_0 : decode cJ2_checkIndex_2214a 0 = .ok (.iload_n 0, 1) := by decide +kernel
theorem dJ2_checkIndex_2214a_1 : decode cJ2_checkIndex_2214a 1 = .ok (.aload_n 1, 1) := by decide +kernel
theorem dJ2_checkIndex_2214a_2 : decode cJ2_checkIndex_2214a 2 = .ok (.invokestatic 48, 3) := by decide +kernel
theorem dJ2_checkIndex_2214a_5 : decode cJ2_checkIndex_2214a 5 = .ok (.invokestatic 414, 3) := by decide +kernel
theorem dJ2_checkIndex_2214a_8 : decode cJ2_checkIndex_2214a 8 = .ok (.return_, 1) := by decide +kernel
theorem dJ2_getChar_3b067_0 : decode cJ2_getChar_3b067 0 = .ok (.getstatic 44, 3) := by decide +kernel
theorem dJ2_getChar_3b067_3 : decode cJ2_getChar_3b067 3 = .ok (.ifCond .ne 25, 3) := by decide +kernel
theorem dJ2_getChar_3b067_6 : decode cJ2_getChar_3b067 6 = .ok (.iload_n 1, 1) := by decide +kernel
theorem dJ2_getChar_3b067_7 : decode cJ2_getChar_3b067 7 = .ok (.ifCond .lt 11, 3) := by decide +kernel
theorem dJ2_getChar_3b067_10 : decode cJ2_getChar_3b067 10 = .ok (.iload_n 1, 1) := by decide +kernel
theorem dJ2_getChar_3b067_11 : decode cJ2_getChar_3b067 11 = .ok (.aload_n 0, 1) := by decide +kernel
theorem dJ2_getChar_3b067_12 : decode cJ2_getChar_3b067 12 = .ok (.invokestatic 48, 3) := by decide +kernel
theorem dJ2_getChar_3b067_15 : decode cJ2_getChar_3b067 15 = .ok (.if_icmp .lt 13, 3) := by decide +kernel
theorem dJ2_getChar_3b067_18 : decode cJ2_getChar_3b067 18 = .ok (.new 52, 3) := by decide +kernel
theorem dJ2_getChar_3b067_21 : decode cJ2_getChar_3b067 21 = .ok (.dup, 1) := by decide +kernel
theorem dJ2_getChar_3b067_22 : decode cJ2_getChar_3b067 22 = .ok (.ldc 54, 2) := by decide +kernel
theorem dJ2_getChar_3b067_24 : decode cJ2_getChar_3b067 24 = .ok (.invokespecial 56, 3) := by decide +kernel
theorem dJ2_getChar_3b067_27 : decode cJ2_getChar_3b067 27 = .ok (.athrow, 1) := by decide +kernel
theorem dJ2_getChar_3b067_28 : decode cJ2_getChar_3b067 28 = .ok (.iload_n 1, 1) := by decide +kernel
theorem dJ2_getChar_3b067_29 : decode cJ2_getChar_3b067 29 = .ok (.iconst 1, 1) := by decide +kernel
theorem dJ2_getChar_3b067_30 : decode cJ2_getChar_3b067 30 = .ok (.ishl, 1) := by decide +kernel
theorem dJ2_getChar_3b067_31 : decode cJ2_getChar_3b067 31 = .ok (.istore_n 1, 1) := by decide +kernel
theorem dJ2_getChar_3b067_32 : decode cJ2_getChar_3b067 32 = .ok (.aload_n 0, 1) := by decide +kernel
theorem dJ2_getChar_3b067_33 : decode cJ2_getChar_3b067 33 = .ok (.iload_n 1, 1) := by decide +kernel
theorem dJ2_getChar_3b067_34 : decode cJ2_getChar_3b067 34 = .ok (.iinc 1 1, 3) := by decide +kernel
theorem dJ2_getChar_3b067_37 : decode cJ2_getChar_3b067 37 = .ok (.baload, 1) := by decide +kernel
theorem dJ2_getChar_3b067_38 : decode cJ2_getChar_3b067 38 = .ok (.sipush 255, 3) := by decide +kernel
theorem dJ2_getChar_3b067_41 : decode cJ2_getChar_3b067 41 = .ok (.iand, 1) := by decide +kernel
theorem dJ2_getChar_3b067_42 : decode cJ2_getChar_3b067 42 = .ok (.getstatic 59, 3) := by decide +kernel
theorem dJ2_getChar_3b067_45 : decode cJ2_getChar_3b067 45 = .ok (.ishl, 1) := by decide +kernel
theorem dJ2_getChar_3b067_46 : decode cJ2_getChar_3b067 46 = .ok (.aload_n 0, 1) := by decide +kernel
theorem dJ2_getChar_3b067_47 : decode cJ2_getChar_3b067 47 = .ok (.iload_n 1, 1) := by decide +kernel
theorem dJ2_getChar_3b067_48 : decode cJ2_getChar_3b067 48 = .ok (.baload, 1) := by decide +kernel
theorem dJ2_getChar_3b067_49 : decode cJ2_getChar_3b067 49 = .ok (.sipush 255, 3) := by decide +kernel
theorem dJ2_getChar_3b067_52 : decode cJ2_getChar_3b067 52 = .ok (.iand, 1) := by decide +kernel
theorem dJ2_getChar_3b067_53 : decode cJ2_getChar_3b067 53 = .ok (.getstatic 63, 3) := by decide +kernel
theorem dJ2_getChar_3b067_56 : decode cJ2_getChar_3b067 56 = .ok (.ishl, 1) := by decide +kernel
theorem dJ2_getChar_3b067_57 : decode cJ2_getChar_3b067 57 = .ok (.ior, 1) := by decide +kernel
theorem dJ2_getChar_3b067_58 : decode cJ2_getChar_3b067 58 = .ok (.i2c, 1) := by decide +kernel
theorem dJ2_getChar_3b067_59 : decode cJ2_getChar_3b067 59 = .ok (.ireturn, 1) := by decide +kernel
theorem dJ2_length_9d52b_0 : decode cJ2_length_9d52b 0 = .ok (.aload_n 0, 1) := by decide +kernel
theorem dJ2_length_9d52b_1 : decode cJ2_length_9d52b 1 = .ok (.arraylength, 1) := by decide +kernel
theorem dJ2_length_9d52b_2 : decode cJ2_length_9d52b 2 = .ok (.iconst 1, 1) := by decide +kernel
theorem dJ2_length_9d52b_3 : decode cJ2_length_9d52b 3 = .ok (.ishr, 1) := by decide +kernel
theorem dJ2_length_9d52b_4 : decode cJ2_length_9d52b 4 = .ok (.ireturn, 1) := by decide +kernel
theorem dJ3_checkIndex_8e157_0 : decode cJ3_checkIndex_8e157 0 = .ok (.iload_n 0, 1) := by decide +kernel
theorem dJ3_checkIndex_8e157_1 : decode cJ3_checkIndex_8e157 1 = .ok (.ifCond .lt 8, 3) := by decide +kernel
theorem dJ3_checkIndex_8e157_4 : decode cJ3_checkIndex_8e157 4 = .ok (.iload_n 0, 1) := by decide +kernel
theorem dJ3_checkIndex_8e157_5 : decode cJ3_checkIndex_8e157 5 = .ok (.iload_n 1, 1) := by decide +kernel
theorem dJ3_checkIndex_8e157_6 : decode cJ3_checkIndex_8e157 6 = .ok (.if_icmp .lt 10, 3) := by decide +kernel
theorem dJ3_checkIndex_8e157_9 : decode cJ3_checkIndex_8e157 9 = .ok (.aload_n 2, 1) := by decide +kernel
theorem dJ3_checkIndex_8e157_10 : decode cJ3_checkIndex_8e157 10 = .ok (.iload_n 0, 1) := by decide +kernel
theorem dJ3_checkIndex_8e157_11 : decode cJ3_checkIndex_8e157 11 = .ok (.iload_n 1, 1) := by decide +kernel
theorem dJ3_checkIndex_8e157_12 : decode cJ3_checkIndex_8e157 12 = .ok (.invokestatic 95, 3) := by decide +kernel
theorem dJ3_checkIndex_8e157_15 : decode cJ3_checkIndex_8e157 15 = .ok (.athrow, 1) := by decide +kernel
theorem dJ3_checkIndex_8e157_16 : decode cJ3_checkIndex_8e157 16 = .ok (.iload_n 0, 1) := by decide +kernel
theorem dJ3_checkIndex_8e157_17 : decode cJ3_checkIndex_8e157 17 = .ok (.ireturn, 1) := by decide +kernel
theorem dJ6_bitCount_0f7a4_0 : decode cJ6_bitCount_0f7a4 0 = .ok (.iload_n 0, 1) := by decide +kernel
theorem dJ6_bitCount_0f7a4_1 : decode cJ6_bitCount_0f7a4 1 = .ok (.iload_n 0, 1) := by decide +kernel
theorem dJ6_bitCount_0f7a4_2 : decode cJ6_bitCount_0f7a4 2 = .ok (.iconst 1, 1) := by decide +kernel
theorem dJ6_bitCount_0f7a4_3 : decode cJ6_bitCount_0f7a4 3 = .ok (.iushr, 1) := by decide +kernel
theorem dJ6_bitCount_0f7a4_4 : decode cJ6_bitCount_0f7a4 4 = .ok (.ldc_w 265, 3) := by decide +kernel
theorem dJ6_bitCount_0f7a4_7 : decode cJ6_bitCount_0f7a4 7 = .ok (.iand, 1) := by decide +kernel
theorem dJ6_bitCount_0f7a4_8 : decode cJ6_bitCount_0f7a4 8 = .ok (.isub, 1) := by decide +kernel
theorem dJ6_bitCount_0f7a4_9 : decode cJ6_bitCount_0f7a4 9 = .ok (.istore_n 0, 1) := by decide +kernel
theorem dJ6_bitCount_0f7a4_10 : decode cJ6_bitCount_0f7a4 10 = .ok (.iload_n 0, 1) := by decide +kernel
theorem dJ6_bitCount_0f7a4_11 : decode cJ6_bitCount_0f7a4 11 = .ok (.ldc_w 266, 3) := by decide +kernel
theorem dJ6_bitCount_0f7a4_14 : decode cJ6_bitCount_0f7a4 14 = .ok (.iand, 1) := by decide +kernel
theorem dJ6_bitCount_0f7a4_15 : decode cJ6_bitCount_0f7a4 15 = .ok (.iload_n 0, 1) := by decide +kernel
theorem dJ6_bitCount_0f7a4_16 : decode cJ6_bitCount_0f7a4 16 = .ok (.iconst 2, 1) := by decide +kernel
theorem dJ6_bitCount_0f7a4_17 : decode cJ6_bitCount_0f7a4 17 = .ok (.iushr, 1) := by decide +kernel
theorem dJ6_bitCount_0f7a4_18 : decode cJ6_bitCount_0f7a4 18 = .ok (.ldc_w 266, 3) := by decide +kernel
theorem dJ6_bitCount_0f7a4_21 : decode cJ6_bitCount_0f7a4 21 = .ok (.iand, 1) := by decide +kernel
theorem dJ6_bitCount_0f7a4_22 : decode cJ6_bitCount_0f7a4 22 = .ok (.iadd, 1) := by decide +kernel
theorem dJ6_bitCount_0f7a4_23 : decode cJ6_bitCount_0f7a4 23 = .ok (.istore_n 0, 1) := by decide +kernel
theorem dJ6_bitCount_0f7a4_24 : decode cJ6_bitCount_0f7a4 24 = .ok (.iload_n 0, 1) := by decide +kernel
theorem dJ6_bitCount_0f7a4_25 : decode cJ6_bitCount_0f7a4 25 = .ok (.iload_n 0, 1) := by decide +kernel
theorem dJ6_bitCount_0f7a4_26 : decode cJ6_bitCount_0f7a4 26 = .ok (.iconst 4, 1) := by decide +kernel
theorem dJ6_bitCount_0f7a4_27 : decode cJ6_bitCount_0f7a4 27 = .ok (.iushr, 1) := by decide +kernel
theorem dJ6_bitCount_0f7a4_28 : decode cJ6_bitCount_0f7a4 28 = .ok (.iadd, 1) := by decide +kernel
theorem dJ6_bitCount_0f7a4_29 : decode cJ6_bitCount_0f7a4 29 = .ok (.ldc_w 267, 3) := by decide +kernel
theorem dJ6_bitCount_0f7a4_32 : decode cJ6_bitCount_0f7a4 32 = .ok (.iand, 1) := by decide +kernel
theorem dJ6_bitCount_0f7a4_33 : decode cJ6_bitCount_0f7a4 33 = .ok (.istore_n 0, 1) := by decide +kernel
theorem dJ6_bitCount_0f7a4_34 : decode cJ6_bitCount_0f7a4 34 = .ok (.iload_n 0, 1) := by decide +kernel
theorem dJ6_bitCount_0f7a4_35 : decode cJ6_bitCount_0f7a4 35 = .ok (.iload_n 0, 1) := by decide +kernel
theorem dJ6_bitCount_0f7a4_36 : decode cJ6_bitCount_0f7a4 36 = .ok (.bipush 8, 2) := by decide +kernel
theorem dJ6_bitCount_0f7a4_38 : decode cJ6_bitCount_0f7a4 38 = .ok (.iushr, 1) := by decide +kernel
theorem dJ6_bitCount_0f7a4_39 : decode cJ6_bitCount_0f7a4 39 = .ok (.iadd, 1) := by decide +kernel
theorem dJ6_bitCount_0f7a4_40 : decode cJ6_bitCount_0f7a4 40 = .ok (.istore_n 0, 1) := by decide +kernel
theorem dJ6_bitCount_0f7a4_41 : decode cJ6_bitCount_0f7a4 41 = .ok (.iload_n 0, 1) := by decide +kernel
theorem dJ6_bitCount_0f7a4_42 : decode cJ6_bitCount_0f7a4 42 = .ok (.iload_n 0, 1) := by decide +kernel
theorem dJ6_bitCount_0f7a4_43 : decode cJ6_bitCount_0f7a4 43 = .ok (.bipush 16, 2) := by decide +kernel
theorem dJ6_bitCount_0f7a4_45 : decode cJ6_bitCount_0f7a4 45 = .ok (.iushr, 1) := by decide +kernel
theorem dJ6_bitCount_0f7a4_46 : decode cJ6_bitCount_0f7a4 46 = .ok (.iadd, 1) := by decide +kernel
theorem dJ6_bitCount_0f7a4_47 : decode cJ6_bitCount_0f7a4 47 = .ok (.istore_n 0, 1) := by decide +kernel
theorem dJ6_bitCount_0f7a4_48 : decode cJ6_bitCount_0f7a4 48 = .ok (.iload_n 0, 1) := by decide +kernel
theorem dJ6_bitCount_0f7a4_49 : decode cJ6_bitCount_0f7a4 49 = .ok (.bipush 63, 2) := by decide +kernel
theorem dJ6_bitCount_0f7a4_51 : decode cJ6_bitCount_0f7a4 51 = .ok (.iand, 1) := by decide +kernel
theorem dJ6_bitCount_0f7a4_52 : decode cJ6_bitCount_0f7a4 52 = .ok (.ireturn, 1) := by decide +kernel
theorem dJ7_fill_53178_0 : decode cJ7_fill_53178 0 = .ok (.iconst 0, 1) := by decide +kernel
theorem dJ7_fill_53178_1 : decode cJ7_fill_53178 1 = .ok (.istore_n 2, 1) := by decide +kernel
theorem dJ7_fill_53178_2 : decode cJ7_fill_53178 2 = .ok (.aload_n 0, 1) := by decide +kernel
theorem dJ7_fill_53178_3 : decode cJ7_fill_53178 3 = .ok (.arraylength, 1) := by decide +kernel
theorem dJ7_fill_53178_4 : decode cJ7_fill_53178 4 = .ok (.istore_n 3, 1) := by decide +kernel
theorem dJ7_fill_53178_5 : decode cJ7_fill_53178 5 = .ok (.iload_n 2, 1) := by decide +kernel
theorem dJ7_fill_53178_6 : decode cJ7_fill_53178 6 = .ok (.iload_n 3, 1) := by decide +kernel
theorem dJ7_fill_53178_7 : decode cJ7_fill_53178 7 = .ok (.if_icmp .ge 13, 3) := by decide +kernel
theorem dJ7_fill_53178_10 : decode cJ7_fill_53178 10 = .ok (.aload_n 0, 1) := by decide +kernel
theorem dJ7_fill_53178_11 : decode cJ7_fill_53178 11 = .ok (.iload_n 2, 1) := by decide +kernel
theorem dJ7_fill_53178_12 : decode cJ7_fill_53178 12 = .ok (.iload_n 1, 1) := by decide +kernel
theorem dJ7_fill_53178_13 : decode cJ7_fill_53178 13 = .ok (.iastore, 1) := by decide +kernel
theorem dJ7_fill_53178_14 : decode cJ7_fill_53178 14 = .ok (.iinc 2 1, 3) := by decide +kernel
theorem dJ7_fill_53178_17 : decode cJ7_fill_53178 17 = .ok (.goto (-12), 3) := by decide +kernel
theorem dJ7_fill_53178_20 : decode cJ7_fill_53178 20 = .ok (.return_, 1) := by decide +kernel
theorem dJ7_fill_d0a16_0 : decode cJ7_fill_d0a16 0 = .ok (.iconst 0, 1) := by decide +kernel
theorem dJ7_fill_d0a16_1 : decode cJ7_fill_d0a16 1 = .ok (.istore_n 3, 1) := by decide +kernel
theorem dJ7_fill_d0a16_2 : decode cJ7_fill_d0a16 2 = .ok (.aload_n 0, 1) := by decide +kernel
theorem dJ7_fill_d0a16_3 : decode cJ7_fill_d0a16 3 = .ok (.arraylength, 1) := by decide +kernel
theorem dJ7_fill_d0a16_4 : decode cJ7_fill_d0a16 4 = .ok (.istore 4, 2) := by decide +kernel
theorem dJ7_fill_d0a16_6 : decode cJ7_fill_d0a16 6 = .ok (.iload_n 3, 1) := by decide +kernel
theorem dJ7_fill_d0a16_7 : decode cJ7_fill_d0a16 7 = .ok (.iload 4, 2) := by decide +kernel
theorem dJ7_fill_d0a16_9 : decode cJ7_fill_d0a16 9 = .ok (.if_icmp .ge 13, 3) := by decide +kernel
theorem dJ7_fill_d0a16_12 : decode cJ7_fill_d0a16 12 = .ok (.aload_n 0, 1) := by decide +kernel
theorem dJ7_fill_d0a16_13 : decode cJ7_fill_d0a16 13 = .ok (.iload_n 3, 1) := by decide +kernel
theorem dJ7_fill_d0a16_14 : decode cJ7_fill_d0a16 14 = .ok (.lload_n 1, 1) := by decide +kernel
theorem dJ7_fill_d0a16_15 : decode cJ7_fill_d0a16 15 = .ok (.lastore, 1) := by decide +kernel
theorem dJ7_fill_d0a16_16 : decode cJ7_fill_d0a16 16 = .ok (.iinc 3 1, 3) := by decide +kernel
theorem dJ7_fill_d0a16_19 : decode cJ7_fill_d0a16 19 = .ok (.goto (-13), 3) := by decide +kernel
theorem dJ7_fill_d0a16_22 : decode cJ7_fill_d0a16 22 = .ok (.return_, 1) := by decide +kernel
theorem dJ9_max_7cf53_0 : decode cJ9_max_7cf53 0 = .ok (.iload_n 0, 1) := by decide +kernel
theorem dJ9_max_7cf53_1 : decode cJ9_max_7cf53 1 = .ok (.iload_n 1, 1) := by decide +kernel
theorem dJ9_max_7cf53_2 : decode cJ9_max_7cf53 2 = .ok (.if_icmp .lt 7, 3) := by decide +kernel
theorem dJ9_max_7cf53_5 : decode cJ9_max_7cf53 5 = .ok (.iload_n 0, 1) := by decide +kernel
theorem dJ9_max_7cf53_6 : decode cJ9_max_7cf53 6 = .ok (.goto 4, 3) := by decide +kernel
theorem dJ9_max_7cf53_9 : decode cJ9_max_7cf53 9 = .ok (.iload_n 1, 1) := by decide +kernel
theorem dJ9_max_7cf53_10 : decode cJ9_max_7cf53 10 = .ok (.ireturn, 1) := by decide +kernel
theorem dJ9_max_f86c9_0 : decode cJ9_max_f86c9 0 = .ok (.lload_n 0, 1) := by decide +kernel
theorem dJ9_max_f86c9_1 : decode cJ9_max_f86c9 1 = .ok (.lload_n 2, 1) := by decide +kernel
theorem dJ9_max_f86c9_2 : decode cJ9_max_f86c9 2 = .ok (.lcmp, 1) := by decide +kernel
theorem dJ9_max_f86c9_3 : decode cJ9_max_f86c9 3 = .ok (.ifCond .lt 7, 3) := by decide +kernel
theorem dJ9_max_f86c9_6 : decode cJ9_max_f86c9 6 = .ok (.lload_n 0, 1) := by decide +kernel
theorem dJ9_max_f86c9_7 : decode cJ9_max_f86c9 7 = .ok (.goto 4, 3) := by decide +kernel
theorem dJ9_max_f86c9_10 : decode cJ9_max_f86c9 10 = .ok (.lload_n 2, 1) := by decide +kernel
theorem dJ9_max_f86c9_11 : decode cJ9_max_f86c9 11 = .ok (.lreturn, 1) := by decide +kernel
theorem dJ9_min_7cf53_0 : decode cJ9_min_7cf53 0 = .ok (.iload_n 0, 1) := by decide +kernel
theorem dJ9_min_7cf53_1 : decode cJ9_min_7cf53 1 = .ok (.iload_n 1, 1) := by decide +kernel
theorem dJ9_min_7cf53_2 : decode cJ9_min_7cf53 2 = .ok (.if_icmp .gt 7, 3) := by decide +kernel
theorem dJ9_min_7cf53_5 : decode cJ9_min_7cf53 5 = .ok (.iload_n 0, 1) := by decide +kernel
theorem dJ9_min_7cf53_6 : decode cJ9_min_7cf53 6 = .ok (.goto 4, 3) := by decide +kernel
theorem dJ9_min_7cf53_9 : decode cJ9_min_7cf53 9 = .ok (.iload_n 1, 1) := by decide +kernel
theorem dJ9_min_7cf53_10 : decode cJ9_min_7cf53 10 = .ok (.ireturn, 1) := by decide +kernel
theorem dJ9_min_f86c9_0 : decode cJ9_min_f86c9 0 = .ok (.lload_n 0, 1) := by decide +kernel
theorem dJ9_min_f86c9_1 : decode cJ9_min_f86c9 1 = .ok (.lload_n 2, 1) := by decide +kernel
theorem dJ9_min_f86c9_2 : decode cJ9_min_f86c9 2 = .ok (.lcmp, 1) := by decide +kernel
theorem dJ9_min_f86c9_3 : decode cJ9_min_f86c9 3 = .ok (.ifCond .gt 7, 3) := by decide +kernel
theorem dJ9_min_f86c9_6 : decode cJ9_min_f86c9 6 = .ok (.lload_n 0, 1) := by decide +kernel
theorem dJ9_min_f86c9_7 : decode cJ9_min_f86c9 7 = .ok (.goto 4, 3) := by decide +kernel
theorem dJ9_min_f86c9_10 : decode cJ9_min_f86c9 10 = .ok (.lload_n 2, 1) := by decide +kernel
theorem dJ9_min_f86c9_11 : decode cJ9_min_f86c9 11 = .ok (.lreturn, 1) := by decide +kernel
theorem dL_law_0 : decode cL_law 0 = .ok (.new 7, 3) := by decide +kernel
theorem dL_law_3 : decode cL_law 3 = .ok (.dup, 1) := by decide +kernel
theorem dL_law_4 : decode cL_law 4 = .ok (.invokespecial 9, 3) := by decide +kernel
theorem dL_law_7 : decode cL_law 7 = .ok (.astore_n 1, 1) := by decide +kernel
theorem dL_law_8 : decode cL_law 8 = .ok (.new 10, 3) := by decide +kernel
theorem dL_law_11 : decode cL_law 11 = .ok (.dup, 1) := by decide +kernel
theorem dL_law_12 : decode cL_law 12 = .ok (.invokespecial 12, 3) := by decide +kernel
theorem dL_law_15 : decode cL_law 15 = .ok (.astore_n 2, 1) := by decide +kernel
theorem dL_law_16 : decode cL_law 16 = .ok (.iconst 0, 1) := by decide +kernel
theorem dL_law_17 : decode cL_law 17 = .ok (.istore_n 3, 1) := by decide +kernel
theorem dL_law_18 : decode cL_law 18 = .ok (.iload_n 3, 1) := by decide +kernel
theorem dL_law_19 : decode cL_law 19 = .ok (.aload_n 0, 1) := by decide +kernel
theorem dL_law_20 : decode cL_law 20 = .ok (.arraylength, 1) := by decide +kernel
theorem dL_law_21 : decode cL_law 21 = .ok (.bipush 6, 2) := by decide +kernel
theorem dL_law_23 : decode cL_law 23 = .ok (.isub, 1) := by decide +kernel
theorem dL_law_24 : decode cL_law 24 = .ok (.if_icmp .gt 1080, 3) := by decide +kernel
theorem dL_law_27 : decode cL_law 27 = .ok (.aload_n 0, 1) := by decide +kernel
theorem dL_law_28 : decode cL_law 28 = .ok (.iload_n 3, 1) := by decide +kernel
theorem dL_law_29 : decode cL_law 29 = .ok (.iaload, 1) := by decide +kernel
theorem dL_law_30 : decode cL_law 30 = .ok (.bipush 31, 2) := by decide +kernel
theorem dL_law_32 : decode cL_law 32 = .ok (.iand, 1) := by decide +kernel
theorem dL_law_33 : decode cL_law 33 = .ok (.tableswitch 1065 0 31 #[143, 206, 229, 242, 265, 324, 357, 420, 463, 496, 519, 542, 565, 588, 621, 664, 697, 730, 743, 766, 789, 812, 825, 858, 881, 904, 917, 930, 953, 976, 1019, 1042], 143) := by decide +kernel
theorem dL_law_176 : decode cL_law 176 = .ok (.aload_n 1, 1) := by decide +kernel
theorem dL_law_177 : decode cL_law 177 = .ok (.aload_n 0, 1) := by decide +kernel
theorem dL_law_178 : decode cL_law 178 = .ok (.iload_n 3, 1) := by decide +kernel
theorem dL_law_179 : decode cL_law 179 = .ok (.iconst 1, 1) := by decide +kernel
theorem dL_law_180 : decode cL_law 180 = .ok (.iadd, 1) := by decide +kernel
theorem dL_law_181 : decode cL_law 181 = .ok (.iaload, 1) := by decide +kernel
theorem dL_law_182 : decode cL_law 182 = .ok (.aload_n 0, 1) := by decide +kernel
theorem dL_law_183 : decode cL_law 183 = .ok (.iload_n 3, 1) := by decide +kernel
theorem dL_law_184 : decode cL_law 184 = .ok (.iconst 2, 1) := by decide +kernel
theorem dL_law_185 : decode cL_law 185 = .ok (.iadd, 1) := by decide +kernel
theorem dL_law_186 : decode cL_law 186 = .ok (.iaload, 1) := by decide +kernel
theorem dL_law_187 : decode cL_law 187 = .ok (.aload_n 0, 1) := by decide +kernel
theorem dL_law_188 : decode cL_law 188 = .ok (.iload_n 3, 1) := by decide +kernel
theorem dL_law_189 : decode cL_law 189 = .ok (.iconst 3, 1) := by decide +kernel
theorem dL_law_190 : decode cL_law 190 = .ok (.iadd, 1) := by decide +kernel
theorem dL_law_191 : decode cL_law 191 = .ok (.iaload, 1) := by decide +kernel
theorem dL_law_192 : decode cL_law 192 = .ok (.aload_n 0, 1) := by decide +kernel
theorem dL_law_193 : decode cL_law 193 = .ok (.iload_n 3, 1) := by decide +kernel
theorem dL_law_194 : decode cL_law 194 = .ok (.iconst 4, 1) := by decide +kernel
theorem dL_law_195 : decode cL_law 195 = .ok (.iadd, 1) := by decide +kernel
theorem dL_law_196 : decode cL_law 196 = .ok (.iaload, 1) := by decide +kernel
theorem dL_law_197 : decode cL_law 197 = .ok (.aload_n 0, 1) := by decide +kernel
theorem dL_law_198 : decode cL_law 198 = .ok (.iload_n 3, 1) := by decide +kernel
theorem dL_law_199 : decode cL_law 199 = .ok (.iconst 5, 1) := by decide +kernel
theorem dL_law_200 : decode cL_law 200 = .ok (.iadd, 1) := by decide +kernel
theorem dL_law_201 : decode cL_law 201 = .ok (.iaload, 1) := by decide +kernel
theorem dL_law_202 : decode cL_law 202 = .ok (.invokevirtual 13, 3) := by decide +kernel
theorem dL_law_205 : decode cL_law 205 = .ok (.pop, 1) := by decide +kernel
theorem dL_law_206 : decode cL_law 206 = .ok (.aload_n 2, 1) := by decide +kernel
theorem dL_law_207 : decode cL_law 207 = .ok (.aload_n 0, 1) := by decide +kernel
theorem dL_law_208 : decode cL_law 208 = .ok (.iload_n 3, 1) := by decide +kernel
theorem dL_law_209 : decode cL_law 209 = .ok (.iconst 1, 1) := by decide +kernel
theorem dL_law_210 : decode cL_law 210 = .ok (.iadd, 1) := by decide +kernel
theorem dL_law_211 : decode cL_law 211 = .ok (.iaload, 1) := by decide +kernel
theorem dL_law_212 : decode cL_law 212 = .ok (.aload_n 0, 1) := by decide +kernel
theorem dL_law_213 : decode cL_law 213 = .ok (.iload_n 3, 1) := by decide +kernel
theorem dL_law_214 : decode cL_law 214 = .ok (.iconst 2, 1) := by decide +kernel
theorem dL_law_215 : decode cL_law 215 = .ok (.iadd, 1) := by decide +kernel
theorem dL_law_216 : decode cL_law 216 = .ok (.iaload, 1) := by decide +kernel
theorem dL_law_217 : decode cL_law 217 = .ok (.aload_n 0, 1) := by decide +kernel
theorem dL_law_218 : decode cL_law 218 = .ok (.iload_n 3, 1) := by decide +kernel
theorem dL_law_219 : decode cL_law 219 = .ok (.iconst 3, 1) := by decide +kernel
theorem dL_law_220 : decode cL_law 220 = .ok (.iadd, 1) := by decide +kernel
theorem dL_law_221 : decode cL_law 221 = .ok (.iaload, 1) := by decide +kernel
theorem dL_law_222 : decode cL_law 222 = .ok (.aload_n 0, 1) := by decide +kernel
theorem dL_law_223 : decode cL_law 223 = .ok (.iload_n 3, 1) := by decide +kernel
theorem dL_law_224 : decode cL_law 224 = .ok (.iconst 4, 1) := by decide +kernel
theorem dL_law_225 : decode cL_law 225 = .ok (.iadd, 1) := by decide +kernel
theorem dL_law_226 : decode cL_law 226 = .ok (.iaload, 1) := by decide +kernel
theorem dL_law_227 : decode cL_law 227 = .ok (.aload_n 0, 1) := by decide +kernel
theorem dL_law_228 : decode cL_law 228 = .ok (.iload_n 3, 1) := by decide +kernel
theorem dL_law_229 : decode cL_law 229 = .ok (.iconst 5, 1) := by decide +kernel
theorem dL_law_230 : decode cL_law 230 = .ok (.iadd, 1) := by decide +kernel
theorem dL_law_231 : decode cL_law 231 = .ok (.iaload, 1) := by decide +kernel
theorem dL_law_232 : decode cL_law 232 = .ok (.invokevirtual 17, 3) := by decide +kernel
theorem dL_law_235 : decode cL_law 235 = .ok (.pop, 1) := by decide +kernel
theorem dL_law_236 : decode cL_law 236 = .ok (.goto 862, 3) := by decide +kernel
theorem dL_law_239 : decode cL_law 239 = .ok (.aload_n 1, 1) := by decide +kernel
theorem dL_law_240 : decode cL_law 240 = .ok (.aload_n 0, 1) := by decide +kernel
theorem dL_law_241 : decode cL_law 241 = .ok (.iload_n 3, 1) := by decide +kernel
theorem dL_law_242 : decode cL_law 242 = .ok (.iconst 1, 1) := by decide +kernel
theorem dL_law_243 : decode cL_law 243 = .ok (.iadd, 1) := by decide +kernel
theorem dL_law_244 : decode cL_law 244 = .ok (.iaload, 1) := by decide +kernel
theorem dL_law_245 : decode cL_law 245 = .ok (.invokevirtual 18, 3) := by decide +kernel
theorem dL_law_248 : decode cL_law 248 = .ok (.pop, 1) := by decide +kernel
theorem dL_law_249 : decode cL_law 249 = .ok (.aload_n 2, 1) := by decide +kernel
theorem dL_law_250 : decode cL_law 250 = .ok (.aload_n 0, 1) := by decide +kernel
theorem dL_law_251 : decode cL_law 251 = .ok (.iload_n 3, 1) := by decide +kernel
theorem dL_law_252 : decode cL_law 252 = .ok (.iconst 1, 1) := by decide +kernel
theorem dL_law_253 : decode cL_law 253 = .ok (.iadd, 1) := by decide +kernel
theorem dL_law_254 : decode cL_law 254 = .ok (.iaload, 1) := by decide +kernel
theorem dL_law_255 : decode cL_law 255 = .ok (.invokevirtual 22, 3) := by decide +kernel
theorem dL_law_258 : decode cL_law 258 = .ok (.pop, 1) := by decide +kernel
theorem dL_law_259 : decode cL_law 259 = .ok (.goto 839, 3) := by decide +kernel
theorem dL_law_262 : decode cL_law 262 = .ok (.aload_n 1, 1) := by decide +kernel
theorem dL_law_263 : decode cL_law 263 = .ok (.invokevirtual 23, 3) := by decide +kernel
theorem dL_law_266 : decode cL_law 266 = .ok (.pop, 1) := by decide +kernel
theorem dL_law_267 : decode cL_law 267 = .ok (.aload_n 2, 1) := by decide +kernel
theorem dL_law_268 : decode cL_law 268 = .ok (.invokevirtual 27, 3) := by decide +kernel
theorem dL_law_271 : decode cL_law 271 = .ok (.pop, 1) := by decide +kernel
theorem dL_law_272 : decode cL_law 272 = .ok (.goto 826, 3) := by decide +kernel
theorem dL_law_275 : decode cL_law 275 = .ok (.aload_n 1, 1) := by decide +kernel
theorem dL_law_276 : decode cL_law 276 = .ok (.aload_n 0, 1) := by decide +kernel
theorem dL_law_277 : decode cL_law 277 = .ok (.iload_n 3, 1) := by decide +kernel
theorem dL_law_278 : decode cL_law 278 = .ok (.iconst 1, 1) := by decide +kernel
theorem dL_law_279 : decode cL_law 279 = .ok (.iadd, 1) := by decide +kernel
theorem dL_law_280 : decode cL_law 280 = .ok (.iaload, 1) := by decide +kernel
theorem dL_law_281 : decode cL_law 281 = .ok (.invokevirtual 28, 3) := by decide +kernel
theorem dL_law_284 : decode cL_law 284 = .ok (.pop, 1) := by decide +kernel
theorem dL_law_285 : decode cL_law 285 = .ok (.aload_n 2, 1) := by decide +kernel
theorem dL_law_286 : decode cL_law 286 = .ok (.aload_n 0, 1) := by decide +kernel
theorem dL_law_287 : decode cL_law 287 = .ok (.iload_n 3, 1) := by decide +kernel
theorem dL_law_288 : decode cL_law 288 = .ok (.iconst 1, 1) := by decide +kernel
theorem dL_law_289 : decode cL_law 289 = .ok (.iadd, 1) := by decide +kernel
theorem dL_law_290 : decode cL_law 290 = .ok (.iaload, 1) := by decide +kernel
theorem dL_law_291 : decode cL_law 291 = .ok (.invokevirtual 32, 3) := by decide +kernel
theorem dL_law_294 : decode cL_law 294 = .ok (.pop, 1) := by decide +kernel
theorem dL_law_295 : decode cL_law 295 = .ok (.goto 803, 3) := by decide +kernel
theorem dL_law_298 : decode cL_law 298 = .ok (.aload_n 1, 1) := by decide +kernel
theorem dL_law_299 : decode cL_law 299 = .ok (.aload_n 0, 1) := by decide +kernel
theorem dL_law_300 : decode cL_law 300 = .ok (.iload_n 3, 1) := by decide +kernel
theorem dL_law_301 : decode cL_law 301 = .ok (.iconst 1, 1) := by decide +kernel
theorem dL_law_302 : decode cL_law 302 = .ok (.iadd, 1) := by decide +kernel
theorem dL_law_303 : decode cL_law 303 = .ok (.iaload, 1) := by decide +kernel
theorem dL_law_304 : decode cL_law 304 = .ok (.ifCond .eq 7, 3) := by decide +kernel
theorem dL_law_307 : decode cL_law 307 = .ok (.iconst 1, 1) := by decide +kernel
theorem dL_law_308 : decode cL_law 308 = .ok (.goto 4, 3) := by decide +kernel
theorem dL_law_311 : decode cL_law 311 = .ok (.iconst 0, 1) := by decide +kernel
theorem dL_law_312 : decode cL_law 312 = .ok (.aload_n 0, 1) := by decide +kernel
theorem dL_law_313 : decode cL_law 313 = .ok (.iload_n 3, 1) := by decide +kernel
theorem dL_law_314 : decode cL_law 314 = .ok (.iconst 2, 1) := by decide +kernel
theorem dL_law_315 : decode cL_law 315 = .ok (.iadd, 1) := by decide +kernel
theorem dL_law_316 : decode cL_law 316 = .ok (.iaload, 1) := by decide +kernel
theorem dL_law_317 : decode cL_law 317 = .ok (.aload_n 0, 1) := by decide +kernel
theorem dL_law_318 : decode cL_law 318 = .ok (.iload_n 3, 1) := by decide +kernel
theorem dL_law_319 : decode cL_law 319 = .ok (.iconst 3, 1) := by decide +kernel
theorem dL_law_320 : decode cL_law 320 = .ok (.iadd, 1) := by decide +kernel
theorem dL_law_321 : decode cL_law 321 = .ok (.iaload, 1) := by decide +kernel
theorem dL_law_322 : decode cL_law 322 = .ok (.invokevirtual 33, 3) := by decide +kernel
theorem dL_law_325 : decode cL_law 325 = .ok (.pop, 1) := by decide +kernel
theorem dL_law_326 : decode cL_law 326 = .ok (.aload_n 2, 1) := by decide +kernel
theorem dL_law_327 : decode cL_law 327 = .ok (.aload_n 0, 1) := by decide +kernel
theorem dL_law_328 : decode cL_law 328 = .ok (.iload_n 3, 1) := by decide +kernel
theorem dL_law_329 : decode cL_law 329 = .ok (.iconst 1, 1) := by decide +kernel
theorem dL_law_330 : decode cL_law 330 = .ok (.iadd, 1) := by decide +kernel
theorem dL_law_331 : decode cL_law 331 = .ok (.iaload, 1) := by decide +kernel
theorem dL_law_332 : decode cL_law 332 = .ok (.ifCond .eq 7, 3) := by decide +kernel
theorem dL_law_335 : decode cL_law 335 = .ok (.iconst 1, 1) := by decide +kernel
theorem dL_law_336 : decode cL_law 336 = .ok (.goto 4, 3) := by decide +kernel
theorem dL_law_339 : decode cL_law 339 = .ok (.iconst 0, 1) := by decide +kernel
theorem dL_law_340 : decode cL_law 340 = .ok (.aload_n 0, 1) := by decide +kernel
theorem dL_law_341 : decode cL_law 341 = .ok (.iload_n 3, 1) := by decide +kernel
theorem dL_law_342 : decode cL_law 342 = .ok (.iconst 2, 1) := by decide +kernel
theorem dL_law_343 : decode cL_law 343 = .ok (.iadd, 1) := by decide +kernel
theorem dL_law_344 : decode cL_law 344 = .ok (.iaload, 1) := by decide +kernel
theorem dL_law_345 : decode cL_law 345 = .ok (.aload_n 0, 1) := by decide +kernel
theorem dL_law_346 : decode cL_law 346 = .ok (.iload_n 3, 1) := by decide +kernel
theorem dL_law_347 : decode cL_law 347 = .ok (.iconst 3, 1) := by decide +kernel
theorem dL_law_348 : decode cL_law 348 = .ok (.iadd, 1) := by decide +kernel
theorem dL_law_349 : decode cL_law 349 = .ok (.iaload, 1) := by decide +kernel
theorem dL_law_350 : decode cL_law 350 = .ok (.invokevirtual 37, 3) := by decide +kernel
theorem dL_law_353 : decode cL_law 353 = .ok (.pop, 1) := by decide +kernel
theorem dL_law_354 : decode cL_law 354 = .ok (.goto 744, 3) := by decide +kernel
theorem dL_law_357 : decode cL_law 357 = .ok (.aload_n 1, 1) := by decide +kernel
theorem dL_law_358 : decode cL_law 358 = .ok (.aload_n 0, 1) := by decide +kernel
theorem dL_law_359 : decode cL_law 359 = .ok (.iload_n 3, 1) := by decide +kernel
theorem dL_law_360 : decode cL_law 360 = .ok (.iconst 1, 1) := by decide +kernel
theorem dL_law_361 : decode cL_law 361 = .ok (.iadd, 1) := by decide +kernel
theorem dL_law_362 : decode cL_law 362 = .ok (.iaload, 1) := by decide +kernel
theorem dL_law_363 : decode cL_law 363 = .ok (.aload_n 0, 1) := by decide +kernel
theorem dL_law_364 : decode cL_law 364 = .ok (.iload_n 3, 1) := by decide +kernel
theorem dL_law_365 : decode cL_law 365 = .ok (.iconst 2, 1) := by decide +kernel
theorem dL_law_366 : decode cL_law 366 = .ok (.iadd, 1) := by decide +kernel
theorem dL_law_367 : decode cL_law 367 = .ok (.iaload, 1) := by decide +kernel
theorem dL_law_368 : decode cL_law 368 = .ok (.invokevirtual 38, 3) := by decide +kernel
theorem dL_law_371 : decode cL_law 371 = .ok (.pop, 1) := by decide +kernel
theorem dL_law_372 : decode cL_law 372 = .ok (.aload_n 2, 1) := by decide +kernel
theorem dL_law_373 : decode cL_law 373 = .ok (.aload_n 0, 1) := by decide +kernel
theorem dL_law_374 : decode cL_law 374 = .ok (.iload_n 3, 1) := by decide +kernel
theorem dL_law_375 : decode cL_law 375 = .ok (.iconst 1, 1) := by decide +kernel
theorem dL_law_376 : decode cL_law 376 = .ok (.iadd, 1) := by decide +kernel
theorem dL_law_377 : decode cL_law 377 = .ok (.iaload, 1) := by decide +kernel
theorem dL_law_378 : decode cL_law 378 = .ok (.aload_n 0, 1) := by decide +kernel
theorem dL_law_379 : decode cL_law 379 = .ok (.iload_n 3, 1) := by decide +kernel
theorem dL_law_380 : decode cL_law 380 = .ok (.iconst 2, 1) := by decide +kernel
theorem dL_law_381 : decode cL_law 381 = .ok (.iadd, 1) := by decide +kernel
theorem dL_law_382 : decode cL_law 382 = .ok (.iaload, 1) := by decide +kernel
theorem dL_law_383 : decode cL_law 383 = .ok (.invokevirtual 42, 3) := by decide +kernel
theorem dL_law_386 : decode cL_law 386 = .ok (.pop, 1) := by decide +kernel
theorem dL_law_387 : decode cL_law 387 = .ok (.goto 711, 3) := by decide +kernel
theorem dL_law_390 : decode cL_law 390 = .ok (.aload_n 1, 1) := by decide +kernel
theorem dL_law_391 : decode cL_law 391 = .ok (.aload_n 0, 1) := by decide +kernel
theorem dL_law_392 : decode cL_law 392 = .ok (.iload_n 3, 1) := by decide +kernel
theorem dL_law_393 : decode cL_law 393 = .ok (.iconst 1, 1) := by decide +kernel
theorem dL_law_394 : decode cL_law 394 = .ok (.iadd, 1) := by decide +kernel
theorem dL_law_395 : decode cL_law 395 = .ok (.iaload, 1) := by decide +kernel
theorem dL_law_396 : decode cL_law 396 = .ok (.aload_n 0, 1) := by decide +kernel
theorem dL_law_397 : decode cL_law 397 = .ok (.iload_n 3, 1) := by decide +kernel
theorem dL_law_398 : decode cL_law 398 = .ok (.iconst 2, 1) := by decide +kernel
theorem dL_law_399 : decode cL_law 399 = .ok (.iadd, 1) := by decide +kernel
theorem dL_law_400 : decode cL_law 400 = .ok (.iaload, 1) := by decide +kernel
theorem dL_law_401 : decode cL_law 401 = .ok (.aload_n 0, 1) := by decide +kernel
theorem dL_law_402 : decode cL_law 402 = .ok (.iload_n 3, 1) := by decide +kernel
theorem dL_law_403 : decode cL_law 403 = .ok (.iconst 3, 1) := by decide +kernel
theorem dL_law_404 : decode cL_law 404 = .ok (.iadd, 1) := by decide +kernel
theorem dL_law_405 : decode cL_law 405 = .ok (.iaload, 1) := by decide +kernel
theorem dL_law_406 : decode cL_law 406 = .ok (.aload_n 0, 1) := by decide +kernel
theorem dL_law_407 : decode cL_law 407 = .ok (.iload_n 3, 1) := by decide +kernel
theorem dL_law_408 : decode cL_law 408 = .ok (.iconst 4, 1) := by decide +kernel
theorem dL_law_409 : decode cL_law 409 = .ok (.iadd, 1) := by decide +kernel
theorem dL_law_410 : decode cL_law 410 = .ok (.iaload, 1) := by decide +kernel
theorem dL_law_411 : decode cL_law 411 = .ok (.aload_n 0, 1) := by decide +kernel
theorem dL_law_412 : decode cL_law 412 = .ok (.iload_n 3, 1) := by decide +kernel
theorem dL_law_413 : decode cL_law 413 = .ok (.iconst 5, 1) := by decide +kernel
theorem dL_law_414 : decode cL_law 414 = .ok (.iadd, 1) := by decide +kernel
theorem dL_law_415 : decode cL_law 415 = .ok (.iaload, 1) := by decide +kernel
theorem dL_law_416 : decode cL_law 416 = .ok (.invokevirtual 43, 3) := by decide +kernel
theorem dL_law_419 : decode cL_law 419 = .ok (.pop, 1) := by decide +kernel
theorem dL_law_420 : decode cL_law 420 = .ok (.aload_n 2, 1) := by decide +kernel
theorem dL_law_421 : decode cL_law 421 = .ok (.aload_n 0, 1) := by decide +kernel
theorem dL_law_422 : decode cL_law 422 = .ok (.iload_n 3, 1) := by decide +kernel
theorem dL_law_423 : decode cL_law 423 = .ok (.iconst 1, 1) := by decide +kernel
theorem dL_law_424 : decode cL_law 424 = .ok (.iadd, 1) := by decide +kernel
theorem dL_law_425 : decode cL_law 425 = .ok (.iaload, 1) := by decide +kernel
theorem dL_law_426 : decode cL_law 426 = .ok (.aload_n 0, 1) := by decide +kernel
theorem dL_law_427 : decode cL_law 427 = .ok (.iload_n 3, 1) := by decide +kernel
theorem dL_law_428 : decode cL_law 428 = .ok (.iconst 2, 1) := by decide +kernel
theorem dL_law_429 : decode cL_law 429 = .ok (.iadd, 1) := by decide +kernel
theorem dL_law_430 : decode cL_law 430 = .ok (.iaload, 1) := by decide +kernel
theorem dL_law_431 : decode cL_law 431 = .ok (.aload_n 0, 1) := by decide +kernel
theorem dL_law_432 : decode cL_law 432 = .ok (.iload_n 3, 1) := by decide +kernel
theorem dL_law_433 : decode cL_law 433 = .ok (.iconst 3, 1) := by decide +kernel
theorem dL_law_434 : decode cL_law 434 = .ok (.iadd, 1) := by decide +kernel
theorem dL_law_435 : decode cL_law 435 = .ok (.iaload, 1) := by decide +kernel
theorem dL_law_436 : decode cL_law 436 = .ok (.aload_n 0, 1) := by decide +kernel
theorem dL_law_437 : decode cL_law 437 = .ok (.iload_n 3, 1) := by decide +kernel
theorem dL_law_438 : decode cL_law 438 = .ok (.iconst 4, 1) := by decide +kernel
theorem dL_law_439 : decode cL_law 439 = .ok (.iadd, 1) := by decide +kernel
theorem dL_law_440 : decode cL_law 440 = .ok (.iaload, 1) := by decide +kernel
theorem dL_law_441 : decode cL_law 441 = .ok (.aload_n 0, 1) := by decide +kernel
theorem dL_law_442 : decode cL_law 442 = .ok (.iload_n 3, 1) := by decide +kernel
theorem dL_law_443 : decode cL_law 443 = .ok (.iconst 5, 1) := by decide +kernel
theorem dL_law_444 : decode cL_law 444 = .ok (.iadd, 1) := by decide +kernel
theorem dL_law_445 : decode cL_law 445 = .ok (.iaload, 1) := by decide +kernel
theorem dL_law_446 : decode cL_law 446 = .ok (.invokevirtual 46, 3) := by decide +kernel
theorem dL_law_449 : decode cL_law 449 = .ok (.pop, 1) := by decide +kernel
theorem dL_law_450 : decode cL_law 450 = .ok (.goto 648, 3) := by decide +kernel
theorem dL_law_453 : decode cL_law 453 = .ok (.aload_n 1, 1) := by decide +kernel
theorem dL_law_454 : decode cL_law 454 = .ok (.aload_n 0, 1) := by decide +kernel
theorem dL_law_455 : decode cL_law 455 = .ok (.iload_n 3, 1) := by decide +kernel
theorem dL_law_456 : decode cL_law 456 = .ok (.iconst 1, 1) := by decide +kernel
theorem dL_law_457 : decode cL_law 457 = .ok (.iadd, 1) := by decide +kernel
theorem dL_law_458 : decode cL_law 458 = .ok (.iaload, 1) := by decide +kernel
theorem dL_law_459 : decode cL_law 459 = .ok (.aload_n 0, 1) := by decide +kernel
theorem dL_law_460 : decode cL_law 460 = .ok (.iload_n 3, 1) := by decide +kernel
theorem dL_law_461 : decode cL_law 461 = .ok (.iconst 2, 1) := by decide +kernel
theorem dL_law_462 : decode cL_law 462 = .ok (.iadd, 1) := by decide +kernel
theorem dL_law_463 : decode cL_law 463 = .ok (.iaload, 1) := by decide +kernel
theorem dL_law_464 : decode cL_law 464 = .ok (.aload_n 0, 1) := by decide +kernel
theorem dL_law_465 : decode cL_law 465 = .ok (.iload_n 3, 1) := by decide +kernel
theorem dL_law_466 : decode cL_law 466 = .ok (.iconst 3, 1) := by decide +kernel
theorem dL_law_467 : decode cL_law 467 = .ok (.iadd, 1) := by decide +kernel
theorem dL_law_468 : decode cL_law 468 = .ok (.iaload, 1) := by decide +kernel
theorem dL_law_469 : decode cL_law 469 = .ok (.invokevirtual 47, 3) := by decide +kernel
theorem dL_law_472 : decode cL_law 472 = .ok (.pop, 1) := by decide +kernel
theorem dL_law_473 : decode cL_law 473 = .ok (.aload_n 2, 1) := by decide +kernel
theorem dL_law_474 : decode cL_law 474 = .ok (.aload_n 0, 1) := by decide +kernel
theorem dL_law_475 : decode cL_law 475 = .ok (.iload_n 3, 1) := by decide +kernel
theorem dL_law_476 : decode cL_law 476 = .ok (.iconst 1, 1) := by decide +kernel
theorem dL_law_477 : decode cL_law 477 = .ok (.iadd, 1) := by decide +kernel
theorem dL_law_478 : decode cL_law 478 = .ok (.iaload, 1) := by decide +kernel
theorem dL_law_479 : decode cL_law 479 = .ok (.aload_n 0, 1) := by decide +kernel
theorem dL_law_480 : decode cL_law 480 = .ok (.iload_n 3, 1) := by decide +kernel
theorem dL_law_481 : decode cL_law 481 = .ok (.iconst 2, 1) := by decide +kernel
theorem dL_law_482 : decode cL_law 482 = .ok (.iadd, 1) := by decide +kernel
theorem dL_law_483 : decode cL_law 483 = .ok (.iaload, 1) := by decide +kernel
theorem dL_law_484 : decode cL_law 484 = .ok (.aload_n 0, 1) := by decide +kernel
theorem dL_law_485 : decode cL_law 485 = .ok (.iload_n 3, 1) := by decide +kernel
theorem dL_law_486 : decode cL_law 486 = .ok (.iconst 3, 1) := by decide +kernel
theorem dL_law_487 : decode cL_law 487 = .ok (.iadd, 1) := by decide +kernel
theorem dL_law_488 : decode cL_law 488 = .ok (.iaload, 1) := by decide +kernel
theorem dL_law_489 : decode cL_law 489 = .ok (.invokevirtual 51, 3) := by decide +kernel
theorem dL_law_492 : decode cL_law 492 = .ok (.pop, 1) := by decide +kernel
theorem dL_law_493 : decode cL_law 493 = .ok (.goto 605, 3) := by decide +kernel
theorem dL_law_496 : decode cL_law 496 = .ok (.aload_n 1, 1) := by decide +kernel
theorem dL_law_497 : decode cL_law 497 = .ok (.aload_n 0, 1) := by decide +kernel
theorem dL_law_498 : decode cL_law 498 = .ok (.iload_n 3, 1) := by decide +kernel
theorem dL_law_499 : decode cL_law 499 = .ok (.iconst 1, 1) := by decide +kernel
theorem dL_law_500 : decode cL_law 500 = .ok (.iadd, 1) := by decide +kernel
theorem dL_law_501 : decode cL_law 501 = .ok (.iaload, 1) := by decide +kernel
theorem dL_law_502 : decode cL_law 502 = .ok (.aload_n 0, 1) := by decide +kernel
theorem dL_law_503 : decode cL_law 503 = .ok (.iload_n 3, 1) := by decide +kernel
theorem dL_law_504 : decode cL_law 504 = .ok (.iconst 2, 1) := by decide +kernel
theorem dL_law_505 : decode cL_law 505 = .ok (.iadd, 1) := by decide +kernel
theorem dL_law_506 : decode cL_law 506 = .ok (.iaload, 1) := by decide +kernel
theorem dL_law_507 : decode cL_law 507 = .ok (.invokevirtual 52, 3) := by decide +kernel
theorem dL_law_510 : decode cL_law 510 = .ok (.pop, 1) := by decide +kernel
theorem dL_law_511 : decode cL_law 511 = .ok (.aload_n 2, 1) := by decide +kernel
theorem dL_law_512 : decode cL_law 512 = .ok (.aload_n 0, 1) := by decide +kernel
theorem dL_law_513 : decode cL_law 513 = .ok (.iload_n 3, 1) := by decide +kernel
theorem dL_law_514 : decode cL_law 514 = .ok (.iconst 1, 1) := by decide +kernel
theorem dL_law_515 : decode cL_law 515 = .ok (.iadd, 1) := by decide +kernel
theorem dL_law_516 : decode cL_law 516 = .ok (.iaload, 1) := by decide +kernel
theorem dL_law_517 : decode cL_law 517 = .ok (.aload_n 0, 1) := by decide +kernel
theorem dL_law_518 : decode cL_law 518 = .ok (.iload_n 3, 1) := by decide +kernel
theorem dL_law_519 : decode cL_law 519 = .ok (.iconst 2, 1) := by decide +kernel
theorem dL_law_520 : decode cL_law 520 = .ok (.iadd, 1) := by decide +kernel
theorem dL_law_521 : decode cL_law 521 = .ok (.iaload, 1) := by decide +kernel
theorem dL_law_522 : decode cL_law 522 = .ok (.invokevirtual 55, 3) := by decide +kernel
theorem dL_law_525 : decode cL_law 525 = .ok (.pop, 1) := by decide +kernel
theorem dL_law_526 : decode cL_law 526 = .ok (.goto 572, 3) := by decide +kernel
theorem dL_law_529 : decode cL_law 529 = .ok (.aload_n 1, 1) := by decide +kernel
theorem dL_law_530 : decode cL_law 530 = .ok (.aload_n 0, 1) := by decide +kernel
theorem dL_law_531 : decode cL_law 531 = .ok (.iload_n 3, 1) := by decide +kernel
theorem dL_law_532 : decode cL_law 532 = .ok (.iconst 1, 1) := by decide +kernel
theorem dL_law_533 : decode cL_law 533 = .ok (.iadd, 1) := by decide +kernel
theorem dL_law_534 : decode cL_law 534 = .ok (.iaload, 1) := by decide +kernel
theorem dL_law_535 : decode cL_law 535 = .ok (.invokevirtual 56, 3) := by decide +kernel
theorem dL_law_538 : decode cL_law 538 = .ok (.pop, 1) := by decide +kernel
theorem dL_law_539 : decode cL_law 539 = .ok (.aload_n 2, 1) := by decide +kernel
theorem dL_law_540 : decode cL_law 540 = .ok (.aload_n 0, 1) := by decide +kernel
theorem dL_law_541 : decode cL_law 541 = .ok (.iload_n 3, 1) := by decide +kernel
theorem dL_law_542 : decode cL_law 542 = .ok (.iconst 1, 1) := by decide +kernel
theorem dL_law_543 : decode cL_law 543 = .ok (.iadd, 1) := by decide +kernel
theorem dL_law_544 : decode cL_law 544 = .ok (.iaload, 1) := by decide +kernel
theorem dL_law_545 : decode cL_law 545 = .ok (.invokevirtual 59, 3) := by decide +kernel
theorem dL_law_548 : decode cL_law 548 = .ok (.pop, 1) := by decide +kernel
theorem dL_law_549 : decode cL_law 549 = .ok (.goto 549, 3) := by decide +kernel
theorem dL_law_552 : decode cL_law 552 = .ok (.aload_n 1, 1) := by decide +kernel
theorem dL_law_553 : decode cL_law 553 = .ok (.aload_n 0, 1) := by decide +kernel
theorem dL_law_554 : decode cL_law 554 = .ok (.iload_n 3, 1) := by decide +kernel
theorem dL_law_555 : decode cL_law 555 = .ok (.iconst 1, 1) := by decide +kernel
theorem dL_law_556 : decode cL_law 556 = .ok (.iadd, 1) := by decide +kernel
theorem dL_law_557 : decode cL_law 557 = .ok (.iaload, 1) := by decide +kernel
theorem dL_law_558 : decode cL_law 558 = .ok (.invokevirtual 60, 3) := by decide +kernel
theorem dL_law_561 : decode cL_law 561 = .ok (.pop, 1) := by decide +kernel
theorem dL_law_562 : decode cL_law 562 = .ok (.aload_n 2, 1) := by decide +kernel
theorem dL_law_563 : decode cL_law 563 = .ok (.aload_n 0, 1) := by decide +kernel
theorem dL_law_564 : decode cL_law 564 = .ok (.iload_n 3, 1) := by decide +kernel
theorem dL_law_565 : decode cL_law 565 = .ok (.iconst 1, 1) := by decide +kernel
theorem dL_law_566 : decode cL_law 566 = .ok (.iadd, 1) := by decide +kernel
theorem dL_law_567 : decode cL_law 567 = .ok (.iaload, 1) := by decide +kernel
theorem dL_law_568 : decode cL_law 568 = .ok (.invokevirtual 63, 3) := by decide +kernel
theorem dL_law_571 : decode cL_law 571 = .ok (.pop, 1) := by decide +kernel
theorem dL_law_572 : decode cL_law 572 = .ok (.goto 526, 3) := by decide +kernel
theorem dL_law_575 : decode cL_law 575 = .ok (.aload_n 1, 1) := by decide +kernel
theorem dL_law_576 : decode cL_law 576 = .ok (.aload_n 0, 1) := by decide +kernel
theorem dL_law_577 : decode cL_law 577 = .ok (.iload_n 3, 1) := by decide +kernel
theorem dL_law_578 : decode cL_law 578 = .ok (.iconst 1, 1) := by decide +kernel
theorem dL_law_579 : decode cL_law 579 = .ok (.iadd, 1) := by decide +kernel
theorem dL_law_580 : decode cL_law 580 = .ok (.iaload, 1) := by decide +kernel
theorem dL_law_581 : decode cL_law 581 = .ok (.invokevirtual 64, 3) := by decide +kernel
theorem dL_law_584 : decode cL_law 584 = .ok (.pop, 1) := by decide +kernel
theorem dL_law_585 : decode cL_law 585 = .ok (.aload_n 2, 1) := by decide +kernel
theorem dL_law_586 : decode cL_law 586 = .ok (.aload_n 0, 1) := by decide +kernel
theorem dL_law_587 : decode cL_law 587 = .ok (.iload_n 3, 1) := by decide +kernel
theorem dL_law_588 : decode cL_law 588 = .ok (.iconst 1, 1) := by decide +kernel
theorem dL_law_589 : decode cL_law 589 = .ok (.iadd, 1) := by decide +kernel
theorem dL_law_590 : decode cL_law 590 = .ok (.iaload, 1) := by decide +kernel
theorem dL_law_591 : decode cL_law 591 = .ok (.invokevirtual 67, 3) := by decide +kernel
theorem dL_law_594 : decode cL_law 594 = .ok (.pop, 1) := by decide +kernel
theorem dL_law_595 : decode cL_law 595 = .ok (.goto 503, 3) := by decide +kernel
theorem dL_law_598 : decode cL_law 598 = .ok (.aload_n 1, 1) := by decide +kernel
theorem dL_law_599 : decode cL_law 599 = .ok (.aload_n 0, 1) := by decide +kernel
theorem dL_law_600 : decode cL_law 600 = .ok (.iload_n 3, 1) := by decide +kernel
theorem dL_law_601 : decode cL_law 601 = .ok (.iconst 1, 1) := by decide +kernel
theorem dL_law_602 : decode cL_law 602 = .ok (.iadd, 1) := by decide +kernel
theorem dL_law_603 : decode cL_law 603 = .ok (.iaload, 1) := by decide +kernel
theorem dL_law_604 : decode cL_law 604 = .ok (.invokevirtual 68, 3) := by decide +kernel
theorem dL_law_607 : decode cL_law 607 = .ok (.pop, 1) := by decide +kernel
theorem dL_law_608 : decode cL_law 608 = .ok (.aload_n 2, 1) := by decide +kernel
theorem dL_law_609 : decode cL_law 609 = .ok (.aload_n 0, 1) := by decide +kernel
theorem dL_law_610 : decode cL_law 610 = .ok (.iload_n 3, 1) := by decide +kernel
theorem dL_law_611 : decode cL_law 611 = .ok (.iconst 1, 1) := by decide +kernel
theorem dL_law_612 : decode cL_law 612 = .ok (.iadd, 1) := by decide +kernel
theorem dL_law_613 : decode cL_law 613 = .ok (.iaload, 1) := by decide +kernel
theorem dL_law_614 : decode cL_law 614 = .ok (.invokevirtual 71, 3) := by decide +kernel
theorem dL_law_617 : decode cL_law 617 = .ok (.pop, 1) := by decide +kernel
theorem dL_law_618 : decode cL_law 618 = .ok (.goto 480, 3) := by decide +kernel
theorem dL_law_621 : decode cL_law 621 = .ok (.aload_n 1, 1) := by decide +kernel
theorem dL_law_622 : decode cL_law 622 = .ok (.aload_n 0, 1) := by decide +kernel
theorem dL_law_623 : decode cL_law 623 = .ok (.iload_n 3, 1) := by decide +kernel
theorem dL_law_624 : decode cL_law 624 = .ok (.iconst 1, 1) := by decide +kernel
theorem dL_law_625 : decode cL_law 625 = .ok (.iadd, 1) := by decide +kernel
theorem dL_law_626 : decode cL_law 626 = .ok (.iaload, 1) := by decide +kernel
theorem dL_law_627 : decode cL_law 627 = .ok (.aload_n 0, 1) := by decide +kernel
theorem dL_law_628 : decode cL_law 628 = .ok (.iload_n 3, 1) := by decide +kernel
theorem dL_law_629 : decode cL_law 629 = .ok (.iconst 2, 1) := by decide +kernel
theorem dL_law_630 : decode cL_law 630 = .ok (.iadd, 1) := by decide +kernel
theorem dL_law_631 : decode cL_law 631 = .ok (.iaload, 1) := by decide +kernel
theorem dL_law_632 : decode cL_law 632 = .ok (.invokevirtual 72, 3) := by decide +kernel
theorem dL_law_635 : decode cL_law 635 = .ok (.pop, 1) := by decide +kernel
theorem dL_law_636 : decode cL_law 636 = .ok (.aload_n 2, 1) := by decide +kernel
theorem dL_law_637 : decode cL_law 637 = .ok (.aload_n 0, 1) := by decide +kernel
theorem dL_law_638 : decode cL_law 638 = .ok (.iload_n 3, 1) := by decide +kernel
theorem dL_law_639 : decode cL_law 639 = .ok (.iconst 1, 1) := by decide +kernel
theorem dL_law_640 : decode cL_law 640 = .ok (.iadd, 1) := by decide +kernel
theorem dL_law_641 : decode cL_law 641 = .ok (.iaload, 1) := by decide +kernel
theorem dL_law_642 : decode cL_law 642 = .ok (.aload_n 0, 1) := by decide +kernel
theorem dL_law_643 : decode cL_law 643 = .ok (.iload_n 3, 1) := by decide +kernel
theorem dL_law_644 : decode cL_law 644 = .ok (.iconst 2, 1) := by decide +kernel
theorem dL_law_645 : decode cL_law 645 = .ok (.iadd, 1) := by decide +kernel
theorem dL_law_646 : decode cL_law 646 = .ok (.iaload, 1) := by decide +kernel
theorem dL_law_647 : decode cL_law 647 = .ok (.invokevirtual 75, 3) := by decide +kernel
theorem dL_law_650 : decode cL_law 650 = .ok (.pop, 1) := by decide +kernel
theorem dL_law_651 : decode cL_law 651 = .ok (.goto 447, 3) := by decide +kernel
theorem dL_law_654 : decode cL_law 654 = .ok (.aload_n 1, 1) := by decide +kernel
theorem dL_law_655 : decode cL_law 655 = .ok (.aload_n 0, 1) := by decide +kernel
theorem dL_law_656 : decode cL_law 656 = .ok (.iload_n 3, 1) := by decide +kernel
theorem dL_law_657 : decode cL_law 657 = .ok (.iconst 1, 1) := by decide +kernel
theorem dL_law_658 : decode cL_law 658 = .ok (.iadd, 1) := by decide +kernel
theorem dL_law_659 : decode cL_law 659 = .ok (.iaload, 1) := by decide +kernel
theorem dL_law_660 : decode cL_law 660 = .ok (.aload_n 0, 1) := by decide +kernel
theorem dL_law_661 : decode cL_law 661 = .ok (.iload_n 3, 1) := by decide +kernel
theorem dL_law_662 : decode cL_law 662 = .ok (.iconst 2, 1) := by decide +kernel
theorem dL_law_663 : decode cL_law 663 = .ok (.iadd, 1) := by decide +kernel
theorem dL_law_664 : decode cL_law 664 = .ok (.iaload, 1) := by decide +kernel
theorem dL_law_665 : decode cL_law 665 = .ok (.aload_n 0, 1) := by decide +kernel
theorem dL_law_666 : decode cL_law 666 = .ok (.iload_n 3, 1) := by decide +kernel
theorem dL_law_667 : decode cL_law 667 = .ok (.iconst 3, 1) := by decide +kernel
theorem dL_law_668 : decode cL_law 668 = .ok (.iadd, 1) := by decide +kernel
theorem dL_law_669 : decode cL_law 669 = .ok (.iaload, 1) := by decide +kernel
theorem dL_law_670 : decode cL_law 670 = .ok (.invokevirtual 76, 3) := by decide +kernel
theorem dL_law_673 : decode cL_law 673 = .ok (.pop, 1) := by decide +kernel
theorem dL_law_674 : decode cL_law 674 = .ok (.aload_n 2, 1) := by decide +kernel
theorem dL_law_675 : decode cL_law 675 = .ok (.aload_n 0, 1) := by decide +kernel
theorem dL_law_676 : decode cL_law 676 = .ok (.iload_n 3, 1) := by decide +kernel
theorem dL_law_677 : decode cL_law 677 = .ok (.iconst 1, 1) := by decide +kernel
theorem dL_law_678 : decode cL_law 678 = .ok (.iadd, 1) := by decide +kernel
theorem dL_law_679 : decode cL_law 679 = .ok (.iaload, 1) := by decide +kernel
theorem dL_law_680 : decode cL_law 680 = .ok (.aload_n 0, 1) := by decide +kernel
theorem dL_law_681 : decode cL_law 681 = .ok (.iload_n 3, 1) := by decide +kernel
theorem dL_law_682 : decode cL_law 682 = .ok (.iconst 2, 1) := by decide +kernel
theorem dL_law_683 : decode cL_law 683 = .ok (.iadd, 1) := by decide +kernel
theorem dL_law_684 : decode cL_law 684 = .ok (.iaload, 1) := by decide +kernel
theorem dL_law_685 : decode cL_law 685 = .ok (.aload_n 0, 1) := by decide +kernel
theorem dL_law_686 : decode cL_law 686 = .ok (.iload_n 3, 1) := by decide +kernel
theorem dL_law_687 : decode cL_law 687 = .ok (.iconst 3, 1) := by decide +kernel
theorem dL_law_688 : decode cL_law 688 = .ok (.iadd, 1) := by decide +kernel
theorem dL_law_689 : decode cL_law 689 = .ok (.iaload, 1) := by decide +kernel
theorem dL_law_690 : decode cL_law 690 = .ok (.invokevirtual 79, 3) := by decide +kernel
theorem dL_law_693 : decode cL_law 693 = .ok (.pop, 1) := by decide +kernel
theorem dL_law_694 : decode cL_law 694 = .ok (.goto 404, 3) := by decide +kernel
theorem dL_law_697 : decode cL_law 697 = .ok (.aload_n 1, 1) := by decide +kernel
theorem dL_law_698 : decode cL_law 698 = .ok (.aload_n 0, 1) := by decide +kernel
theorem dL_law_699 : decode cL_law 699 = .ok (.iload_n 3, 1) := by decide +kernel
theorem dL_law_700 : decode cL_law 700 = .ok (.iconst 1, 1) := by decide +kernel
theorem dL_law_701 : decode cL_law 701 = .ok (.iadd, 1) := by decide +kernel
theorem dL_law_702 : decode cL_law 702 = .ok (.iaload, 1) := by decide +kernel
theorem dL_law_703 : decode cL_law 703 = .ok (.aload_n 0, 1) := by decide +kernel
theorem dL_law_704 : decode cL_law 704 = .ok (.iload_n 3, 1) := by decide +kernel
theorem dL_law_705 : decode cL_law 705 = .ok (.iconst 2, 1) := by decide +kernel
theorem dL_law_706 : decode cL_law 706 = .ok (.iadd, 1) := by decide +kernel
theorem dL_law_707 : decode cL_law 707 = .ok (.iaload, 1) := by decide +kernel
theorem dL_law_708 : decode cL_law 708 = .ok (.invokevirtual 80, 3) := by decide +kernel
theorem dL_law_711 : decode cL_law 711 = .ok (.pop, 1) := by decide +kernel
theorem dL_law_712 : decode cL_law 712 = .ok (.aload_n 2, 1) := by decide +kernel
theorem dL_law_713 : decode cL_law 713 = .ok (.aload_n 0, 1) := by decide +kernel
theorem dL_law_714 : decode cL_law 714 = .ok (.iload_n 3, 1) := by decide +kernel
theorem dL_law_715 : decode cL_law 715 = .ok (.iconst 1, 1) := by decide +kernel
theorem dL_law_716 : decode cL_law 716 = .ok (.iadd, 1) := by decide +kernel
theorem dL_law_717 : decode cL_law 717 = .ok (.iaload, 1) := by decide +kernel
theorem dL_law_718 : decode cL_law 718 = .ok (.aload_n 0, 1) := by decide +kernel
theorem dL_law_719 : decode cL_law 719 = .ok (.iload_n 3, 1) := by decide +kernel
theorem dL_law_720 : decode cL_law 720 = .ok (.iconst 2, 1) := by decide +kernel
theorem dL_law_721 : decode cL_law 721 = .ok (.iadd, 1) := by decide +kernel
theorem dL_law_722 : decode cL_law 722 = .ok (.iaload, 1) := by decide +kernel
theorem dL_law_723 : decode cL_law 723 = .ok (.invokevirtual 83, 3) := by decide +kernel
theorem dL_law_726 : decode cL_law 726 = .ok (.pop, 1) := by decide +kernel
theorem dL_law_727 : decode cL_law 727 = .ok (.goto 371, 3) := by decide +kernel
theorem dL_law_730 : decode cL_law 730 = .ok (.aload_n 1, 1) := by decide +kernel
theorem dL_law_731 : decode cL_law 731 = .ok (.aload_n 0, 1) := by decide +kernel
theorem dL_law_732 : decode cL_law 732 = .ok (.iload_n 3, 1) := by decide +kernel
theorem dL_law_733 : decode cL_law 733 = .ok (.iconst 1, 1) := by decide +kernel
theorem dL_law_734 : decode cL_law 734 = .ok (.iadd, 1) := by decide +kernel
theorem dL_law_735 : decode cL_law 735 = .ok (.iaload, 1) := by decide +kernel
theorem dL_law_736 : decode cL_law 736 = .ok (.aload_n 0, 1) := by decide +kernel
theorem dL_law_737 : decode cL_law 737 = .ok (.iload_n 3, 1) := by decide +kernel
theorem dL_law_738 : decode cL_law 738 = .ok (.iconst 2, 1) := by decide +kernel
theorem dL_law_739 : decode cL_law 739 = .ok (.iadd, 1) := by decide +kernel
theorem dL_law_740 : decode cL_law 740 = .ok (.iaload, 1) := by decide +kernel
theorem dL_law_741 : decode cL_law 741 = .ok (.invokevirtual 84, 3) := by decide +kernel
theorem dL_law_744 : decode cL_law 744 = .ok (.pop, 1) := by decide +kernel
theorem dL_law_745 : decode cL_law 745 = .ok (.aload_n 2, 1) := by decide +kernel
theorem dL_law_746 : decode cL_law 746 = .ok (.aload_n 0, 1) := by decide +kernel
theorem dL_law_747 : decode cL_law 747 = .ok (.iload_n 3, 1) := by decide +kernel
theorem dL_law_748 : decode cL_law 748 = .ok (.iconst 1, 1) := by decide +kernel
theorem dL_law_749 : decode cL_law 749 = .ok (.iadd, 1) := by decide +kernel
theorem dL_law_750 : decode cL_law 750 = .ok (.iaload, 1) := by decide +kernel
theorem dL_law_751 : decode cL_law 751 = .ok (.aload_n 0, 1) := by decide +kernel
theorem dL_law_752 : decode cL_law 752 = .ok (.iload_n 3, 1) := by decide +kernel
theorem dL_law_753 : decode cL_law 753 = .ok (.iconst 2, 1) := by decide +kernel
theorem dL_law_754 : decode cL_law 754 = .ok (.iadd, 1) := by decide +kernel
theorem dL_law_755 : decode cL_law 755 = .ok (.iaload, 1) := by decide +kernel
theorem dL_law_756 : decode cL_law 756 = .ok (.invokevirtual 87, 3) := by decide +kernel
theorem dL_law_759 : decode cL_law 759 = .ok (.pop, 1) := by decide +kernel
theorem dL_law_760 : decode cL_law 760 = .ok (.goto 338, 3) := by decide +kernel
theorem dL_law_763 : decode cL_law 763 = .ok (.aload_n 1, 1) := by decide +kernel
theorem dL_law_764 : decode cL_law 764 = .ok (.invokevirtual 88, 3) := by decide +kernel
theorem dL_law_767 : decode cL_law 767 = .ok (.pop, 1) := by decide +kernel
theorem dL_law_768 : decode cL_law 768 = .ok (.aload_n 2, 1) := by decide +kernel
theorem dL_law_769 : decode cL_law 769 = .ok (.invokevirtual 91, 3) := by decide +kernel
theorem dL_law_772 : decode cL_law 772 = .ok (.pop, 1) := by decide +kernel
theorem dL_law_773 : decode cL_law 773 = .ok (.goto 325, 3) := by decide +kernel
theorem dL_law_776 : decode cL_law 776 = .ok (.aload_n 1, 1) := by decide +kernel
theorem dL_law_777 : decode cL_law 777 = .ok (.aload_n 0, 1) := by decide +kernel
theorem dL_law_778 : decode cL_law 778 = .ok (.iload_n 3, 1) := by decide +kernel
theorem dL_law_779 : decode cL_law 779 = .ok (.iconst 1, 1) := by decide +kernel
theorem dL_law_780 : decode cL_law 780 = .ok (.iadd, 1) := by decide +kernel
theorem dL_law_781 : decode cL_law 781 = .ok (.iaload, 1) := by decide +kernel
theorem dL_law_782 : decode cL_law 782 = .ok (.invokevirtual 92, 3) := by decide +kernel
theorem dL_law_785 : decode cL_law 785 = .ok (.pop, 1) := by decide +kernel
theorem dL_law_786 : decode cL_law 786 = .ok (.aload_n 2, 1) := by decide +kernel
theorem dL_law_787 : decode cL_law 787 = .ok (.aload_n 0, 1) := by decide +kernel
theorem dL_law_788 : decode cL_law 788 = .ok (.iload_n 3, 1) := by decide +kernel
theorem dL_law_789 : decode cL_law 789 = .ok (.iconst 1, 1) := by decide +kernel
theorem dL_law_790 : decode cL_law 790 = .ok (.iadd, 1) := by decide +kernel
theorem dL_law_791 : decode cL_law 791 = .ok (.iaload, 1) := by decide +kernel
theorem dL_law_792 : decode cL_law 792 = .ok (.invokevirtual 95, 3) := by decide +kernel
theorem dL_law_795 : decode cL_law 795 = .ok (.pop, 1) := by decide +kernel
theorem dL_law_796 : decode cL_law 796 = .ok (.goto 302, 3) := by decide +kernel
theorem dL_law_799 : decode cL_law 799 = .ok (.aload_n 1, 1) := by decide +kernel
theorem dL_law_800 : decode cL_law 800 = .ok (.aload_n 0, 1) := by decide +kernel
theorem dL_law_801 : decode cL_law 801 = .ok (.iload_n 3, 1) := by decide +kernel
theorem dL_law_802 : decode cL_law 802 = .ok (.iconst 1, 1) := by decide +kernel
theorem dL_law_803 : decode cL_law 803 = .ok (.iadd, 1) := by decide +kernel
theorem dL_law_804 : decode cL_law 804 = .ok (.iaload, 1) := by decide +kernel
theorem dL_law_805 : decode cL_law 805 = .ok (.invokevirtual 96, 3) := by decide +kernel
theorem dL_law_808 : decode cL_law 808 = .ok (.pop, 1) := by decide +kernel
theorem dL_law_809 : decode cL_law 809 = .ok (.aload_n 2, 1) := by decide +kernel
theorem dL_law_810 : decode cL_law 810 = .ok (.aload_n 0, 1) := by decide +kernel
theorem dL_law_811 : decode cL_law 811 = .ok (.iload_n 3, 1) := by decide +kernel
theorem dL_law_812 : decode cL_law 812 = .ok (.iconst 1, 1) := by decide +kernel
theorem dL_law_813 : decode cL_law 813 = .ok (.iadd, 1) := by decide +kernel
theorem dL_law_814 : decode cL_law 814 = .ok (.iaload, 1) := by decide +kernel
theorem dL_law_815 : decode cL_law 815 = .ok (.invokevirtual 99, 3) := by decide +kernel
theorem dL_law_818 : decode cL_law 818 = .ok (.pop, 1) := by decide +kernel
theorem dL_law_819 : decode cL_law 819 = .ok (.goto 279, 3) := by decide +kernel
theorem dL_law_822 : decode cL_law 822 = .ok (.aload_n 1, 1) := by decide +kernel
theorem dL_law_823 : decode cL_law 823 = .ok (.aload_n 0, 1) := by decide +kernel
theorem dL_law_824 : decode cL_law 824 = .ok (.iload_n 3, 1) := by decide +kernel
theorem dL_law_825 : decode cL_law 825 = .ok (.iconst 1, 1) := by decide +kernel
theorem dL_law_826 : decode cL_law 826 = .ok (.iadd, 1) := by decide +kernel
theorem dL_law_827 : decode cL_law 827 = .ok (.iaload, 1) := by decide +kernel
theorem dL_law_828 : decode cL_law 828 = .ok (.invokevirtual 100, 3) := by decide +kernel
theorem dL_law_831 : decode cL_law 831 = .ok (.aload_n 2, 1) := by decide +kernel
theorem dL_law_832 : decode cL_law 832 = .ok (.aload_n 0, 1) := by decide +kernel
theorem dL_law_833 : decode cL_law 833 = .ok (.iload_n 3, 1) := by decide +kernel
theorem dL_law_834 : decode cL_law 834 = .ok (.iconst 1, 1) := by decide +kernel
theorem dL_law_835 : decode cL_law 835 = .ok (.iadd, 1) := by decide +kernel
theorem dL_law_836 : decode cL_law 836 = .ok (.iaload, 1) := by decide +kernel
theorem dL_law_837 : decode cL_law 837 = .ok (.invokevirtual 103, 3) := by decide +kernel
theorem dL_law_840 : decode cL_law 840 = .ok (.if_icmp .eq 258, 3) := by decide +kernel
theorem dL_law_843 : decode cL_law 843 = .ok (.iconst 0, 1) := by decide +kernel
theorem dL_law_844 : decode cL_law 844 = .ok (.ireturn, 1) := by decide +kernel
theorem dL_law_845 : decode cL_law 845 = .ok (.aload_n 1, 1) := by decide +kernel
theorem dL_law_846 : decode cL_law 846 = .ok (.invokevirtual 104, 3) := by decide +kernel
theorem dL_law_849 : decode cL_law 849 = .ok (.pop, 1) := by decide +kernel
theorem dL_law_850 : decode cL_law 850 = .ok (.aload_n 2, 1) := by decide +kernel
theorem dL_law_851 : decode cL_law 851 = .ok (.invokevirtual 107, 3) := by decide +kernel
theorem dL_law_854 : decode cL_law 854 = .ok (.pop, 1) := by decide +kernel
theorem dL_law_855 : decode cL_law 855 = .ok (.goto 243, 3) := by decide +kernel
theorem dL_law_858 : decode cL_law 858 = .ok (.aload_n 1, 1) := by decide +kernel
theorem dL_law_859 : decode cL_law 859 = .ok (.aload_n 0, 1) := by decide +kernel
theorem dL_law_860 : decode cL_law 860 = .ok (.iload_n 3, 1) := by decide +kernel
theorem dL_law_861 : decode cL_law 861 = .ok (.iconst 1, 1) := by decide +kernel
theorem dL_law_862 : decode cL_law 862 = .ok (.iadd, 1) := by decide +kernel
theorem dL_law_863 : decode cL_law 863 = .ok (.iaload, 1) := by decide +kernel
theorem dL_law_864 : decode cL_law 864 = .ok (.aload_n 0, 1) := by decide +kernel
theorem dL_law_865 : decode cL_law 865 = .ok (.iload_n 3, 1) := by decide +kernel
theorem dL_law_866 : decode cL_law 866 = .ok (.iconst 2, 1) := by decide +kernel
theorem dL_law_867 : decode cL_law 867 = .ok (.iadd, 1) := by decide +kernel
theorem dL_law_868 : decode cL_law 868 = .ok (.iaload, 1) := by decide +kernel
theorem dL_law_869 : decode cL_law 869 = .ok (.invokevirtual 108, 3) := by decide +kernel
theorem dL_law_872 : decode cL_law 872 = .ok (.pop, 1) := by decide +kernel
theorem dL_law_873 : decode cL_law 873 = .ok (.aload_n 2, 1) := by decide +kernel
theorem dL_law_874 : decode cL_law 874 = .ok (.aload_n 0, 1) := by decide +kernel
theorem dL_law_875 : decode cL_law 875 = .ok (.iload_n 3, 1) := by decide +kernel
theorem dL_law_876 : decode cL_law 876 = .ok (.iconst 1, 1) := by decide +kernel
theorem dL_law_877 : decode cL_law 877 = .ok (.iadd, 1) := by decide +kernel
theorem dL_law_878 : decode cL_law 878 = .ok (.iaload, 1) := by decide +kernel
theorem dL_law_879 : decode cL_law 879 = .ok (.aload_n 0, 1) := by decide +kernel
theorem dL_law_880 : decode cL_law 880 = .ok (.iload_n 3, 1) := by decide +kernel
theorem dL_law_881 : decode cL_law 881 = .ok (.iconst 2, 1) := by decide +kernel
theorem dL_law_882 : decode cL_law 882 = .ok (.iadd, 1) := by decide +kernel
theorem dL_law_883 : decode cL_law 883 = .ok (.iaload, 1) := by decide +kernel
theorem dL_law_884 : decode cL_law 884 = .ok (.invokevirtual 111, 3) := by decide +kernel
theorem dL_law_887 : decode cL_law 887 = .ok (.pop, 1) := by decide +kernel
theorem dL_law_888 : decode cL_law 888 = .ok (.goto 210, 3) := by decide +kernel
theorem dL_law_891 : decode cL_law 891 = .ok (.aload_n 1, 1) := by decide +kernel
theorem dL_law_892 : decode cL_law 892 = .ok (.aload_n 0, 1) := by decide +kernel
theorem dL_law_893 : decode cL_law 893 = .ok (.iload_n 3, 1) := by decide +kernel
theorem dL_law_894 : decode cL_law 894 = .ok (.iconst 1, 1) := by decide +kernel
theorem dL_law_895 : decode cL_law 895 = .ok (.iadd, 1) := by decide +kernel
theorem dL_law_896 : decode cL_law 896 = .ok (.iaload, 1) := by decide +kernel
theorem dL_law_897 : decode cL_law 897 = .ok (.invokevirtual 112, 3) := by decide +kernel
theorem dL_law_900 : decode cL_law 900 = .ok (.pop, 1) := by decide +kernel
theorem dL_law_901 : decode cL_law 901 = .ok (.aload_n 2, 1) := by decide +kernel
theorem dL_law_902 : decode cL_law 902 = .ok (.aload_n 0, 1) := by decide +kernel
theorem dL_law_903 : decode cL_law 903 = .ok (.iload_n 3, 1) := by decide +kernel
theorem dL_law_904 : decode cL_law 904 = .ok (.iconst 1, 1) := by decide +kernel
theorem dL_law_905 : decode cL_law 905 = .ok (.iadd, 1) := by decide +kernel
theorem dL_law_906 : decode cL_law 906 = .ok (.iaload, 1) := by decide +kernel
theorem dL_law_907 : decode cL_law 907 = .ok (.invokevirtual 115, 3) := by decide +kernel
theorem dL_law_910 : decode cL_law 910 = .ok (.pop, 1) := by decide +kernel
theorem dL_law_911 : decode cL_law 911 = .ok (.goto 187, 3) := by decide +kernel
theorem dL_law_914 : decode cL_law 914 = .ok (.aload_n 1, 1) := by decide +kernel
theorem dL_law_915 : decode cL_law 915 = .ok (.aload_n 0, 1) := by decide +kernel
theorem dL_law_916 : decode cL_law 916 = .ok (.iload_n 3, 1) := by decide +kernel
theorem dL_law_917 : decode cL_law 917 = .ok (.iconst 1, 1) := by decide +kernel
theorem dL_law_918 : decode cL_law 918 = .ok (.iadd, 1) := by decide +kernel
theorem dL_law_919 : decode cL_law 919 = .ok (.iaload, 1) := by decide +kernel
theorem dL_law_920 : decode cL_law 920 = .ok (.invokevirtual 116, 3) := by decide +kernel
theorem dL_law_923 : decode cL_law 923 = .ok (.pop, 1) := by decide +kernel
theorem dL_law_924 : decode cL_law 924 = .ok (.aload_n 2, 1) := by decide +kernel
theorem dL_law_925 : decode cL_law 925 = .ok (.aload_n 0, 1) := by decide +kernel
theorem dL_law_926 : decode cL_law 926 = .ok (.iload_n 3, 1) := by decide +kernel
theorem dL_law_927 : decode cL_law 927 = .ok (.iconst 1, 1) := by decide +kernel
theorem dL_law_928 : decode cL_law 928 = .ok (.iadd, 1) := by decide +kernel
theorem dL_law_929 : decode cL_law 929 = .ok (.iaload, 1) := by decide +kernel
theorem dL_law_930 : decode cL_law 930 = .ok (.invokevirtual 119, 3) := by decide +kernel
theorem dL_law_933 : decode cL_law 933 = .ok (.pop, 1) := by decide +kernel
theorem dL_law_934 : decode cL_law 934 = .ok (.goto 164, 3) := by decide +kernel
theorem dL_law_937 : decode cL_law 937 = .ok (.aload_n 1, 1) := by decide +kernel
theorem dL_law_938 : decode cL_law 938 = .ok (.invokevirtual 120, 3) := by decide +kernel
theorem dL_law_941 : decode cL_law 941 = .ok (.pop, 1) := by decide +kernel
theorem dL_law_942 : decode cL_law 942 = .ok (.aload_n 2, 1) := by decide +kernel
theorem dL_law_943 : decode cL_law 943 = .ok (.invokevirtual 123, 3) := by decide +kernel
theorem dL_law_946 : decode cL_law 946 = .ok (.pop, 1) := by decide +kernel
theorem dL_law_947 : decode cL_law 947 = .ok (.goto 151, 3) := by decide +kernel
theorem dL_law_950 : decode cL_law 950 = .ok (.aload_n 1, 1) := by decide +kernel
theorem dL_law_951 : decode cL_law 951 = .ok (.invokevirtual 124, 3) := by decide +kernel
theorem dL_law_954 : decode cL_law 954 = .ok (.pop, 1) := by decide +kernel
theorem dL_law_955 : decode cL_law 955 = .ok (.aload_n 2, 1) := by decide +kernel
theorem dL_law_956 : decode cL_law 956 = .ok (.invokevirtual 127, 3) := by decide +kernel
theorem dL_law_959 : decode cL_law 959 = .ok (.pop, 1) := by decide +kernel
theorem dL_law_960 : decode cL_law 960 = .ok (.goto 138, 3) := by decide +kernel
theorem dL_law_963 : decode cL_law 963 = .ok (.aload_n 1, 1) := by decide +kernel
theorem dL_law_964 : decode cL_law 964 = .ok (.aload_n 0, 1) := by decide +kernel
theorem dL_law_965 : decode cL_law 965 = .ok (.iload_n 3, 1) := by decide +kernel
theorem dL_law_966 : decode cL_law 966 = .ok (.iconst 1, 1) := by decide +kernel
theorem dL_law_967 : decode cL_law 967 = .ok (.iadd, 1) := by decide +kernel
theorem dL_law_968 : decode cL_law 968 = .ok (.iaload, 1) := by decide +kernel
theorem dL_law_969 : decode cL_law 969 = .ok (.invokevirtual 128, 3) := by decide +kernel
theorem dL_law_972 : decode cL_law 972 = .ok (.pop, 1) := by decide +kernel
theorem dL_law_973 : decode cL_law 973 = .ok (.aload_n 2, 1) := by decide +kernel
theorem dL_law_974 : decode cL_law 974 = .ok (.aload_n 0, 1) := by decide +kernel
theorem dL_law_975 : decode cL_law 975 = .ok (.iload_n 3, 1) := by decide +kernel
theorem dL_law_976 : decode cL_law 976 = .ok (.iconst 1, 1) := by decide +kernel
theorem dL_law_977 : decode cL_law 977 = .ok (.iadd, 1) := by decide +kernel
theorem dL_law_978 : decode cL_law 978 = .ok (.iaload, 1) := by decide +kernel
theorem dL_law_979 : decode cL_law 979 = .ok (.invokevirtual 131, 3) := by decide +kernel
theorem dL_law_982 : decode cL_law 982 = .ok (.pop, 1) := by decide +kernel
theorem dL_law_983 : decode cL_law 983 = .ok (.goto 115, 3) := by decide +kernel
theorem dL_law_986 : decode cL_law 986 = .ok (.aload_n 1, 1) := by decide +kernel
theorem dL_law_987 : decode cL_law 987 = .ok (.aload_n 0, 1) := by decide +kernel
theorem dL_law_988 : decode cL_law 988 = .ok (.iload_n 3, 1) := by decide +kernel
theorem dL_law_989 : decode cL_law 989 = .ok (.iconst 1, 1) := by decide +kernel
theorem dL_law_990 : decode cL_law 990 = .ok (.iadd, 1) := by decide +kernel
theorem dL_law_991 : decode cL_law 991 = .ok (.iaload, 1) := by decide +kernel
theorem dL_law_992 : decode cL_law 992 = .ok (.invokevirtual 132, 3) := by decide +kernel
theorem dL_law_995 : decode cL_law 995 = .ok (.pop, 1) := by decide +kernel
theorem dL_law_996 : decode cL_law 996 = .ok (.aload_n 2, 1) := by decide +kernel
theorem dL_law_997 : decode cL_law 997 = .ok (.aload_n 0, 1) := by decide +kernel
theorem dL_law_998 : decode cL_law 998 = .ok (.iload_n 3, 1) := by decide +kernel
theorem dL_law_999 : decode cL_law 999 = .ok (.iconst 1, 1) := by decide +kernel
theorem dL_law_1000 : decode cL_law 1000 = .ok (.iadd, 1) := by decide +kernel
theorem dL_law_1001 : decode cL_law 1001 = .ok (.iaload, 1) := by decide +kernel
theorem dL_law_1002 : decode cL_law 1002 = .ok (.invokevirtual 135, 3) := by decide +kernel
theorem dL_law_1005 : decode cL_law 1005 = .ok (.pop, 1) := by decide +kernel
theorem dL_law_1006 : decode cL_law 1006 = .ok (.goto 92, 3) := by decide +kernel
theorem dL_law_1009 : decode cL_law 1009 = .ok (.aload_n 1, 1) := by decide +kernel
theorem dL_law_1010 : decode cL_law 1010 = .ok (.aload_n 0, 1) := by decide +kernel
theorem dL_law_1011 : decode cL_law 1011 = .ok (.iload_n 3, 1) := by decide +kernel
theorem dL_law_1012 : decode cL_law 1012 = .ok (.iconst 1, 1) := by decide +kernel
theorem dL_law_1013 : decode cL_law 1013 = .ok (.iadd, 1) := by decide +kernel
theorem dL_law_1014 : decode cL_law 1014 = .ok (.iaload, 1) := by decide +kernel
theorem dL_law_1015 : decode cL_law 1015 = .ok (.aload_n 0, 1) := by decide +kernel
theorem dL_law_1016 : decode cL_law 1016 = .ok (.iload_n 3, 1) := by decide +kernel
theorem dL_law_1017 : decode cL_law 1017 = .ok (.iconst 2, 1) := by decide +kernel
theorem dL_law_1018 : decode cL_law 1018 = .ok (.iadd, 1) := by decide +kernel
theorem dL_law_1019 : decode cL_law 1019 = .ok (.iaload, 1) := by decide +kernel
theorem dL_law_1020 : decode cL_law 1020 = .ok (.aload_n 0, 1) := by decide +kernel
theorem dL_law_1021 : decode cL_law 1021 = .ok (.iload_n 3, 1) := by decide +kernel
theorem dL_law_1022 : decode cL_law 1022 = .ok (.iconst 3, 1) := by decide +kernel
theorem dL_law_1023 : decode cL_law 1023 = .ok (.iadd, 1) := by decide +kernel
theorem dL_law_1024 : decode cL_law 1024 = .ok (.iaload, 1) := by decide +kernel
theorem dL_law_1025 : decode cL_law 1025 = .ok (.invokevirtual 136, 3) := by decide +kernel
theorem dL_law_1028 : decode cL_law 1028 = .ok (.pop, 1) := by decide +kernel
theorem dL_law_1029 : decode cL_law 1029 = .ok (.aload_n 2, 1) := by decide +kernel
theorem dL_law_1030 : decode cL_law 1030 = .ok (.aload_n 0, 1) := by decide +kernel
theorem dL_law_1031 : decode cL_law 1031 = .ok (.iload_n 3, 1) := by decide +kernel
theorem dL_law_1032 : decode cL_law 1032 = .ok (.iconst 1, 1) := by decide +kernel
theorem dL_law_1033 : decode cL_law 1033 = .ok (.iadd, 1) := by decide +kernel
theorem dL_law_1034 : decode cL_law 1034 = .ok (.iaload, 1) := by decide +kernel
theorem dL_law_1035 : decode cL_law 1035 = .ok (.aload_n 0, 1) := by decide +kernel
theorem dL_law_1036 : decode cL_law 1036 = .ok (.iload_n 3, 1) := by decide +kernel
theorem dL_law_1037 : decode cL_law 1037 = .ok (.iconst 2, 1) := by decide +kernel
theorem dL_law_1038 : decode cL_law 1038 = .ok (.iadd, 1) := by decide +kernel
theorem dL_law_1039 : decode cL_law 1039 = .ok (.iaload, 1) := by decide +kernel
theorem dL_law_1040 : decode cL_law 1040 = .ok (.aload_n 0, 1) := by decide +kernel
theorem dL_law_1041 : decode cL_law 1041 = .ok (.iload_n 3, 1) := by decide +kernel
theorem dL_law_1042 : decode cL_law 1042 = .ok (.iconst 3, 1) := by decide +kernel
theorem dL_law_1043 : decode cL_law 1043 = .ok (.iadd, 1) := by decide +kernel
theorem dL_law_1044 : decode cL_law 1044 = .ok (.iaload, 1) := by decide +kernel
theorem dL_law_1045 : decode cL_law 1045 = .ok (.invokevirtual 139, 3) := by decide +kernel
theorem dL_law_1048 : decode cL_law 1048 = .ok (.pop, 1) := by decide +kernel
theorem dL_law_1049 : decode cL_law 1049 = .ok (.goto 49, 3) := by decide +kernel
theorem dL_law_1052 : decode cL_law 1052 = .ok (.aload_n 1, 1) := by decide +kernel
theorem dL_law_1053 : decode cL_law 1053 = .ok (.aload_n 0, 1) := by decide +kernel
theorem dL_law_1054 : decode cL_law 1054 = .ok (.iload_n 3, 1) := by decide +kernel
theorem dL_law_1055 : decode cL_law 1055 = .ok (.iconst 1, 1) := by decide +kernel
theorem dL_law_1056 : decode cL_law 1056 = .ok (.iadd, 1) := by decide +kernel
theorem dL_law_1057 : decode cL_law 1057 = .ok (.iaload, 1) := by decide +kernel
theorem dL_law_1058 : decode cL_law 1058 = .ok (.invokevirtual 140, 3) := by decide +kernel
theorem dL_law_1061 : decode cL_law 1061 = .ok (.pop, 1) := by decide +kernel
theorem dL_law_1062 : decode cL_law 1062 = .ok (.aload_n 2, 1) := by decide +kernel
theorem dL_law_1063 : decode cL_law 1063 = .ok (.aload_n 0, 1) := by decide +kernel
theorem dL_law_1064 : decode cL_law 1064 = .ok (.iload_n 3, 1) := by decide +kernel
theorem dL_law_1065 : decode cL_law 1065 = .ok (.iconst 1, 1) := by decide +kernel
theorem dL_law_1066 : decode cL_law 1066 = .ok (.iadd, 1) := by decide +kernel
theorem dL_law_1067 : decode cL_law 1067 = .ok (.iaload, 1) := by decide +kernel
theorem dL_law_1068 : decode cL_law 1068 = .ok (.invokevirtual 143, 3) := by decide +kernel
theorem dL_law_1071 : decode cL_law 1071 = .ok (.pop, 1) := by decide +kernel
theorem dL_law_1072 : decode cL_law 1072 = .ok (.goto 26, 3) := by decide +kernel
theorem dL_law_1075 : decode cL_law 1075 = .ok (.aload_n 1, 1) := by decide +kernel
theorem dL_law_1076 : decode cL_law 1076 = .ok (.aload_n 0, 1) := by decide +kernel
theorem dL_law_1077 : decode cL_law 1077 = .ok (.iload_n 3, 1) := by decide +kernel
theorem dL_law_1078 : decode cL_law 1078 = .ok (.iconst 1, 1) := by decide +kernel
theorem dL_law_1079 : decode cL_law 1079 = .ok (.iadd, 1) := by decide +kernel
theorem dL_law_1080 : decode cL_law 1080 = .ok (.iaload, 1) := by decide +kernel
theorem dL_law_1081 : decode cL_law 1081 = .ok (.invokevirtual 144, 3) := by decide +kernel
theorem dL_law_1084 : decode cL_law 1084 = .ok (.pop, 1) := by decide +kernel
theorem dL_law_1085 : decode cL_law 1085 = .ok (.aload_n 2, 1) := by decide +kernel
theorem dL_law_1086 : decode cL_law 1086 = .ok (.aload_n 0, 1) := by decide +kernel
theorem dL_law_1087 : decode cL_law 1087 = .ok (.iload_n 3, 1) := by decide +kernel
theorem dL_law_1088 : decode cL_law 1088 = .ok (.iconst 1, 1) := by decide +kernel
theorem dL_law_1089 : decode cL_law 1089 = .ok (.iadd, 1) := by decide +kernel
theorem dL_law_1090 : decode cL_law 1090 = .ok (.iaload, 1) := by decide +kernel
theorem dL_law_1091 : decode cL_law 1091 = .ok (.invokevirtual 147, 3) := by decide +kernel
theorem dL_law_1094 : decode cL_law 1094 = .ok (.pop, 1) := by decide +kernel
theorem dL_law_1095 : decode cL_law 1095 = .ok (.goto 3, 3) := by decide +kernel
theorem dL_law_1098 : decode cL_law 1098 = .ok (.iinc 3 6, 3) := by decide +kernel
theorem dL_law_1101 : decode cL_law 1101 = .ok (.goto (-1083), 3) := by decide +kernel
theorem dL_law_1104 : decode cL_law 1104 = .ok (.iconst 1, 1) := by decide +kernel
theorem dL_law_1105 : decode cL_law 1105 = .ok (.ireturn, 1) := by decide +kernel
theorem dX0_addToHouse_0 : decode cX0_addToHouse 0 = .ok (.aload_n 1, 1) := by decide +kernel
theorem dX0_addToHouse_1 : decode cX0_addToHouse 1 = .ok (.getfield 72, 3) := by decide +kernel
theorem dX0_addToHouse_4 : decode cX0_addToHouse 4 = .ok (.iload_n 2, 1) := by decide +kernel
theorem dX0_addToHouse_5 : decode cX0_addToHouse 5 = .ok (.iaload, 1) := by decide +kernel
theorem dX0_addToHouse_6 : decode cX0_addToHouse 6 = .ok (.istore_n 3, 1) := by decide +kernel
theorem dX0_addToHouse_7 : decode cX0_addToHouse 7 = .ok (.iconst 0, 1) := by decide +kernel
theorem dX0_addToHouse_8 : decode cX0_addToHouse 8 = .ok (.istore 4, 2) := by decide +kernel
theorem dX0_addToHouse_10 : decode cX0_addToHouse 10 = .ok (.iload 4, 2) := by decide +kernel
theorem dX0_addToHouse_12 : decode cX0_addToHouse 12 = .ok (.aload_n 0, 1) := by decide +kernel
theorem dX0_addToHouse_13 : decode cX0_addToHouse 13 = .ok (.getfield 62, 3) := by decide +kernel
theorem dX0_addToHouse_16 : decode cX0_addToHouse 16 = .ok (.if_icmp .ge 41, 3) := by decide +kernel
theorem dX0_addToHouse_19 : decode cX0_addToHouse 19 = .ok (.iload_n 3, 1) := by decide +kernel
theorem dX0_addToHouse_20 : decode cX0_addToHouse 20 = .ok (.ifCond .eq 37, 3) := by decide +kernel
theorem dX0_addToHouse_23 : decode cX0_addToHouse 23 = .ok (.aload_n 1, 1) := by decide +kernel
theorem dX0_addToHouse_24 : decode cX0_addToHouse 24 = .ok (.getfield 72, 3) := by decide +kernel
theorem dX0_addToHouse_27 : decode cX0_addToHouse 27 = .ok (.aload_n 0, 1) := by decide +kernel
theorem dX0_addToHouse_28 : decode cX0_addToHouse 28 = .ok (.getfield 18, 3) := by decide +kernel
theorem dX0_addToHouse_31 : decode cX0_addToHouse 31 = .ok (.iload 4, 2) := by decide +kernel
theorem dX0_addToHouse_33 : decode cX0_addToHouse 33 = .ok (.iaload, 1) := by decide +kernel
theorem dX0_addToHouse_34 : decode cX0_addToHouse 34 = .ok (.iaload, 1) := by decide +kernel
theorem dX0_addToHouse_35 : decode cX0_addToHouse 35 = .ok (.iload_n 3, 1) := by decide +kernel
theorem dX0_addToHouse_36 : decode cX0_addToHouse 36 = .ok (.if_icmp .ne 15, 3) := by decide +kernel
theorem dX0_addToHouse_39 : decode cX0_addToHouse 39 = .ok (.aload_n 0, 1) := by decide +kernel
theorem dX0_addToHouse_40 : decode cX0_addToHouse 40 = .ok (.getfield 21, 3) := by decide +kernel
theorem dX0_addToHouse_43 : decode cX0_addToHouse 43 = .ok (.iload 4, 2) := by decide +kernel
theorem dX0_addToHouse_45 : decode cX0_addToHouse 45 = .ok (.dup2, 1) := by decide +kernel
theorem dX0_addToHouse_46 : decode cX0_addToHouse 46 = .ok (.iaload, 1) := by decide +kernel
theorem dX0_addToHouse_47 : decode cX0_addToHouse 47 = .ok (.iconst 1, 1) := by decide +kernel
theorem dX0_addToHouse_48 : decode cX0_addToHouse 48 = .ok (.iadd, 1) := by decide +kernel
theorem dX0_addToHouse_49 : decode cX0_addToHouse 49 = .ok (.iastore, 1) := by decide +kernel
theorem dX0_addToHouse_50 : decode cX0_addToHouse 50 = .ok (.return_, 1) := by decide +kernel
theorem dX0_addToHouse_51 : decode cX0_addToHouse 51 = .ok (.iinc 4 1, 3) := by decide +kernel
theorem dX0_addToHouse_54 : decode cX0_addToHouse 54 = .ok (.goto (-44), 3) := by decide +kernel
theorem dX0_addToHouse_57 : decode cX0_addToHouse 57 = .ok (.aload_n 0, 1) := by decide +kernel
theorem dX0_addToHouse_58 : decode cX0_addToHouse 58 = .ok (.getfield 18, 3) := by decide +kernel
theorem dX0_addToHouse_61 : decode cX0_addToHouse 61 = .ok (.aload_n 0, 1) := by decide +kernel
theorem dX0_addToHouse_62 : decode cX0_addToHouse 62 = .ok (.getfield 62, 3) := by decide +kernel
theorem dX0_addToHouse_65 : decode cX0_addToHouse 65 = .ok (.iload_n 2, 1) := by decide +kernel
theorem dX0_addToHouse_66 : decode cX0_addToHouse 66 = .ok (.iastore, 1) := by decide +kernel
theorem dX0_addToHouse_67 : decode cX0_addToHouse 67 = .ok (.aload_n 0, 1) := by decide +kernel
theorem dX0_addToHouse_68 : decode cX0_addToHouse 68 = .ok (.getfield 21, 3) := by decide +kernel
theorem dX0_addToHouse_71 : decode cX0_addToHouse 71 = .ok (.aload_n 0, 1) := by decide +kernel
theorem dX0_addToHouse_72 : decode cX0_addToHouse 72 = .ok (.getfield 62, 3) := by decide +kernel
theorem dX0_addToHouse_75 : decode cX0_addToHouse 75 = .ok (.iconst 3, 1) := by decide +kernel
theorem dX0_addToHouse_76 : decode cX0_addToHouse 76 = .ok (.iastore, 1) := by decide +kernel
theorem dX0_addToHouse_77 : decode cX0_addToHouse 77 = .ok (.aload_n 0, 1) := by decide +kernel
theorem dX0_addToHouse_78 : decode cX0_addToHouse 78 = .ok (.dup, 1) := by decide +kernel
theorem dX0_addToHouse_79 : decode cX0_addToHouse 79 = .ok (.getfield 62, 3) := by decide +kernel
theorem dX0_addToHouse_82 : decode cX0_addToHouse 82 = .ok (.iconst 1, 1) := by decide +kernel
theorem dX0_addToHouse_83 : decode cX0_addToHouse 83 = .ok (.iadd, 1) := by decide +kernel
theorem dX0_addToHouse_84 : decode cX0_addToHouse 84 = .ok (.putfield 62, 3) := by decide +kernel
theorem dX0_addToHouse_87 : decode cX0_addToHouse 87 = .ok (.return_, 1) := by decide +kernel
theorem dX0_farOf_0 : decode cX0_farOf 0 = .ok (.iconst 0, 1) := by decide +kernel
theorem dX0_farOf_1 : decode cX0_farOf 1 = .ok (.istore_n 2, 1) := by decide +kernel
theorem dX0_farOf_2 : decode cX0_farOf 2 = .ok (.iconst 0, 1) := by decide +kernel
theorem dX0_farOf_3 : decode cX0_farOf 3 = .ok (.istore_n 3, 1) := by decide +kernel
theorem dX0_farOf_4 : decode cX0_farOf 4 = .ok (.iload_n 3, 1) := by decide +kernel
theorem dX0_farOf_5 : decode cX0_farOf 5 = .ok (.aload_n 1, 1) := by decide +kernel
theorem dX0_farOf_6 : decode cX0_farOf 6 = .ok (.getfield 48, 3) := by decide +kernel
theorem dX0_farOf_9 : decode cX0_farOf 9 = .ok (.if_icmp .ge 28, 3) := by decide +kernel
theorem dX0_farOf_12 : decode cX0_farOf 12 = .ok (.iload_n 0, 1) := by decide +kernel
theorem dX0_farOf_13 : decode cX0_farOf 13 = .ok (.iload_n 3, 1) := by decide +kernel
theorem dX0_farOf_14 : decode cX0_farOf 14 = .ok (.ishr, 1) := by decide +kernel
theorem dX0_farOf_15 : decode cX0_farOf 15 = .ok (.iconst 1, 1) := by decide +kernel
theorem dX0_farOf_16 : decode cX0_farOf 16 = .ok (.iand, 1) := by decide +kernel
theorem dX0_farOf_17 : decode cX0_farOf 17 = .ok (.ifCond .eq 14, 3) := by decide +kernel
theorem dX0_farOf_20 : decode cX0_farOf 20 = .ok (.iload_n 2, 1) := by decide +kernel
theorem dX0_farOf_21 : decode cX0_farOf 21 = .ok (.aload_n 1, 1) := by decide +kernel
theorem dX0_farOf_22 : decode cX0_farOf 22 = .ok (.getfield 53, 3) := by decide +kernel
theorem dX0_farOf_25 : decode cX0_farOf 25 = .ok (.iload_n 3, 1) := by decide +kernel
theorem dX0_farOf_26 : decode cX0_farOf 26 = .ok (.iaload, 1) := by decide +kernel
theorem dX0_farOf_27 : decode cX0_farOf 27 = .ok (.invokestatic 56, 3) := by decide +kernel
theorem dX0_farOf_30 : decode cX0_farOf 30 = .ok (.istore_n 2, 1) := by decide +kernel
theorem dX0_farOf_31 : decode cX0_farOf 31 = .ok (.iinc 3 1, 3) := by decide +kernel
theorem dX0_farOf_34 : decode cX0_farOf 34 = .ok (.goto (-30), 3) := by decide +kernel
theorem dX0_farOf_37 : decode cX0_farOf 37 = .ok (.iload_n 2, 1) := by decide +kernel
theorem dX0_farOf_38 : decode cX0_farOf 38 = .ok (.ireturn, 1) := by decide +kernel
theorem dX0_formLine_0 : decode cX0_formLine 0 = .ok (.aload_n 0, 1) := by decide +kernel
theorem dX0_formLine_1 : decode cX0_formLine 1 = .ok (.iconst 0, 1) := by decide +kernel
theorem dX0_formLine_2 : decode cX0_formLine 2 = .ok (.putfield 62, 3) := by decide +kernel
theorem dX0_formLine_5 : decode cX0_formLine 5 = .ok (.iconst 0, 1) := by decide +kernel
theorem dX0_formLine_6 : decode cX0_formLine 6 = .ok (.istore_n 3, 1) := by decide +kernel
theorem dX0_formLine_7 : decode cX0_formLine 7 = .ok (.iload_n 3, 1) := by decide +kernel
theorem dX0_formLine_8 : decode cX0_formLine 8 = .ok (.aload_n 1, 1) := by decide +kernel
theorem dX0_formLine_9 : decode cX0_formLine 9 = .ok (.getfield 34, 3) := by decide +kernel
theorem dX0_formLine_12 : decode cX0_formLine 12 = .ok (.if_icmp .ge 34, 3) := by decide +kernel
theorem dX0_formLine_15 : decode cX0_formLine 15 = .ok (.aload_n 1, 1) := by decide +kernel
theorem dX0_formLine_16 : decode cX0_formLine 16 = .ok (.getfield 65, 3) := by decide +kernel
theorem dX0_formLine_19 : decode cX0_formLine 19 = .ok (.iload_n 3, 1) := by decide +kernel
theorem dX0_formLine_20 : decode cX0_formLine 20 = .ok (.iaload, 1) := by decide +kernel
theorem dX0_formLine_21 : decode cX0_formLine 21 = .ok (.iload_n 2, 1) := by decide +kernel
theorem dX0_formLine_22 : decode cX0_formLine 22 = .ok (.if_icmp .ne 18, 3) := by decide +kernel
theorem dX0_formLine_25 : decode cX0_formLine 25 = .ok (.aload_n 1, 1) := by decide +kernel
theorem dX0_formLine_26 : decode cX0_formLine 26 = .ok (.getfield 37, 3) := by decide +kernel
theorem dX0_formLine_29 : decode cX0_formLine 29 = .ok (.iload_n 3, 1) := by decide +kernel
theorem dX0_formLine_30 : decode cX0_formLine 30 = .ok (.iaload, 1) := by decide +kernel
theorem dX0_formLine_31 : decode cX0_formLine 31 = .ok (.ifCond .eq 9, 3) := by decide +kernel
theorem dX0_formLine_34 : decode cX0_formLine 34 = .ok (.aload_n 0, 1) := by decide +kernel
theorem dX0_formLine_35 : decode cX0_formLine 35 = .ok (.aload_n 1, 1) := by decide +kernel
theorem dX0_formLine_36 : decode cX0_formLine 36 = .ok (.iload_n 3, 1) := by decide +kernel
theorem dX0_formLine_37 : decode cX0_formLine 37 = .ok (.invokevirtual 68, 3) := by decide +kernel
theorem dX0_formLine_40 : decode cX0_formLine 40 = .ok (.iinc 3 1, 3) := by decide +kernel
theorem dX0_formLine_43 : decode cX0_formLine 43 = .ok (.goto (-36), 3) := by decide +kernel
theorem dX0_formLine_46 : decode cX0_formLine 46 = .ok (.return_, 1) := by decide +kernel
theorem dX0_init_0 : decode cX0_init 0 = .ok (.aload_n 0, 1) := by decide +kernel
theorem dX0_init_1 : decode cX0_init 1 = .ok (.invokespecial 3, 3) := by decide +kernel
theorem dX0_init_4 : decode cX0_init 4 = .ok (.aload_n 0, 1) := by decide +kernel
theorem dX0_init_5 : decode cX0_init 5 = .ok (.bipush 40, 2) := by decide +kernel
theorem dX0_init_7 : decode cX0_init 7 = .ok (.newarray .int, 2) := by decide +kernel
theorem dX0_init_9 : decode cX0_init 9 = .ok (.putfield 9, 3) := by decide +kernel
theorem dX0_init_12 : decode cX0_init 12 = .ok (.aload_n 0, 1) := by decide +kernel
theorem dX0_init_13 : decode cX0_init 13 = .ok (.bipush 40, 2) := by decide +kernel
theorem dX0_init_15 : decode cX0_init 15 = .ok (.newarray .int, 2) := by decide +kernel
theorem dX0_init_17 : decode cX0_init 17 = .ok (.putfield 15, 3) := by decide +kernel
theorem dX0_init_20 : decode cX0_init 20 = .ok (.aload_n 0, 1) := by decide +kernel
theorem dX0_init_21 : decode cX0_init 21 = .ok (.bipush 40, 2) := by decide +kernel
theorem dX0_init_23 : decode cX0_init 23 = .ok (.newarray .int, 2) := by decide +kernel
theorem dX0_init_25 : decode cX0_init 25 = .ok (.putfield 18, 3) := by decide +kernel
theorem dX0_init_28 : decode cX0_init 28 = .ok (.aload_n 0, 1) := by decide +kernel
theorem dX0_init_29 : decode cX0_init 29 = .ok (.bipush 40, 2) := by decide +kernel
theorem dX0_init_31 : decode cX0_init 31 = .ok (.newarray .int, 2) := by decide +kernel
theorem dX0_init_33 : decode cX0_init 33 = .ok (.putfield 21, 3) := by decide +kernel
theorem dX0_init_36 : decode cX0_init 36 = .ok (.aload_n 0, 1) := by decide +kernel
theorem dX0_init_37 : decode cX0_init 37 = .ok (.bipush 9, 2) := by decide +kernel
theorem dX0_init_39 : decode cX0_init 39 = .ok (.newarray .int, 2) := by decide +kernel
theorem dX0_init_41 : decode cX0_init 41 = .ok (.putfield 24, 3) := by decide +kernel
theorem dX0_init_44 : decode cX0_init 44 = .ok (.aload_n 0, 1) := by decide +kernel
theorem dX0_init_45 : decode cX0_init 45 = .ok (.bipush 100, 2) := by decide +kernel
theorem dX0_init_47 : decode cX0_init 47 = .ok (.newarray .int, 2) := by decide +kernel
theorem dX0_init_49 : decode cX0_init 49 = .ok (.putfield 27, 3) := by decide +kernel
theorem dX0_init_52 : decode cX0_init 52 = .ok (.return_, 1) := by decide +kernel
theorem dX0_insert_0 : decode cX0_insert 0 = .ok (.aload_n 0, 1) := by decide +kernel
theorem dX0_insert_1 : decode cX0_insert 1 = .ok (.getfield 30, 3) := by decide +kernel
theorem dX0_insert_4 : decode cX0_insert 4 = .ok (.istore_n 3, 1) := by decide +kernel
theorem dX0_insert_5 : decode cX0_insert 5 = .ok (.iload_n 3, 1) := by decide +kernel
theorem dX0_insert_6 : decode cX0_insert 6 = .ok (.ifCond .le 49, 3) := by decide +kernel
theorem dX0_insert_9 : decode cX0_insert 9 = .ok (.aload_n 0, 1) := by decide +kernel
theorem dX0_insert_10 : decode cX0_insert 10 = .ok (.getfield 15, 3) := by decide +kernel
theorem dX0_insert_13 : decode cX0_insert 13 = .ok (.iload_n 3, 1) := by decide +kernel
theorem dX0_insert_14 : decode cX0_insert 14 = .ok (.iconst 1, 1) := by decide +kernel
theorem dX0_insert_15 : decode cX0_insert 15 = .ok (.isub, 1) := by decide +kernel
theorem dX0_insert_16 : decode cX0_insert 16 = .ok (.iaload, 1) := by decide +kernel
theorem dX0_insert_17 : decode cX0_insert 17 = .ok (.iload_n 2, 1) := by decide +kernel
theorem dX0_insert_18 : decode cX0_insert 18 = .ok (.if_icmp .ge 37, 3) := by decide +kernel
theorem dX0_insert_21 : decode cX0_insert 21 = .ok (.aload_n 0, 1) := by decide +kernel
theorem dX0_insert_22 : decode cX0_insert 22 = .ok (.getfield 15, 3) := by decide +kernel
theorem dX0_insert_25 : decode cX0_insert 25 = .ok (.iload_n 3, 1) := by decide +kernel
theorem dX0_insert_26 : decode cX0_insert 26 = .ok (.aload_n 0, 1) := by decide +kernel
theorem dX0_insert_27 : decode cX0_insert 27 = .ok (.getfield 15, 3) := by decide +kernel
theorem dX0_insert_30 : decode cX0_insert 30 = .ok (.iload_n 3, 1) := by decide +kernel
theorem dX0_insert_31 : decode cX0_insert 31 = .ok (.iconst 1, 1) := by decide +kernel
theorem dX0_insert_32 : decode cX0_insert 32 = .ok (.isub, 1) := by decide +kernel
theorem dX0_insert_33 : decode cX0_insert 33 = .ok (.iaload, 1) := by decide +kernel
theorem dX0_insert_34 : decode cX0_insert 34 = .ok (.iastore, 1) := by decide +kernel
theorem dX0_insert_35 : decode cX0_insert 35 = .ok (.aload_n 0, 1) := by decide +kernel
theorem dX0_insert_36 : decode cX0_insert 36 = .ok (.getfield 9, 3) := by decide +kernel
theorem dX0_insert_39 : decode cX0_insert 39 = .ok (.iload_n 3, 1) := by decide +kernel
theorem dX0_insert_40 : decode cX0_insert 40 = .ok (.aload_n 0, 1) := by decide +kernel
theorem dX0_insert_41 : decode cX0_insert 41 = .ok (.getfield 9, 3) := by decide +kernel
theorem dX0_insert_44 : decode cX0_insert 44 = .ok (.iload_n 3, 1) := by decide +kernel
theorem dX0_insert_45 : decode cX0_insert 45 = .ok (.iconst 1, 1) := by decide +kernel
theorem dX0_insert_46 : decode cX0_insert 46 = .ok (.isub, 1) := by decide +kernel
theorem dX0_insert_47 : decode cX0_insert 47 = .ok (.iaload, 1) := by decide +kernel
theorem dX0_insert_48 : decode cX0_insert 48 = .ok (.iastore, 1) := by decide +kernel
theorem dX0_insert_49 : decode cX0_insert 49 = .ok (.iinc 3 (-1), 3) := by decide +kernel
theorem dX0_insert_52 : decode cX0_insert 52 = .ok (.goto (-47), 3) := by decide +kernel
theorem dX0_insert_55 : decode cX0_insert 55 = .ok (.aload_n 0, 1) := by decide +kernel
theorem dX0_insert_56 : decode cX0_insert 56 = .ok (.getfield 15, 3) := by decide +kernel
theorem dX0_insert_59 : decode cX0_insert 59 = .ok (.iload_n 3, 1) := by decide +kernel
theorem dX0_insert_60 : decode cX0_insert 60 = .ok (.iload_n 2, 1) := by decide +kernel
theorem dX0_insert_61 : decode cX0_insert 61 = .ok (.iastore, 1) := by decide +kernel
theorem dX0_insert_62 : decode cX0_insert 62 = .ok (.aload_n 0, 1) := by decide +kernel
theorem dX0_insert_63 : decode cX0_insert 63 = .ok (.getfield 9, 3) := by decide +kernel
theorem dX0_insert_66 : decode cX0_insert 66 = .ok (.iload_n 3, 1) := by decide +kernel
theorem dX0_insert_67 : decode cX0_insert 67 = .ok (.iload_n 1, 1) := by decide +kernel
theorem dX0_insert_68 : decode cX0_insert 68 = .ok (.iastore, 1) := by decide +kernel
theorem dX0_insert_69 : decode cX0_insert 69 = .ok (.aload_n 0, 1) := by decide +kernel
theorem dX0_insert_70 : decode cX0_insert 70 = .ok (.dup, 1) := by decide +kernel
theorem dX0_insert_71 : decode cX0_insert 71 = .ok (.getfield 30, 3) := by decide +kernel
theorem dX0_insert_74 : decode cX0_insert 74 = .ok (.iconst 1, 1) := by decide +kernel
theorem dX0_insert_75 : decode cX0_insert 75 = .ok (.iadd, 1) := by decide +kernel
theorem dX0_insert_76 : decode cX0_insert 76 = .ok (.putfield 30, 3) := by decide +kernel
theorem dX0_insert_79 : decode cX0_insert 79 = .ok (.return_, 1) := by decide +kernel
theorem dX0_put_0 : decode cX0_put 0 = .ok (.aload_n 0, 1) := by decide +kernel
theorem dX0_put_1 : decode cX0_put 1 = .ok (.getfield 90, 3) := by decide +kernel
theorem dX0_put_4 : decode cX0_put 4 = .ok (.bipush 100, 2) := by decide +kernel
theorem dX0_put_6 : decode cX0_put 6 = .ok (.if_icmp .ge 23, 3) := by decide +kernel
theorem dX0_put_9 : decode cX0_put 9 = .ok (.aload_n 0, 1) := by decide +kernel
theorem dX0_put_10 : decode cX0_put 10 = .ok (.getfield 27, 3) := by decide +kernel
theorem dX0_put_13 : decode cX0_put 13 = .ok (.aload_n 0, 1) := by decide +kernel
theorem dX0_put_14 : decode cX0_put 14 = .ok (.getfield 90, 3) := by decide +kernel
theorem dX0_put_17 : decode cX0_put 17 = .ok (.iload_n 1, 1) := by decide +kernel
theorem dX0_put_18 : decode cX0_put 18 = .ok (.iastore, 1) := by decide +kernel
theorem dX0_put_19 : decode cX0_put 19 = .ok (.aload_n 0, 1) := by decide +kernel
theorem dX0_put_20 : decode cX0_put 20 = .ok (.dup, 1) := by decide +kernel
theorem dX0_put_21 : decode cX0_put 21 = .ok (.getfield 90, 3) := by decide +kernel
theorem dX0_put_24 : decode cX0_put 24 = .ok (.iconst 1, 1) := by decide +kernel
theorem dX0_put_25 : decode cX0_put 25 = .ok (.iadd, 1) := by decide +kernel
theorem dX0_put_26 : decode cX0_put 26 = .ok (.putfield 90, 3) := by decide +kernel
theorem dX0_put_29 : decode cX0_put 29 = .ok (.return_, 1) := by decide +kernel
theorem dX0_serve_0 : decode cX0_serve 0 = .ok (.iconst 0, 1) := by decide +kernel
theorem dX0_serve_1 : decode cX0_serve 1 = .ok (.istore_n 3, 1) := by decide +kernel
theorem dX0_serve_2 : decode cX0_serve 2 = .ok (.iconst 1, 1) := by decide +kernel
theorem dX0_serve_3 : decode cX0_serve 3 = .ok (.istore 4, 2) := by decide +kernel
theorem dX0_serve_5 : decode cX0_serve 5 = .ok (.iload 4, 2) := by decide +kernel
theorem dX0_serve_7 : decode cX0_serve 7 = .ok (.iload_n 1, 1) := by decide +kernel
theorem dX0_serve_8 : decode cX0_serve 8 = .ok (.if_icmp .ge 35, 3) := by decide +kernel
theorem dX0_serve_11 : decode cX0_serve 11 = .ok (.iload 4, 2) := by decide +kernel
theorem dX0_serve_13 : decode cX0_serve 13 = .ok (.bipush 9, 2) := by decide +kernel
theorem dX0_serve_15 : decode cX0_serve 15 = .ok (.if_icmp .ge 28, 3) := by decide +kernel
theorem dX0_serve_18 : decode cX0_serve 18 = .ok (.aload_n 0, 1) := by decide +kernel
theorem dX0_serve_19 : decode cX0_serve 19 = .ok (.getfield 24, 3) := by decide +kernel
theorem dX0_serve_22 : decode cX0_serve 22 = .ok (.iload 4, 2) := by decide +kernel
theorem dX0_serve_24 : decode cX0_serve 24 = .ok (.iaload, 1) := by decide +kernel
theorem dX0_serve_25 : decode cX0_serve 25 = .ok (.aload_n 0, 1) := by decide +kernel
theorem dX0_serve_26 : decode cX0_serve 26 = .ok (.getfield 24, 3) := by decide +kernel
theorem dX0_serve_29 : decode cX0_serve 29 = .ok (.iload_n 3, 1) := by decide +kernel
theorem dX0_serve_30 : decode cX0_serve 30 = .ok (.iaload, 1) := by decide +kernel
theorem dX0_serve_31 : decode cX0_serve 31 = .ok (.if_icmp .ge 6, 3) := by decide +kernel
theorem dX0_serve_34 : decode cX0_serve 34 = .ok (.iload 4, 2) := by decide +kernel
theorem dX0_serve_36 : decode cX0_serve 36 = .ok (.istore_n 3, 1) := by decide +kernel
theorem dX0_serve_37 : decode cX0_serve 37 = .ok (.iinc 4 1, 3) := by decide +kernel
theorem dX0_serve_40 : decode cX0_serve 40 = .ok (.goto (-35), 3) := by decide +kernel
theorem dX0_serve_43 : decode cX0_serve 43 = .ok (.aload_n 0, 1) := by decide +kernel
theorem dX0_serve_44 : decode cX0_serve 44 = .ok (.dup, 1) := by decide +kernel
theorem dX0_serve_45 : decode cX0_serve 45 = .ok (.getfield 81, 3) := by decide +kernel
theorem dX0_serve_48 : decode cX0_serve 48 = .ok (.aload_n 0, 1) := by decide +kernel
theorem dX0_serve_49 : decode cX0_serve 49 = .ok (.getfield 24, 3) := by decide +kernel
theorem dX0_serve_52 : decode cX0_serve 52 = .ok (.iload_n 3, 1) := by decide +kernel
theorem dX0_serve_53 : decode cX0_serve 53 = .ok (.iaload, 1) := by decide +kernel
theorem dX0_serve_54 : decode cX0_serve 54 = .ok (.iadd, 1) := by decide +kernel
theorem dX0_serve_55 : decode cX0_serve 55 = .ok (.putfield 81, 3) := by decide +kernel
theorem dX0_serve_58 : decode cX0_serve 58 = .ok (.aload_n 0, 1) := by decide +kernel
theorem dX0_serve_59 : decode cX0_serve 59 = .ok (.getfield 24, 3) := by decide +kernel
theorem dX0_serve_62 : decode cX0_serve 62 = .ok (.iload_n 3, 1) := by decide +kernel
theorem dX0_serve_63 : decode cX0_serve 63 = .ok (.dup2, 1) := by decide +kernel
theorem dX0_serve_64 : decode cX0_serve 64 = .ok (.iaload, 1) := by decide +kernel
theorem dX0_serve_65 : decode cX0_serve 65 = .ok (.iload_n 2, 1) := by decide +kernel
theorem dX0_serve_66 : decode cX0_serve 66 = .ok (.iadd, 1) := by decide +kernel
theorem dX0_serve_67 : decode cX0_serve 67 = .ok (.iastore, 1) := by decide +kernel
theorem dX0_serve_68 : decode cX0_serve 68 = .ok (.aload_n 0, 1) := by decide +kernel
theorem dX0_serve_69 : decode cX0_serve 69 = .ok (.aload_n 0, 1) := by decide +kernel
theorem dX0_serve_70 : decode cX0_serve 70 = .ok (.getfield 84, 3) := by decide +kernel
theorem dX0_serve_73 : decode cX0_serve 73 = .ok (.aload_n 0, 1) := by decide +kernel
theorem dX0_serve_74 : decode cX0_serve 74 = .ok (.getfield 24, 3) := by decide +kernel
theorem dX0_serve_77 : decode cX0_serve 77 = .ok (.iload_n 3, 1) := by decide +kernel
theorem dX0_serve_78 : decode cX0_serve 78 = .ok (.iaload, 1) := by decide +kernel
theorem dX0_serve_79 : decode cX0_serve 79 = .ok (.invokestatic 56, 3) := by decide +kernel
theorem dX0_serve_82 : decode cX0_serve 82 = .ok (.putfield 84, 3) := by decide +kernel
theorem dX0_serve_85 : decode cX0_serve 85 = .ok (.return_, 1) := by decide +kernel
theorem dX0_serveLine_0 : decode cX0_serveLine 0 = .ok (.aload_n 0, 1) := by decide +kernel
theorem dX0_serveLine_1 : decode cX0_serveLine 1 = .ok (.getfield 24, 3) := by decide +kernel
theorem dX0_serveLine_4 : decode cX0_serveLine 4 = .ok (.iconst 0, 1) := by decide +kernel
theorem dX0_serveLine_5 : decode cX0_serveLine 5 = .ok (.invokestatic 75, 3) := by decide +kernel
theorem dX0_serveLine_8 : decode cX0_serveLine 8 = .ok (.aload_n 0, 1) := by decide +kernel
theorem dX0_serveLine_9 : decode cX0_serveLine 9 = .ok (.iconst 0, 1) := by decide +kernel
theorem dX0_serveLine_10 : decode cX0_serveLine 10 = .ok (.putfield 81, 3) := by decide +kernel
theorem dX0_serveLine_13 : decode cX0_serveLine 13 = .ok (.aload_n 0, 1) := by decide +kernel
theorem dX0_serveLine_14 : decode cX0_serveLine 14 = .ok (.iconst 0, 1) := by decide +kernel
theorem dX0_serveLine_15 : decode cX0_serveLine 15 = .ok (.putfield 84, 3) := by decide +kernel
theorem dX0_serveLine_18 : decode cX0_serveLine 18 = .ok (.iconst 3, 1) := by decide +kernel
theorem dX0_serveLine_19 : decode cX0_serveLine 19 = .ok (.istore_n 2, 1) := by decide +kernel
theorem dX0_serveLine_20 : decode cX0_serveLine 20 = .ok (.iload_n 2, 1) := by decide +kernel
theorem dX0_serveLine_21 : decode cX0_serveLine 21 = .ok (.bipush 42, 2) := by decide +kernel
theorem dX0_serveLine_23 : decode cX0_serveLine 23 = .ok (.if_icmp .gt 41, 3) := by decide +kernel
theorem dX0_serveLine_26 : decode cX0_serveLine 26 = .ok (.iconst 0, 1) := by decide +kernel
theorem dX0_serveLine_27 : decode cX0_serveLine 27 = .ok (.istore_n 3, 1) := by decide +kernel
theorem dX0_serveLine_28 : decode cX0_serveLine 28 = .ok (.iload_n 3, 1) := by decide +kernel
theorem dX0_serveLine_29 : decode cX0_serveLine 29 = .ok (.aload_n 0, 1) := by decide +kernel
theorem dX0_serveLine_30 : decode cX0_serveLine 30 = .ok (.getfield 62, 3) := by decide +kernel
theorem dX0_serveLine_33 : decode cX0_serveLine 33 = .ok (.if_icmp .ge 25, 3) := by decide +kernel
theorem dX0_serveLine_36 : decode cX0_serveLine 36 = .ok (.aload_n 0, 1) := by decide +kernel
theorem dX0_serveLine_37 : decode cX0_serveLine 37 = .ok (.getfield 21, 3) := by decide +kernel
theorem dX0_serveLine_40 : decode cX0_serveLine 40 = .ok (.iload_n 3, 1) := by decide +kernel
theorem dX0_serveLine_41 : decode cX0_serveLine 41 = .ok (.iaload, 1) := by decide +kernel
theorem dX0_serveLine_42 : decode cX0_serveLine 42 = .ok (.iload_n 2, 1) := by decide +kernel
theorem dX0_serveLine_43 : decode cX0_serveLine 43 = .ok (.if_icmp .ne 9, 3) := by decide +kernel
theorem dX0_serveLine_46 : decode cX0_serveLine 46 = .ok (.aload_n 0, 1) := by decide +kernel
theorem dX0_serveLine_47 : decode cX0_serveLine 47 = .ok (.iload_n 1, 1) := by decide +kernel
theorem dX0_serveLine_48 : decode cX0_serveLine 48 = .ok (.iload_n 2, 1) := by decide +kernel
theorem dX0_serveLine_49 : decode cX0_serveLine 49 = .ok (.invokevirtual 87, 3) := by decide +kernel
theorem dX0_serveLine_52 : decode cX0_serveLine 52 = .ok (.iinc 3 1, 3) := by decide +kernel
theorem dX0_serveLine_55 : decode cX0_serveLine 55 = .ok (.goto (-27), 3) := by decide +kernel
theorem dX0_serveLine_58 : decode cX0_serveLine 58 = .ok (.iinc 2 1, 3) := by decide +kernel
theorem dX0_serveLine_61 : decode cX0_serveLine 61 = .ok (.goto (-41), 3) := by decide +kernel
theorem dX0_serveLine_64 : decode cX0_serveLine 64 = .ok (.return_, 1) := by decide +kernel
theorem dX0_sort_0 : decode cX0_sort 0 = .ok (.aload_n 0, 1) := by decide +kernel
theorem dX0_sort_1 : decode cX0_sort 1 = .ok (.iconst 0, 1) := by decide +kernel
theorem dX0_sort_2 : decode cX0_sort 2 = .ok (.putfield 30, 3) := by decide +kernel
theorem dX0_sort_5 : decode cX0_sort 5 = .ok (.iconst 0, 1) := by decide +kernel
theorem dX0_sort_6 : decode cX0_sort 6 = .ok (.istore_n 3, 1) := by decide +kernel
theorem dX0_sort_7 : decode cX0_sort 7 = .ok (.iload_n 3, 1) := by decide +kernel
theorem dX0_sort_8 : decode cX0_sort 8 = .ok (.aload_n 1, 1) := by decide +kernel
theorem dX0_sort_9 : decode cX0_sort 9 = .ok (.getfield 34, 3) := by decide +kernel
theorem dX0_sort_12 : decode cX0_sort 12 = .ok (.if_icmp .ge 33, 3) := by decide +kernel
theorem dX0_sort_15 : decode cX0_sort 15 = .ok (.aload_n 1, 1) := by decide +kernel
theorem dX0_sort_16 : decode cX0_sort 16 = .ok (.getfield 37, 3) := by decide +kernel
theorem dX0_sort_19 : decode cX0_sort 19 = .ok (.iload_n 3, 1) := by decide +kernel
theorem dX0_sort_20 : decode cX0_sort 20 = .ok (.iaload, 1) := by decide +kernel
theorem dX0_sort_21 : decode cX0_sort 21 = .ok (.ifCond .eq 18, 3) := by decide +kernel
theorem dX0_sort_24 : decode cX0_sort 24 = .ok (.aload_n 0, 1) := by decide +kernel
theorem dX0_sort_25 : decode cX0_sort 25 = .ok (.iload_n 3, 1) := by decide +kernel
theorem dX0_sort_26 : decode cX0_sort 26 = .ok (.aload_n 1, 1) := by decide +kernel
theorem dX0_sort_27 : decode cX0_sort 27 = .ok (.getfield 37, 3) := by decide +kernel
theorem dX0_sort_30 : decode cX0_sort 30 = .ok (.iload_n 3, 1) := by decide +kernel
theorem dX0_sort_31 : decode cX0_sort 31 = .ok (.iaload, 1) := by decide +kernel
theorem dX0_sort_32 : decode cX0_sort 32 = .ok (.aload_n 2, 1) := by decide +kernel
theorem dX0_sort_33 : decode cX0_sort 33 = .ok (.invokestatic 40, 3) := by decide +kernel
theorem dX0_sort_36 : decode cX0_sort 36 = .ok (.invokevirtual 44, 3) := by decide +kernel
theorem dX0_sort_39 : decode cX0_sort 39 = .ok (.iinc 3 1, 3) := by decide +kernel
theorem dX0_sort_42 : decode cX0_sort 42 = .ok (.goto (-35), 3) := by decide +kernel
theorem dX0_sort_45 : decode cX0_sort 45 = .ok (.return_, 1) := by decide +kernel
theorem dX0_steps_0 : decode cX0_steps 0 = .ok (.iconst 1, 1) := by decide +kernel
theorem dX0_steps_1 : decode cX0_steps 1 = .ok (.iload_n 1, 1) := by decide +kernel
theorem dX0_steps_2 : decode cX0_steps 2 = .ok (.invokestatic 56, 3) := by decide +kernel
theorem dX0_steps_5 : decode cX0_steps 5 = .ok (.istore_n 2, 1) := by decide +kernel
theorem dX0_steps_6 : decode cX0_steps 6 = .ok (.iconst 0, 1) := by decide +kernel
theorem dX0_steps_7 : decode cX0_steps 7 = .ok (.istore_n 3, 1) := by decide +kernel
theorem dX0_steps_8 : decode cX0_steps 8 = .ok (.iconst 0, 1) := by decide +kernel
theorem dX0_steps_9 : decode cX0_steps 9 = .ok (.istore 4, 2) := by decide +kernel
theorem dX0_steps_11 : decode cX0_steps 11 = .ok (.iload 4, 2) := by decide +kernel
theorem dX0_steps_13 : decode cX0_steps 13 = .ok (.aload_n 0, 1) := by decide +kernel
theorem dX0_steps_14 : decode cX0_steps 14 = .ok (.getfield 30, 3) := by decide +kernel
theorem dX0_steps_17 : decode cX0_steps 17 = .ok (.if_icmp .ge 24, 3) := by decide +kernel
theorem dX0_steps_20 : decode cX0_steps 20 = .ok (.iload_n 3, 1) := by decide +kernel
theorem dX0_steps_21 : decode cX0_steps 21 = .ok (.iconst 2, 1) := by decide +kernel
theorem dX0_steps_22 : decode cX0_steps 22 = .ok (.aload_n 0, 1) := by decide +kernel
theorem dX0_steps_23 : decode cX0_steps 23 = .ok (.getfield 15, 3) := by decide +kernel
theorem dX0_steps_26 : decode cX0_steps 26 = .ok (.iload 4, 2) := by decide +kernel
theorem dX0_steps_28 : decode cX0_steps 28 = .ok (.iaload, 1) := by decide +kernel
theorem dX0_steps_29 : decode cX0_steps 29 = .ok (.imul, 1) := by decide +kernel
theorem dX0_steps_30 : decode cX0_steps 30 = .ok (.iadd, 1) := by decide +kernel
theorem dX0_steps_31 : decode cX0_steps 31 = .ok (.istore_n 3, 1) := by decide +kernel
theorem dX0_steps_32 : decode cX0_steps 32 = .ok (.iload 4, 2) := by decide +kernel
theorem dX0_steps_34 : decode cX0_steps 34 = .ok (.iload_n 2, 1) := by decide +kernel
theorem dX0_steps_35 : decode cX0_steps 35 = .ok (.iadd, 1) := by decide +kernel
theorem dX0_steps_36 : decode cX0_steps 36 = .ok (.istore 4, 2) := by decide +kernel
theorem dX0_steps_38 : decode cX0_steps 38 = .ok (.goto (-27), 3) := by decide +kernel
theorem dX0_steps_41 : decode cX0_steps 41 = .ok (.iload_n 3, 1) := by decide +kernel
theorem dX0_steps_42 : decode cX0_steps 42 = .ok (.ireturn, 1) := by decide +kernel
theorem dX0_write_0 : decode cX0_write 0 = .ok (.aload_n 0, 1) := by decide +kernel
theorem dX0_write_1 : decode cX0_write 1 = .ok (.iconst 0, 1) := by decide +kernel
theorem dX0_write_2 : decode cX0_write 2 = .ok (.putfield 90, 3) := by decide +kernel
theorem dX0_write_5 : decode cX0_write 5 = .ok (.iconst 0, 1) := by decide +kernel
theorem dX0_write_6 : decode cX0_write 6 = .ok (.istore_n 3, 1) := by decide +kernel
theorem dX0_write_7 : decode cX0_write 7 = .ok (.iload_n 3, 1) := by decide +kernel
theorem dX0_write_8 : decode cX0_write 8 = .ok (.aload_n 2, 1) := by decide +kernel
theorem dX0_write_9 : decode cX0_write 9 = .ok (.getfield 48, 3) := by decide +kernel
theorem dX0_write_12 : decode cX0_write 12 = .ok (.if_icmp .ge 82, 3) := by decide +kernel
theorem dX0_write_15 : decode cX0_write 15 = .ok (.iload_n 1, 1) := by decide +kernel
theorem dX0_write_16 : decode cX0_write 16 = .ok (.iload_n 3, 1) := by decide +kernel
theorem dX0_write_17 : decode cX0_write 17 = .ok (.ishr, 1) := by decide +kernel
theorem dX0_write_18 : decode cX0_write 18 = .ok (.iconst 1, 1) := by decide +kernel
theorem dX0_write_19 : decode cX0_write 19 = .ok (.iand, 1) := by decide +kernel
theorem dX0_write_20 : decode cX0_write 20 = .ok (.ifCond .eq 68, 3) := by decide +kernel
theorem dX0_write_23 : decode cX0_write 23 = .ok (.aload_n 0, 1) := by decide +kernel
theorem dX0_write_24 : decode cX0_write 24 = .ok (.getfield 90, 3) := by decide +kernel
theorem dX0_write_27 : decode cX0_write 27 = .ok (.ifCond .le 15, 3) := by decide +kernel
theorem dX0_write_30 : decode cX0_write 30 = .ok (.aload_n 0, 1) := by decide +kernel
theorem dX0_write_31 : decode cX0_write 31 = .ok (.bipush 44, 2) := by decide +kernel
theorem dX0_write_33 : decode cX0_write 33 = .ok (.invokevirtual 93, 3) := by decide +kernel
theorem dX0_write_36 : decode cX0_write 36 = .ok (.aload_n 0, 1) := by decide +kernel
theorem dX0_write_37 : decode cX0_write 37 = .ok (.bipush 32, 2) := by decide +kernel
theorem dX0_write_39 : decode cX0_write 39 = .ok (.invokevirtual 93, 3) := by decide +kernel
theorem dX0_write_42 : decode cX0_write 42 = .ok (.iconst 0, 1) := by decide +kernel
theorem dX0_write_43 : decode cX0_write 43 = .ok (.istore 4, 2) := by decide +kernel
theorem dX0_write_45 : decode cX0_write 45 = .ok (.iload 4, 2) := by decide +kernel
theorem dX0_write_47 : decode cX0_write 47 = .ok (.bipush 8, 2) := by decide +kernel
theorem dX0_write_49 : decode cX0_write 49 = .ok (.if_icmp .ge 39, 3) := by decide +kernel
theorem dX0_write_52 : decode cX0_write 52 = .ok (.aload_n 2, 1) := by decide +kernel
theorem dX0_write_53 : decode cX0_write 53 = .ok (.getfield 97, 3) := by decide +kernel
theorem dX0_write_56 : decode cX0_write 56 = .ok (.iload_n 3, 1) := by decide +kernel
theorem dX0_write_57 : decode cX0_write 57 = .ok (.laload, 1) := by decide +kernel
theorem dX0_write_58 : decode cX0_write 58 = .ok (.iload 4, 2) := by decide +kernel
theorem dX0_write_60 : decode cX0_write 60 = .ok (.invokestatic 101, 3) := by decide +kernel
theorem dX0_write_63 : decode cX0_write 63 = .ok (.iconst (-1), 1) := by decide +kernel
theorem dX0_write_64 : decode cX0_write 64 = .ok (.if_icmp .eq 24, 3) := by decide +kernel
theorem dX0_write_67 : decode cX0_write 67 = .ok (.aload_n 0, 1) := by decide +kernel
theorem dX0_write_68 : decode cX0_write 68 = .ok (.aload_n 2, 1) := by decide +kernel
theorem dX0_write_69 : decode cX0_write 69 = .ok (.getfield 97, 3) := by decide +kernel
theorem dX0_write_72 : decode cX0_write 72 = .ok (.iload_n 3, 1) := by decide +kernel
theorem dX0_write_73 : decode cX0_write 73 = .ok (.laload, 1) := by decide +kernel
theorem dX0_write_74 : decode cX0_write 74 = .ok (.iload 4, 2) := by decide +kernel
theorem dX0_write_76 : decode cX0_write 76 = .ok (.invokestatic 101, 3) := by decide +kernel
theorem dX0_write_79 : decode cX0_write 79 = .ok (.invokevirtual 93, 3) := by decide +kernel
theorem dX0_write_82 : decode cX0_write 82 = .ok (.iinc 4 1, 3) := by decide +kernel
theorem dX0_write_85 : decode cX0_write 85 = .ok (.goto (-40), 3) := by decide +kernel
theorem dX0_write_88 : decode cX0_write 88 = .ok (.iinc 3 1, 3) := by decide +kernel
theorem dX0_write_91 : decode cX0_write 91 = .ok (.goto (-84), 3) := by decide +kernel
theorem dX0_write_94 : decode cX0_write 94 = .ok (.aload_n 0, 1) := by decide +kernel
theorem dX0_write_95 : decode cX0_write 95 = .ok (.bipush 46, 2) := by decide +kernel
theorem dX0_write_97 : decode cX0_write 97 = .ok (.invokevirtual 93, 3) := by decide +kernel
theorem dX0_write_100 : decode cX0_write 100 = .ok (.aload_n 0, 1) := by decide +kernel
theorem dX0_write_101 : decode cX0_write 101 = .ok (.getfield 90, 3) := by decide +kernel
theorem dX0_write_104 : decode cX0_write 104 = .ok (.ireturn, 1) := by decide +kernel
theorem dX1_addAsked_0 : decode cX1_addAsked 0 = .ok (.aload_n 0, 1) := by decide +kernel
theorem dX1_addAsked_1 : decode cX1_addAsked 1 = .ok (.getfield 71, 3) := by decide +kernel
theorem dX1_addAsked_4 : decode cX1_addAsked 4 = .ok (.sipush 200, 3) := by decide +kernel
theorem dX1_addAsked_7 : decode cX1_addAsked 7 = .ok (.if_icmp .ge 32, 3) := by decide +kernel
theorem dX1_addAsked_10 : decode cX1_addAsked 10 = .ok (.aload_n 0, 1) := by decide +kernel
theorem dX1_addAsked_11 : decode cX1_addAsked 11 = .ok (.getfield 56, 3) := by decide +kernel
theorem dX1_addAsked_14 : decode cX1_addAsked 14 = .ok (.aload_n 0, 1) := by decide +kernel
theorem dX1_addAsked_15 : decode cX1_addAsked 15 = .ok (.getfield 71, 3) := by decide +kernel
theorem dX1_addAsked_18 : decode cX1_addAsked 18 = .ok (.lload_n 1, 1) := by decide +kernel
theorem dX1_addAsked_19 : decode cX1_addAsked 19 = .ok (.lastore, 1) := by decide +kernel
theorem dX1_addAsked_20 : decode cX1_addAsked 20 = .ok (.aload_n 0, 1) := by decide +kernel
theorem dX1_addAsked_21 : decode cX1_addAsked 21 = .ok (.iconst 4, 1) := by decide +kernel
theorem dX1_addAsked_22 : decode cX1_addAsked 22 = .ok (.aload_n 0, 1) := by decide +kernel
theorem dX1_addAsked_23 : decode cX1_addAsked 23 = .ok (.getfield 71, 3) := by decide +kernel
theorem dX1_addAsked_26 : decode cX1_addAsked 26 = .ok (.invokevirtual 74, 3) := by decide +kernel
theorem dX1_addAsked_29 : decode cX1_addAsked 29 = .ok (.aload_n 0, 1) := by decide +kernel
theorem dX1_addAsked_30 : decode cX1_addAsked 30 = .ok (.dup, 1) := by decide +kernel
theorem dX1_addAsked_31 : decode cX1_addAsked 31 = .ok (.getfield 71, 3) := by decide +kernel
theorem dX1_addAsked_34 : decode cX1_addAsked 34 = .ok (.iconst 1, 1) := by decide +kernel
theorem dX1_addAsked_35 : decode cX1_addAsked 35 = .ok (.iadd, 1) := by decide +kernel
theorem dX1_addAsked_36 : decode cX1_addAsked 36 = .ok (.putfield 71, 3) := by decide +kernel
theorem dX1_addAsked_39 : decode cX1_addAsked 39 = .ok (.return_, 1) := by decide +kernel
theorem dX1_addCode_0 : decode cX1_addCode 0 = .ok (.aload_n 0, 1) := by decide +kernel
theorem dX1_addCode_1 : decode cX1_addCode 1 = .ok (.getfield 68, 3) := by decide +kernel
theorem dX1_addCode_4 : decode cX1_addCode 4 = .ok (.sipush 1000, 3) := by decide +kernel
theorem dX1_addCode_7 : decode cX1_addCode 7 = .ok (.if_icmp .ge 27, 3) := by decide +kernel
theorem dX1_addCode_10 : decode cX1_addCode 10 = .ok (.aload_n 0, 1) := by decide +kernel
theorem dX1_addCode_11 : decode cX1_addCode 11 = .ok (.getfield 53, 3) := by decide +kernel
theorem dX1_addCode_14 : decode cX1_addCode 14 = .ok (.aload_n 0, 1) := by decide +kernel
theorem dX1_addCode_15 : decode cX1_addCode 15 = .ok (.getfield 68, 3) := by decide +kernel
theorem dX1_addCode_18 : decode cX1_addCode 18 = .ok (.iload_n 2, 1) := by decide +kernel
theorem dX1_addCode_19 : decode cX1_addCode 19 = .ok (.iconst 4, 1) := by decide +kernel
theorem dX1_addCode_20 : decode cX1_addCode 20 = .ok (.ishl, 1) := by decide +kernel
theorem dX1_addCode_21 : decode cX1_addCode 21 = .ok (.iload_n 1, 1) := by decide +kernel
theorem dX1_addCode_22 : decode cX1_addCode 22 = .ok (.ior, 1) := by decide +kernel
theorem dX1_addCode_23 : decode cX1_addCode 23 = .ok (.iastore, 1) := by decide +kernel
theorem dX1_addCode_24 : decode cX1_addCode 24 = .ok (.aload_n 0, 1) := by decide +kernel
theorem dX1_addCode_25 : decode cX1_addCode 25 = .ok (.dup, 1) := by decide +kernel
theorem dX1_addCode_26 : decode cX1_addCode 26 = .ok (.getfield 68, 3) := by decide +kernel
theorem dX1_addCode_29 : decode cX1_addCode 29 = .ok (.iconst 1, 1) := by decide +kernel
theorem dX1_addCode_30 : decode cX1_addCode 30 = .ok (.iadd, 1) := by decide +kernel
theorem dX1_addCode_31 : decode cX1_addCode 31 = .ok (.putfield 68, 3) := by decide +kernel
theorem dX1_addCode_34 : decode cX1_addCode 34 = .ok (.return_, 1) := by decide +kernel
theorem dX1_addMark_0 : decode cX1_addMark 0 = .ok (.aload_n 0, 1) := by decide +kernel
theorem dX1_addMark_1 : decode cX1_addMark 1 = .ok (.getfield 62, 3) := by decide +kernel
theorem dX1_addMark_4 : decode cX1_addMark 4 = .ok (.bipush 8, 2) := by decide +kernel
theorem dX1_addMark_6 : decode cX1_addMark 6 = .ok (.if_icmp .ge 33, 3) := by decide +kernel
theorem dX1_addMark_9 : decode cX1_addMark 9 = .ok (.aload_n 0, 1) := by decide +kernel
theorem dX1_addMark_10 : decode cX1_addMark 10 = .ok (.getfield 25, 3) := by decide +kernel
theorem dX1_addMark_13 : decode cX1_addMark 13 = .ok (.aload_n 0, 1) := by decide +kernel
theorem dX1_addMark_14 : decode cX1_addMark 14 = .ok (.getfield 62, 3) := by decide +kernel
theorem dX1_addMark_17 : decode cX1_addMark 17 = .ok (.lload_n 1, 1) := by decide +kernel
theorem dX1_addMark_18 : decode cX1_addMark 18 = .ok (.lastore, 1) := by decide +kernel
theorem dX1_addMark_19 : decode cX1_addMark 19 = .ok (.aload_n 0, 1) := by decide +kernel
theorem dX1_addMark_20 : decode cX1_addMark 20 = .ok (.getfield 28, 3) := by decide +kernel
theorem dX1_addMark_23 : decode cX1_addMark 23 = .ok (.aload_n 0, 1) := by decide +kernel
theorem dX1_addMark_24 : decode cX1_addMark 24 = .ok (.getfield 62, 3) := by decide +kernel
theorem dX1_addMark_27 : decode cX1_addMark 27 = .ok (.iconst 0, 1) := by decide +kernel
theorem dX1_addMark_28 : decode cX1_addMark 28 = .ok (.iastore, 1) := by decide +kernel
theorem dX1_addMark_29 : decode cX1_addMark 29 = .ok (.aload_n 0, 1) := by decide +kernel
theorem dX1_addMark_30 : decode cX1_addMark 30 = .ok (.dup, 1) := by decide +kernel
theorem dX1_addMark_31 : decode cX1_addMark 31 = .ok (.getfield 62, 3) := by decide +kernel
theorem dX1_addMark_34 : decode cX1_addMark 34 = .ok (.iconst 1, 1) := by decide +kernel
theorem dX1_addMark_35 : decode cX1_addMark 35 = .ok (.iadd, 1) := by decide +kernel
theorem dX1_addMark_36 : decode cX1_addMark 36 = .ok (.putfield 62, 3) := by decide +kernel
theorem dX1_addMark_39 : decode cX1_addMark 39 = .ok (.return_, 1) := by decide +kernel
theorem dX1_addOther_0 : decode cX1_addOther 0 = .ok (.aload_n 0, 1) := by decide +kernel
theorem dX1_addOther_1 : decode cX1_addOther 1 = .ok (.getfield 65, 3) := by decide +kernel
theorem dX1_addOther_4 : decode cX1_addOther 4 = .ok (.bipush 24, 2) := by decide +kernel
theorem dX1_addOther_6 : decode cX1_addOther 6 = .ok (.if_icmp .ge 67, 3) := by decide +kernel
theorem dX1_addOther_9 : decode cX1_addOther 9 = .ok (.aload_n 0, 1) := by decide +kernel
theorem dX1_addOther_10 : decode cX1_addOther 10 = .ok (.getfield 35, 3) := by decide +kernel
theorem dX1_addOther_13 : decode cX1_addOther 13 = .ok (.aload_n 0, 1) := by decide +kernel
theorem dX1_addOther_14 : decode cX1_addOther 14 = .ok (.getfield 65, 3) := by decide +kernel
theorem dX1_addOther_17 : decode cX1_addOther 17 = .ok (.iload_n 1, 1) := by decide +kernel
theorem dX1_addOther_18 : decode cX1_addOther 18 = .ok (.iastore, 1) := by decide +kernel
theorem dX1_addOther_19 : decode cX1_addOther 19 = .ok (.aload_n 0, 1) := by decide +kernel
theorem dX1_addOther_20 : decode cX1_addOther 20 = .ok (.getfield 38, 3) := by decide +kernel
theorem dX1_addOther_23 : decode cX1_addOther 23 = .ok (.aload_n 0, 1) := by decide +kernel
theorem dX1_addOther_24 : decode cX1_addOther 24 = .ok (.getfield 65, 3) := by decide +kernel
theorem dX1_addOther_27 : decode cX1_addOther 27 = .ok (.iload_n 2, 1) := by decide +kernel
theorem dX1_addOther_28 : decode cX1_addOther 28 = .ok (.iastore, 1) := by decide +kernel
theorem dX1_addOther_29 : decode cX1_addOther 29 = .ok (.aload_n 0, 1) := by decide +kernel
theorem dX1_addOther_30 : decode cX1_addOther 30 = .ok (.getfield 41, 3) := by decide +kernel
theorem dX1_addOther_33 : decode cX1_addOther 33 = .ok (.aload_n 0, 1) := by decide +kernel
theorem dX1_addOther_34 : decode cX1_addOther 34 = .ok (.getfield 65, 3) := by decide +kernel
theorem dX1_addOther_37 : decode cX1_addOther 37 = .ok (.iload_n 3, 1) := by decide +kernel
theorem dX1_addOther_38 : decode cX1_addOther 38 = .ok (.iastore, 1) := by decide +kernel
theorem dX1_addOther_39 : decode cX1_addOther 39 = .ok (.aload_n 0, 1) := by decide +kernel
theorem dX1_addOther_40 : decode cX1_addOther 40 = .ok (.getfield 44, 3) := by decide +kernel
theorem dX1_addOther_43 : decode cX1_addOther 43 = .ok (.aload_n 0, 1) := by decide +kernel
theorem dX1_addOther_44 : decode cX1_addOther 44 = .ok (.getfield 65, 3) := by decide +kernel
theorem dX1_addOther_47 : decode cX1_addOther 47 = .ok (.iload 4, 2) := by decide +kernel
theorem dX1_addOther_49 : decode cX1_addOther 49 = .ok (.iastore, 1) := by decide +kernel
theorem dX1_addOther_50 : decode cX1_addOther 50 = .ok (.aload_n 0, 1) := by decide +kernel
theorem dX1_addOther_51 : decode cX1_addOther 51 = .ok (.getfield 47, 3) := by decide +kernel
theorem dX1_addOther_54 : decode cX1_addOther 54 = .ok (.aload_n 0, 1) := by decide +kernel
theorem dX1_addOther_55 : decode cX1_addOther 55 = .ok (.getfield 65, 3) := by decide +kernel
theorem dX1_addOther_58 : decode cX1_addOther 58 = .ok (.aload_n 0, 1) := by decide +kernel
theorem dX1_addOther_59 : decode cX1_addOther 59 = .ok (.getfield 68, 3) := by decide +kernel
theorem dX1_addOther_62 : decode cX1_addOther 62 = .ok (.iastore, 1) := by decide +kernel
theorem dX1_addOther_63 : decode cX1_addOther 63 = .ok (.aload_n 0, 1) := by decide +kernel
theorem dX1_addOther_64 : decode cX1_addOther 64 = .ok (.dup, 1) := by decide +kernel
theorem dX1_addOther_65 : decode cX1_addOther 65 = .ok (.getfield 65, 3) := by decide +kernel
theorem dX1_addOther_68 : decode cX1_addOther 68 = .ok (.iconst 1, 1) := by decide +kernel
theorem dX1_addOther_69 : decode cX1_addOther 69 = .ok (.iadd, 1) := by decide +kernel
theorem dX1_addOther_70 : decode cX1_addOther 70 = .ok (.putfield 65, 3) := by decide +kernel
theorem dX1_addOther_73 : decode cX1_addOther 73 = .ok (.return_, 1) := by decide +kernel
theorem dX1_empty_0 : decode cX1_empty 0 = .ok (.aload_n 0, 1) := by decide +kernel
theorem dX1_empty_1 : decode cX1_empty 1 = .ok (.iconst 0, 1) := by decide +kernel
theorem dX1_empty_2 : decode cX1_empty 2 = .ok (.putfield 59, 3) := by decide +kernel
theorem dX1_empty_5 : decode cX1_empty 5 = .ok (.aload_n 0, 1) := by decide +kernel
theorem dX1_empty_6 : decode cX1_empty 6 = .ok (.iconst 0, 1) := by decide +kernel
theorem dX1_empty_7 : decode cX1_empty 7 = .ok (.putfield 62, 3) := by decide +kernel
theorem dX1_empty_10 : decode cX1_empty 10 = .ok (.aload_n 0, 1) := by decide +kernel
theorem dX1_empty_11 : decode cX1_empty 11 = .ok (.iconst 0, 1) := by decide +kernel
theorem dX1_empty_12 : decode cX1_empty 12 = .ok (.putfield 65, 3) := by decide +kernel
theorem dX1_empty_15 : decode cX1_empty 15 = .ok (.aload_n 0, 1) := by decide +kernel
theorem dX1_empty_16 : decode cX1_empty 16 = .ok (.sipush 1000, 3) := by decide +kernel
theorem dX1_empty_19 : decode cX1_empty 19 = .ok (.putfield 31, 3) := by decide +kernel
theorem dX1_empty_22 : decode cX1_empty 22 = .ok (.aload_n 0, 1) := by decide +kernel
theorem dX1_empty_23 : decode cX1_empty 23 = .ok (.iconst 0, 1) := by decide +kernel
theorem dX1_empty_24 : decode cX1_empty 24 = .ok (.putfield 68, 3) := by decide +kernel
theorem dX1_empty_27 : decode cX1_empty 27 = .ok (.aload_n 0, 1) := by decide +kernel
theorem dX1_empty_28 : decode cX1_empty 28 = .ok (.iconst 0, 1) := by decide +kernel
theorem dX1_empty_29 : decode cX1_empty 29 = .ok (.putfield 71, 3) := by decide +kernel
theorem dX1_empty_32 : decode cX1_empty 32 = .ok (.return_, 1) := by decide +kernel
theorem dX1_init_0 : decode cX1_init 0 = .ok (.aload_n 0, 1) := by decide +kernel
theorem dX1_init_1 : decode cX1_init 1 = .ok (.invokespecial 3, 3) := by decide +kernel
theorem dX1_init_4 : decode cX1_init 4 = .ok (.aload_n 0, 1) := by decide +kernel
theorem dX1_init_5 : decode cX1_init 5 = .ok (.bipush 10, 2) := by decide +kernel
theorem dX1_init_7 : decode cX1_init 7 = .ok (.newarray .long, 2) := by decide +kernel
theorem dX1_init_9 : decode cX1_init 9 = .ok (.putfield 9, 3) := by decide +kernel
theorem dX1_init_12 : decode cX1_init 12 = .ok (.aload_n 0, 1) := by decide +kernel
theorem dX1_init_13 : decode cX1_init 13 = .ok (.bipush 10, 2) := by decide +kernel
theorem dX1_init_15 : decode cX1_init 15 = .ok (.newarray .int, 2) := by decide +kernel
theorem dX1_init_17 : decode cX1_init 17 = .ok (.putfield 15, 3) := by decide +kernel
theorem dX1_init_20 : decode cX1_init 20 = .ok (.aload_n 0, 1) := by decide +kernel
theorem dX1_init_21 : decode cX1_init 21 = .ok (.bipush 10, 2) := by decide +kernel
theorem dX1_init_23 : decode cX1_init 23 = .ok (.newarray .int, 2) := by decide +kernel
theorem dX1_init_25 : decode cX1_init 25 = .ok (.putfield 19, 3) := by decide +kernel
theorem dX1_init_28 : decode cX1_init 28 = .ok (.aload_n 0, 1) := by decide +kernel
theorem dX1_init_29 : decode cX1_init 29 = .ok (.bipush 10, 2) := by decide +kernel
theorem dX1_init_31 : decode cX1_init 31 = .ok (.newarray .int, 2) := by decide +kernel
theorem dX1_init_33 : decode cX1_init 33 = .ok (.putfield 22, 3) := by decide +kernel
theorem dX1_init_36 : decode cX1_init 36 = .ok (.aload_n 0, 1) := by decide +kernel
theorem dX1_init_37 : decode cX1_init 37 = .ok (.bipush 8, 2) := by decide +kernel
theorem dX1_init_39 : decode cX1_init 39 = .ok (.newarray .long, 2) := by decide +kernel
theorem dX1_init_41 : decode cX1_init 41 = .ok (.putfield 25, 3) := by decide +kernel
theorem dX1_init_44 : decode cX1_init 44 = .ok (.aload_n 0, 1) := by decide +kernel
theorem dX1_init_45 : decode cX1_init 45 = .ok (.bipush 8, 2) := by decide +kernel
theorem dX1_init_47 : decode cX1_init 47 = .ok (.newarray .int, 2) := by decide +kernel
theorem dX1_init_49 : decode cX1_init 49 = .ok (.putfield 28, 3) := by decide +kernel
theorem dX1_init_52 : decode cX1_init 52 = .ok (.aload_n 0, 1) := by decide +kernel
theorem dX1_init_53 : decode cX1_init 53 = .ok (.sipush 1000, 3) := by decide +kernel
theorem dX1_init_56 : decode cX1_init 56 = .ok (.putfield 31, 3) := by decide +kernel
theorem dX1_init_59 : decode cX1_init 59 = .ok (.aload_n 0, 1) := by decide +kernel
theorem dX1_init_60 : decode cX1_init 60 = .ok (.bipush 24, 2) := by decide +kernel
theorem dX1_init_62 : decode cX1_init 62 = .ok (.newarray .int, 2) := by decide +kernel
theorem dX1_init_64 : decode cX1_init 64 = .ok (.putfield 35, 3) := by decide +kernel
theorem dX1_init_67 : decode cX1_init 67 = .ok (.aload_n 0, 1) := by decide +kernel
theorem dX1_init_68 : decode cX1_init 68 = .ok (.bipush 24, 2) := by decide +kernel
theorem dX1_init_70 : decode cX1_init 70 = .ok (.newarray .int, 2) := by decide +kernel
theorem dX1_init_72 : decode cX1_init 72 = .ok (.putfield 38, 3) := by decide +kernel
theorem dX1_init_75 : decode cX1_init 75 = .ok (.aload_n 0, 1) := by decide +kernel
theorem dX1_init_76 : decode cX1_init 76 = .ok (.bipush 24, 2) := by decide +kernel
theorem dX1_init_78 : decode cX1_init 78 = .ok (.newarray .int, 2) := by decide +kernel
theorem dX1_init_80 : decode cX1_init 80 = .ok (.putfield 41, 3) := by decide +kernel
theorem dX1_init_83 : decode cX1_init 83 = .ok (.aload_n 0, 1) := by decide +kernel
theorem dX1_init_84 : decode cX1_init 84 = .ok (.bipush 24, 2) := by decide +kernel
theorem dX1_init_86 : decode cX1_init 86 = .ok (.newarray .int, 2) := by decide +kernel
theorem dX1_init_88 : decode cX1_init 88 = .ok (.putfield 44, 3) := by decide +kernel
theorem dX1_init_91 : decode cX1_init 91 = .ok (.aload_n 0, 1) := by decide +kernel
theorem dX1_init_92 : decode cX1_init 92 = .ok (.bipush 24, 2) := by decide +kernel
theorem dX1_init_94 : decode cX1_init 94 = .ok (.newarray .int, 2) := by decide +kernel
theorem dX1_init_96 : decode cX1_init 96 = .ok (.putfield 47, 3) := by decide +kernel
theorem dX1_init_99 : decode cX1_init 99 = .ok (.aload_n 0, 1) := by decide +kernel
theorem dX1_init_100 : decode cX1_init 100 = .ok (.bipush 24, 2) := by decide +kernel
theorem dX1_init_102 : decode cX1_init 102 = .ok (.newarray .int, 2) := by decide +kernel
theorem dX1_init_104 : decode cX1_init 104 = .ok (.putfield 50, 3) := by decide +kernel
theorem dX1_init_107 : decode cX1_init 107 = .ok (.aload_n 0, 1) := by decide +kernel
theorem dX1_init_108 : decode cX1_init 108 = .ok (.sipush 1000, 3) := by decide +kernel
theorem dX1_init_111 : decode cX1_init 111 = .ok (.newarray .int, 2) := by decide +kernel
theorem dX1_init_113 : decode cX1_init 113 = .ok (.putfield 53, 3) := by decide +kernel
theorem dX1_init_116 : decode cX1_init 116 = .ok (.aload_n 0, 1) := by decide +kernel
theorem dX1_init_117 : decode cX1_init 117 = .ok (.sipush 200, 3) := by decide +kernel
theorem dX1_init_120 : decode cX1_init 120 = .ok (.newarray .long, 2) := by decide +kernel
theorem dX1_init_122 : decode cX1_init 122 = .ok (.putfield 56, 3) := by decide +kernel
theorem dX1_init_125 : decode cX1_init 125 = .ok (.return_, 1) := by decide +kernel
theorem dX1_kindOf_0 : decode cX1_kindOf 0 = .ok (.iconst 0, 1) := by decide +kernel
theorem dX1_kindOf_1 : decode cX1_kindOf 1 = .ok (.istore_n 3, 1) := by decide +kernel
theorem dX1_kindOf_2 : decode cX1_kindOf 2 = .ok (.iload_n 3, 1) := by decide +kernel
theorem dX1_kindOf_3 : decode cX1_kindOf 3 = .ok (.aload_n 0, 1) := by decide +kernel
theorem dX1_kindOf_4 : decode cX1_kindOf 4 = .ok (.getfield 59, 3) := by decide +kernel
theorem dX1_kindOf_7 : decode cX1_kindOf 7 = .ok (.if_icmp .ge 22, 3) := by decide +kernel
theorem dX1_kindOf_10 : decode cX1_kindOf 10 = .ok (.aload_n 0, 1) := by decide +kernel
theorem dX1_kindOf_11 : decode cX1_kindOf 11 = .ok (.getfield 9, 3) := by decide +kernel
theorem dX1_kindOf_14 : decode cX1_kindOf 14 = .ok (.iload_n 3, 1) := by decide +kernel
theorem dX1_kindOf_15 : decode cX1_kindOf 15 = .ok (.laload, 1) := by decide +kernel
theorem dX1_kindOf_16 : decode cX1_kindOf 16 = .ok (.lload_n 1, 1) := by decide +kernel
theorem dX1_kindOf_17 : decode cX1_kindOf 17 = .ok (.lcmp, 1) := by decide +kernel
theorem dX1_kindOf_18 : decode cX1_kindOf 18 = .ok (.ifCond .ne 5, 3) := by decide +kernel
theorem dX1_kindOf_21 : decode cX1_kindOf 21 = .ok (.iload_n 3, 1) := by decide +kernel
theorem dX1_kindOf_22 : decode cX1_kindOf 22 = .ok (.ireturn, 1) := by decide +kernel
theorem dX1_kindOf_23 : decode cX1_kindOf 23 = .ok (.iinc 3 1, 3) := by decide +kernel
theorem dX1_kindOf_26 : decode cX1_kindOf 26 = .ok (.goto (-24), 3) := by decide +kernel
theorem dX1_kindOf_29 : decode cX1_kindOf 29 = .ok (.iconst (-1), 1) := by decide +kernel
theorem dX1_kindOf_30 : decode cX1_kindOf 30 = .ok (.ireturn, 1) := by decide +kernel
theorem dX1_markOf_0 : decode cX1_markOf 0 = .ok (.iconst 0, 1) := by decide +kernel
theorem dX1_markOf_1 : decode cX1_markOf 1 = .ok (.istore_n 3, 1) := by decide +kernel
theorem dX1_markOf_2 : decode cX1_markOf 2 = .ok (.iload_n 3, 1) := by decide +kernel
theorem dX1_markOf_3 : decode cX1_markOf 3 = .ok (.aload_n 0, 1) := by decide +kernel
theorem dX1_markOf_4 : decode cX1_markOf 4 = .ok (.getfield 62, 3) := by decide +kernel
theorem dX1_markOf_7 : decode cX1_markOf 7 = .ok (.if_icmp .ge 22, 3) := by decide +kernel
theorem dX1_markOf_10 : decode cX1_markOf 10 = .ok (.aload_n 0, 1) := by decide +kernel
theorem dX1_markOf_11 : decode cX1_markOf 11 = .ok (.getfield 25, 3) := by decide +kernel
theorem dX1_markOf_14 : decode cX1_markOf 14 = .ok (.iload_n 3, 1) := by decide +kernel
theorem dX1_markOf_15 : decode cX1_markOf 15 = .ok (.laload, 1) := by decide +kernel
theorem dX1_markOf_16 : decode cX1_markOf 16 = .ok (.lload_n 1, 1) := by decide +kernel
theorem dX1_markOf_17 : decode cX1_markOf 17 = .ok (.lcmp, 1) := by decide +kernel
theorem dX1_markOf_18 : decode cX1_markOf 18 = .ok (.ifCond .ne 5, 3) := by decide +kernel
theorem dX1_markOf_21 : decode cX1_markOf 21 = .ok (.iload_n 3, 1) := by decide +kernel
theorem dX1_markOf_22 : decode cX1_markOf 22 = .ok (.ireturn, 1) := by decide +kernel
theorem dX1_markOf_23 : decode cX1_markOf 23 = .ok (.iinc 3 1, 3) := by decide +kernel
theorem dX1_markOf_26 : decode cX1_markOf 26 = .ok (.goto (-24), 3) := by decide +kernel
theorem dX1_markOf_29 : decode cX1_markOf 29 = .ok (.iconst (-1), 1) := by decide +kernel
theorem dX1_markOf_30 : decode cX1_markOf 30 = .ok (.ireturn, 1) := by decide +kernel
theorem dX10_init_0 : decode cX10_init 0 = .ok (.aload_n 0, 1) := by decide +kernel
theorem dX10_init_1 : decode cX10_init 1 = .ok (.invokespecial 3, 3) := by decide +kernel
theorem dX10_init_4 : decode cX10_init 4 = .ok (.aload_n 0, 1) := by decide +kernel
theorem dX10_init_5 : decode cX10_init 5 = .ok (.sipush 1000, 3) := by decide +kernel
theorem dX10_init_8 : decode cX10_init 8 = .ok (.newarray .int, 2) := by decide +kernel
theorem dX10_init_10 : decode cX10_init 10 = .ok (.putfield 9, 3) := by decide +kernel
theorem dX10_init_13 : decode cX10_init 13 = .ok (.aload_n 0, 1) := by decide +kernel
theorem dX10_init_14 : decode cX10_init 14 = .ok (.bipush 22, 2) := by decide +kernel
theorem dX10_init_16 : decode cX10_init 16 = .ok (.newarray .long, 2) := by decide +kernel
theorem dX10_init_18 : decode cX10_init 18 = .ok (.putfield 15, 3) := by decide +kernel
theorem dX10_init_21 : decode cX10_init 21 = .ok (.iconst 0, 1) := by decide +kernel
theorem dX10_init_22 : decode cX10_init 22 = .ok (.istore_n 1, 1) := by decide +kernel
theorem dX10_init_23 : decode cX10_init 23 = .ok (.iconst 0, 1) := by decide +kernel
theorem dX10_init_24 : decode cX10_init 24 = .ok (.istore_n 2, 1) := by decide +kernel
theorem dX10_init_25 : decode cX10_init 25 = .ok (.iconst 0, 1) := by decide +kernel
theorem dX10_init_26 : decode cX10_init 26 = .ok (.istore_n 3, 1) := by decide +kernel
theorem dX10_init_27 : decode cX10_init 27 = .ok (.iload_n 3, 1) := by decide +kernel
theorem dX10_init_28 : decode cX10_init 28 = .ok (.ldc 19, 2) := by decide +kernel
theorem dX10_init_30 : decode cX10_init 30 = .ok (.invokevirtual 21, 3) := by decide +kernel
theorem dX10_init_33 : decode cX10_init 33 = .ok (.if_icmp .ge 63, 3) := by decide +kernel
theorem dX10_init_36 : decode cX10_init 36 = .ok (.iload_n 1, 1) := by decide +kernel
theorem dX10_init_37 : decode cX10_init 37 = .ok (.bipush 22, 2) := by decide +kernel
theorem dX10_init_39 : decode cX10_init 39 = .ok (.if_icmp .ge 57, 3) := by decide +kernel
theorem dX10_init_42 : decode cX10_init 42 = .ok (.ldc 19, 2) := by decide +kernel
theorem dX10_init_44 : decode cX10_init 44 = .ok (.iload_n 3, 1) := by decide +kernel
theorem dX10_init_45 : decode cX10_init 45 = .ok (.invokevirtual 27, 3) := by decide +kernel
theorem dX10_init_48 : decode cX10_init 48 = .ok (.istore 4, 2) := by decide +kernel
theorem dX10_init_50 : decode cX10_init 50 = .ok (.iload 4, 2) := by decide +kernel
theorem dX10_init_52 : decode cX10_init 52 = .ok (.bipush 32, 2) := by decide +kernel
theorem dX10_init_54 : decode cX10_init 54 = .ok (.if_icmp .ne 11, 3) := by decide +kernel
theorem dX10_init_57 : decode cX10_init 57 = .ok (.iinc 1 1, 3) := by decide +kernel
theorem dX10_init_60 : decode cX10_init 60 = .ok (.iconst 0, 1) := by decide +kernel
theorem dX10_init_61 : decode cX10_init 61 = .ok (.istore_n 2, 1) := by decide +kernel
theorem dX10_init_62 : decode cX10_init 62 = .ok (.goto 28, 3) := by decide +kernel
theorem dX10_init_65 : decode cX10_init 65 = .ok (.aload_n 0, 1) := by decide +kernel
theorem dX10_init_66 : decode cX10_init 66 = .ok (.getfield 15, 3) := by decide +kernel
theorem dX10_init_69 : decode cX10_init 69 = .ok (.iload_n 1, 1) := by decide +kernel
theorem dX10_init_70 : decode cX10_init 70 = .ok (.dup2, 1) := by decide +kernel
theorem dX10_init_71 : decode cX10_init 71 = .ok (.laload, 1) := by decide +kernel
theorem dX10_init_72 : decode cX10_init 72 = .ok (.iload 4, 2) := by decide +kernel
theorem dX10_init_74 : decode cX10_init 74 = .ok (.bipush 96, 2) := by decide +kernel
theorem dX10_init_76 : decode cX10_init 76 = .ok (.isub, 1) := by decide +kernel
theorem dX10_init_77 : decode cX10_init 77 = .ok (.i2l, 1) := by decide +kernel
theorem dX10_init_78 : decode cX10_init 78 = .ok (.bipush 35, 2) := by decide +kernel
theorem dX10_init_80 : decode cX10_init 80 = .ok (.iconst 5, 1) := by decide +kernel
theorem dX10_init_81 : decode cX10_init 81 = .ok (.iload_n 2, 1) := by decide +kernel
theorem dX10_init_82 : decode cX10_init 82 = .ok (.imul, 1) := by decide +kernel
theorem dX10_init_83 : decode cX10_init 83 = .ok (.isub, 1) := by decide +kernel
theorem dX10_init_84 : decode cX10_init 84 = .ok (.lshl, 1) := by decide +kernel
theorem dX10_init_85 : decode cX10_init 85 = .ok (.lor, 1) := by decide +kernel
theorem dX10_init_86 : decode cX10_init 86 = .ok (.lastore, 1) := by decide +kernel
theorem dX10_init_87 : decode cX10_init 87 = .ok (.iinc 2 1, 3) := by decide +kernel
theorem dX10_init_90 : decode cX10_init 90 = .ok (.iinc 3 1, 3) := by decide +kernel
theorem dX10_init_93 : decode cX10_init 93 = .ok (.goto (-66), 3) := by decide +kernel
theorem dX10_init_96 : decode cX10_init 96 = .ok (.return_, 1) := by decide +kernel
theorem dX10_put_0 : decode cX10_put 0 = .ok (.bipush 24, 2) := by decide +kernel
theorem dX10_put_2 : decode cX10_put 2 = .ok (.istore_n 2, 1) := by decide +kernel
theorem dX10_put_3 : decode cX10_put 3 = .ok (.iload_n 2, 1) := by decide +kernel
theorem dX10_put_4 : decode cX10_put 4 = .ok (.ifCond .lt 45, 3) := by decide +kernel
theorem dX10_put_7 : decode cX10_put 7 = .ok (.aload_n 0, 1) := by decide +kernel
theorem dX10_put_8 : decode cX10_put 8 = .ok (.getfield 31, 3) := by decide +kernel
theorem dX10_put_11 : decode cX10_put 11 = .ok (.sipush 1000, 3) := by decide +kernel
theorem dX10_put_14 : decode cX10_put 14 = .ok (.if_icmp .ge 29, 3) := by decide +kernel
theorem dX10_put_17 : decode cX10_put 17 = .ok (.aload_n 0, 1) := by decide +kernel
theorem dX10_put_18 : decode cX10_put 18 = .ok (.getfield 9, 3) := by decide +kernel
theorem dX10_put_21 : decode cX10_put 21 = .ok (.aload_n 0, 1) := by decide +kernel
theorem dX10_put_22 : decode cX10_put 22 = .ok (.getfield 31, 3) := by decide +kernel
theorem dX10_put_25 : decode cX10_put 25 = .ok (.iload_n 1, 1) := by decide +kernel
theorem dX10_put_26 : decode cX10_put 26 = .ok (.iload_n 2, 1) := by decide +kernel
theorem dX10_put_27 : decode cX10_put 27 = .ok (.iushr, 1) := by decide +kernel
theorem dX10_put_28 : decode cX10_put 28 = .ok (.sipush 255, 3) := by decide +kernel
theorem dX10_put_31 : decode cX10_put 31 = .ok (.iand, 1) := by decide +kernel
theorem dX10_put_32 : decode cX10_put 32 = .ok (.iastore, 1) := by decide +kernel
theorem dX10_put_33 : decode cX10_put 33 = .ok (.aload_n 0, 1) := by decide +kernel
theorem dX10_put_34 : decode cX10_put 34 = .ok (.dup, 1) := by decide +kernel
theorem dX10_put_35 : decode cX10_put 35 = .ok (.getfield 31, 3) := by decide +kernel
theorem dX10_put_38 : decode cX10_put 38 = .ok (.iconst 1, 1) := by decide +kernel
theorem dX10_put_39 : decode cX10_put 39 = .ok (.iadd, 1) := by decide +kernel
theorem dX10_put_40 : decode cX10_put 40 = .ok (.putfield 31, 3) := by decide +kernel
theorem dX10_put_43 : decode cX10_put 43 = .ok (.iinc 2 (-8), 3) := by decide +kernel
theorem dX10_put_46 : decode cX10_put 46 = .ok (.goto (-43), 3) := by decide +kernel
theorem dX10_put_49 : decode cX10_put 49 = .ok (.return_, 1) := by decide +kernel
theorem dX10_readNumber_0 : decode cX10_readNumber 0 = .ok (.aload_n 0, 1) := by decide +kernel
theorem dX10_readNumber_1 : decode cX10_readNumber 1 = .ok (.iconst 0, 1) := by decide +kernel
theorem dX10_readNumber_2 : decode cX10_readNumber 2 = .ok (.putfield 62, 3) := by decide +kernel
theorem dX10_readNumber_5 : decode cX10_readNumber 5 = .ok (.aload_n 0, 1) := by decide +kernel
theorem dX10_readNumber_6 : decode cX10_readNumber 6 = .ok (.getfield 34, 3) := by decide +kernel
theorem dX10_readNumber_9 : decode cX10_readNumber 9 = .ok (.aload_n 0, 1) := by decide +kernel
theorem dX10_readNumber_10 : decode cX10_readNumber 10 = .ok (.getfield 31, 3) := by decide +kernel
theorem dX10_readNumber_13 : decode cX10_readNumber 13 = .ok (.if_icmp .ge 97, 3) := by decide +kernel
theorem dX10_readNumber_16 : decode cX10_readNumber 16 = .ok (.aload_n 0, 1) := by decide +kernel
theorem dX10_readNumber_17 : decode cX10_readNumber 17 = .ok (.getfield 9, 3) := by decide +kernel
theorem dX10_readNumber_20 : decode cX10_readNumber 20 = .ok (.aload_n 0, 1) := by decide +kernel
theorem dX10_readNumber_21 : decode cX10_readNumber 21 = .ok (.getfield 34, 3) := by decide +kernel
theorem dX10_readNumber_24 : decode cX10_readNumber 24 = .ok (.iaload, 1) := by decide +kernel
theorem dX10_readNumber_25 : decode cX10_readNumber 25 = .ok (.bipush 48, 2) := by decide +kernel
theorem dX10_readNumber_27 : decode cX10_readNumber 27 = .ok (.if_icmp .lt 83, 3) := by decide +kernel
theorem dX10_readNumber_30 : decode cX10_readNumber 30 = .ok (.aload_n 0, 1) := by decide +kernel
theorem dX10_readNumber_31 : decode cX10_readNumber 31 = .ok (.getfield 9, 3) := by decide +kernel
theorem dX10_readNumber_34 : decode cX10_readNumber 34 = .ok (.aload_n 0, 1) := by decide +kernel
theorem dX10_readNumber_35 : decode cX10_readNumber 35 = .ok (.getfield 34, 3) := by decide +kernel
theorem dX10_readNumber_38 : decode cX10_readNumber 38 = .ok (.iaload, 1) := by decide +kernel
theorem dX10_readNumber_39 : decode cX10_readNumber 39 = .ok (.bipush 57, 2) := by decide +kernel
theorem dX10_readNumber_41 : decode cX10_readNumber 41 = .ok (.if_icmp .gt 69, 3) := by decide +kernel
theorem dX10_readNumber_44 : decode cX10_readNumber 44 = .ok (.aload_n 0, 1) := by decide +kernel
theorem dX10_readNumber_45 : decode cX10_readNumber 45 = .ok (.getfield 34, 3) := by decide +kernel
theorem dX10_readNumber_48 : decode cX10_readNumber 48 = .ok (.aload_n 0, 1) := by decide +kernel
theorem dX10_readNumber_49 : decode cX10_readNumber 49 = .ok (.getfield 43, 3) := by decide +kernel
theorem dX10_readNumber_52 : decode cX10_readNumber 52 = .ok (.isub, 1) := by decide +kernel
theorem dX10_readNumber_53 : decode cX10_readNumber 53 = .ok (.iconst 5, 1) := by decide +kernel
theorem dX10_readNumber_54 : decode cX10_readNumber 54 = .ok (.if_icmp .ne 19, 3) := by decide +kernel
theorem dX10_readNumber_57 : decode cX10_readNumber 57 = .ok (.aload_n 0, 1) := by decide +kernel
theorem dX10_readNumber_58 : decode cX10_readNumber 58 = .ok (.aload_n 0, 1) := by decide +kernel
theorem dX10_readNumber_59 : decode cX10_readNumber 59 = .ok (.getfield 34, 3) := by decide +kernel
theorem dX10_readNumber_62 : decode cX10_readNumber 62 = .ok (.putfield 43, 3) := by decide +kernel
theorem dX10_readNumber_65 : decode cX10_readNumber 65 = .ok (.aload_n 0, 1) := by decide +kernel
theorem dX10_readNumber_66 : decode cX10_readNumber 66 = .ok (.sipush 257, 3) := by decide +kernel
theorem dX10_readNumber_69 : decode cX10_readNumber 69 = .ok (.putfield 37, 3) := by decide +kernel
theorem dX10_readNumber_72 : decode cX10_readNumber 72 = .ok (.return_, 1) := by decide +kernel
theorem dX10_readNumber_73 : decode cX10_readNumber 73 = .ok (.aload_n 0, 1) := by decide +kernel
theorem dX10_readNumber_74 : decode cX10_readNumber 74 = .ok (.aload_n 0, 1) := by decide +kernel
theorem dX10_readNumber_75 : decode cX10_readNumber 75 = .ok (.getfield 62, 3) := by decide +kernel
theorem dX10_readNumber_78 : decode cX10_readNumber 78 = .ok (.bipush 10, 2) := by decide +kernel
theorem dX10_readNumber_80 : decode cX10_readNumber 80 = .ok (.imul, 1) := by decide +kernel
theorem dX10_readNumber_81 : decode cX10_readNumber 81 = .ok (.aload_n 0, 1) := by decide +kernel
theorem dX10_readNumber_82 : decode cX10_readNumber 82 = .ok (.getfield 9, 3) := by decide +kernel
theorem dX10_readNumber_85 : decode cX10_readNumber 85 = .ok (.aload_n 0, 1) := by decide +kernel
theorem dX10_readNumber_86 : decode cX10_readNumber 86 = .ok (.getfield 34, 3) := by decide +kernel
theorem dX10_readNumber_89 : decode cX10_readNumber 89 = .ok (.iaload, 1) := by decide +kernel
theorem dX10_readNumber_90 : decode cX10_readNumber 90 = .ok (.iadd, 1) := by decide +kernel
theorem dX10_readNumber_91 : decode cX10_readNumber 91 = .ok (.bipush 48, 2) := by decide +kernel
theorem dX10_readNumber_93 : decode cX10_readNumber 93 = .ok (.isub, 1) := by decide +kernel
theorem dX10_readNumber_94 : decode cX10_readNumber 94 = .ok (.putfield 62, 3) := by decide +kernel
theorem dX10_readNumber_97 : decode cX10_readNumber 97 = .ok (.aload_n 0, 1) := by decide +kernel
theorem dX10_readNumber_98 : decode cX10_readNumber 98 = .ok (.dup, 1) := by decide +kernel
theorem dX10_readNumber_99 : decode cX10_readNumber 99 = .ok (.getfield 34, 3) := by decide +kernel
theorem dX10_readNumber_102 : decode cX10_readNumber 102 = .ok (.iconst 1, 1) := by decide +kernel
theorem dX10_readNumber_103 : decode cX10_readNumber 103 = .ok (.iadd, 1) := by decide +kernel
theorem dX10_readNumber_104 : decode cX10_readNumber 104 = .ok (.putfield 34, 3) := by decide +kernel
theorem dX10_readNumber_107 : decode cX10_readNumber 107 = .ok (.goto (-102), 3) := by decide +kernel
theorem dX10_readNumber_110 : decode cX10_readNumber 110 = .ok (.aload_n 0, 1) := by decide +kernel
theorem dX10_readNumber_111 : decode cX10_readNumber 111 = .ok (.sipush 259, 3) := by decide +kernel
theorem dX10_readNumber_114 : decode cX10_readNumber 114 = .ok (.putfield 37, 3) := by decide +kernel
theorem dX10_readNumber_117 : decode cX10_readNumber 117 = .ok (.return_, 1) := by decide +kernel
theorem dX10_readWishes_0 : decode cX10_readWishes 0 = .ok (.aload_n 0, 1) := by decide +kernel
theorem dX10_readWishes_1 : decode cX10_readWishes 1 = .ok (.invokevirtual 65, 3) := by decide +kernel
theorem dX10_readWishes_4 : decode cX10_readWishes 4 = .ok (.iconst 0, 1) := by decide +kernel
theorem dX10_readWishes_5 : decode cX10_readWishes 5 = .ok (.istore_n 2, 1) := by decide +kernel
theorem dX10_readWishes_6 : decode cX10_readWishes 6 = .ok (.iload_n 2, 1) := by decide +kernel
theorem dX10_readWishes_7 : decode cX10_readWishes 7 = .ok (.iconst 3, 1) := by decide +kernel
theorem dX10_readWishes_8 : decode cX10_readWishes 8 = .ok (.if_icmp .ge 46, 3) := by decide +kernel
theorem dX10_readWishes_11 : decode cX10_readWishes 11 = .ok (.aload_n 0, 1) := by decide +kernel
theorem dX10_readWishes_12 : decode cX10_readWishes 12 = .ok (.getfield 37, 3) := by decide +kernel
theorem dX10_readWishes_15 : decode cX10_readWishes 15 = .ok (.sipush 258, 3) := by decide +kernel
theorem dX10_readWishes_18 : decode cX10_readWishes 18 = .ok (.if_icmp .eq 19, 3) := by decide +kernel
theorem dX10_readWishes_21 : decode cX10_readWishes 21 = .ok (.aload_n 0, 1) := by decide +kernel
theorem dX10_readWishes_22 : decode cX10_readWishes 22 = .ok (.getfield 37, 3) := by decide +kernel
theorem dX10_readWishes_25 : decode cX10_readWishes 25 = .ok (.sipush 256, 3) := by decide +kernel
theorem dX10_readWishes_28 : decode cX10_readWishes 28 = .ok (.if_icmp .ne 7, 3) := by decide +kernel
theorem dX10_readWishes_31 : decode cX10_readWishes 31 = .ok (.iload_n 2, 1) := by decide +kernel
theorem dX10_readWishes_32 : decode cX10_readWishes 32 = .ok (.goto 4, 3) := by decide +kernel
theorem dX10_readWishes_35 : decode cX10_readWishes 35 = .ok (.iconst (-1), 1) := by decide +kernel
theorem dX10_readWishes_36 : decode cX10_readWishes 36 = .ok (.ireturn, 1) := by decide +kernel
theorem dX10_readWishes_37 : decode cX10_readWishes 37 = .ok (.aload_n 1, 1) := by decide +kernel
theorem dX10_readWishes_38 : decode cX10_readWishes 38 = .ok (.iload_n 2, 1) := by decide +kernel
theorem dX10_readWishes_39 : decode cX10_readWishes 39 = .ok (.aload_n 0, 1) := by decide +kernel
theorem dX10_readWishes_40 : decode cX10_readWishes 40 = .ok (.getfield 58, 3) := by decide +kernel
theorem dX10_readWishes_43 : decode cX10_readWishes 43 = .ok (.lastore, 1) := by decide +kernel
theorem dX10_readWishes_44 : decode cX10_readWishes 44 = .ok (.aload_n 0, 1) := by decide +kernel
theorem dX10_readWishes_45 : decode cX10_readWishes 45 = .ok (.invokevirtual 40, 3) := by decide +kernel
theorem dX10_readWishes_48 : decode cX10_readWishes 48 = .ok (.iinc 2 1, 3) := by decide +kernel
theorem dX10_readWishes_51 : decode cX10_readWishes 51 = .ok (.goto (-45), 3) := by decide +kernel
theorem dX10_readWishes_54 : decode cX10_readWishes 54 = .ok (.aload_n 0, 1) := by decide +kernel
theorem dX10_readWishes_55 : decode cX10_readWishes 55 = .ok (.getfield 37, 3) := by decide +kernel
theorem dX10_readWishes_58 : decode cX10_readWishes 58 = .ok (.sipush 256, 3) := by decide +kernel
theorem dX10_readWishes_61 : decode cX10_readWishes 61 = .ok (.if_icmp .ne 7, 3) := by decide +kernel
theorem dX10_readWishes_64 : decode cX10_readWishes 64 = .ok (.iconst 3, 1) := by decide +kernel
theorem dX10_readWishes_65 : decode cX10_readWishes 65 = .ok (.goto 4, 3) := by decide +kernel
theorem dX10_readWishes_68 : decode cX10_readWishes 68 = .ok (.iconst (-1), 1) := by decide +kernel
theorem dX10_readWishes_69 : decode cX10_readWishes 69 = .ok (.ireturn, 1) := by decide +kernel
theorem dX10_readWord_0 : decode cX10_readWord 0 = .ok (.aload_n 0, 1) := by decide +kernel
theorem dX10_readWord_1 : decode cX10_readWord 1 = .ok (.lconst 0, 1) := by decide +kernel
theorem dX10_readWord_2 : decode cX10_readWord 2 = .ok (.putfield 58, 3) := by decide +kernel
theorem dX10_readWord_5 : decode cX10_readWord 5 = .ok (.aload_n 0, 1) := by decide +kernel
theorem dX10_readWord_6 : decode cX10_readWord 6 = .ok (.getfield 34, 3) := by decide +kernel
theorem dX10_readWord_9 : decode cX10_readWord 9 = .ok (.aload_n 0, 1) := by decide +kernel
theorem dX10_readWord_10 : decode cX10_readWord 10 = .ok (.getfield 31, 3) := by decide +kernel
theorem dX10_readWord_13 : decode cX10_readWord 13 = .ok (.if_icmp .ge 105, 3) := by decide +kernel
theorem dX10_readWord_16 : decode cX10_readWord 16 = .ok (.aload_n 0, 1) := by decide +kernel
theorem dX10_readWord_17 : decode cX10_readWord 17 = .ok (.getfield 9, 3) := by decide +kernel
theorem dX10_readWord_20 : decode cX10_readWord 20 = .ok (.aload_n 0, 1) := by decide +kernel
theorem dX10_readWord_21 : decode cX10_readWord 21 = .ok (.getfield 34, 3) := by decide +kernel
theorem dX10_readWord_24 : decode cX10_readWord 24 = .ok (.iaload, 1) := by decide +kernel
theorem dX10_readWord_25 : decode cX10_readWord 25 = .ok (.bipush 97, 2) := by decide +kernel
theorem dX10_readWord_27 : decode cX10_readWord 27 = .ok (.if_icmp .lt 91, 3) := by decide +kernel
theorem dX10_readWord_30 : decode cX10_readWord 30 = .ok (.aload_n 0, 1) := by decide +kernel
theorem dX10_readWord_31 : decode cX10_readWord 31 = .ok (.getfield 9, 3) := by decide +kernel
theorem dX10_readWord_34 : decode cX10_readWord 34 = .ok (.aload_n 0, 1) := by decide +kernel
theorem dX10_readWord_35 : decode cX10_readWord 35 = .ok (.getfield 34, 3) := by decide +kernel
theorem dX10_readWord_38 : decode cX10_readWord 38 = .ok (.iaload, 1) := by decide +kernel
theorem dX10_readWord_39 : decode cX10_readWord 39 = .ok (.bipush 122, 2) := by decide +kernel
theorem dX10_readWord_41 : decode cX10_readWord 41 = .ok (.if_icmp .gt 77, 3) := by decide +kernel
theorem dX10_readWord_44 : decode cX10_readWord 44 = .ok (.aload_n 0, 1) := by decide +kernel
theorem dX10_readWord_45 : decode cX10_readWord 45 = .ok (.getfield 34, 3) := by decide +kernel
theorem dX10_readWord_48 : decode cX10_readWord 48 = .ok (.aload_n 0, 1) := by decide +kernel
theorem dX10_readWord_49 : decode cX10_readWord 49 = .ok (.getfield 43, 3) := by decide +kernel
theorem dX10_readWord_52 : decode cX10_readWord 52 = .ok (.isub, 1) := by decide +kernel
theorem dX10_readWord_53 : decode cX10_readWord 53 = .ok (.istore_n 1, 1) := by decide +kernel
theorem dX10_readWord_54 : decode cX10_readWord 54 = .ok (.iload_n 1, 1) := by decide +kernel
theorem dX10_readWord_55 : decode cX10_readWord 55 = .ok (.bipush 8, 2) := by decide +kernel
theorem dX10_readWord_57 : decode cX10_readWord 57 = .ok (.if_icmp .ne 19, 3) := by decide +kernel
theorem dX10_readWord_60 : decode cX10_readWord 60 = .ok (.aload_n 0, 1) := by decide +kernel
theorem dX10_readWord_61 : decode cX10_readWord 61 = .ok (.aload_n 0, 1) := by decide +kernel
theorem dX10_readWord_62 : decode cX10_readWord 62 = .ok (.getfield 34, 3) := by decide +kernel
theorem dX10_readWord_65 : decode cX10_readWord 65 = .ok (.putfield 43, 3) := by decide +kernel
theorem dX10_readWord_68 : decode cX10_readWord 68 = .ok (.aload_n 0, 1) := by decide +kernel
theorem dX10_readWord_69 : decode cX10_readWord 69 = .ok (.sipush 257, 3) := by decide +kernel
theorem dX10_readWord_72 : decode cX10_readWord 72 = .ok (.putfield 37, 3) := by decide +kernel
theorem dX10_readWord_75 : decode cX10_readWord 75 = .ok (.return_, 1) := by decide +kernel
theorem dX10_readWord_76 : decode cX10_readWord 76 = .ok (.aload_n 0, 1) := by decide +kernel
theorem dX10_readWord_77 : decode cX10_readWord 77 = .ok (.dup, 1) := by decide +kernel
theorem dX10_readWord_78 : decode cX10_readWord 78 = .ok (.getfield 58, 3) := by decide +kernel
theorem dX10_readWord_81 : decode cX10_readWord 81 = .ok (.aload_n 0, 1) := by decide +kernel
theorem dX10_readWord_82 : decode cX10_readWord 82 = .ok (.getfield 9, 3) := by decide +kernel
theorem dX10_readWord_85 : decode cX10_readWord 85 = .ok (.aload_n 0, 1) := by decide +kernel
theorem dX10_readWord_86 : decode cX10_readWord 86 = .ok (.getfield 34, 3) := by decide +kernel
theorem dX10_readWord_89 : decode cX10_readWord 89 = .ok (.iaload, 1) := by decide +kernel
theorem dX10_readWord_90 : decode cX10_readWord 90 = .ok (.bipush 96, 2) := by decide +kernel
theorem dX10_readWord_92 : decode cX10_readWord 92 = .ok (.isub, 1) := by decide +kernel
theorem dX10_readWord_93 : decode cX10_readWord 93 = .ok (.i2l, 1) := by decide +kernel
theorem dX10_readWord_94 : decode cX10_readWord 94 = .ok (.bipush 35, 2) := by decide +kernel
theorem dX10_readWord_96 : decode cX10_readWord 96 = .ok (.iconst 5, 1) := by decide +kernel
theorem dX10_readWord_97 : decode cX10_readWord 97 = .ok (.iload_n 1, 1) := by decide +kernel
theorem dX10_readWord_98 : decode cX10_readWord 98 = .ok (.imul, 1) := by decide +kernel
theorem dX10_readWord_99 : decode cX10_readWord 99 = .ok (.isub, 1) := by decide +kernel
theorem dX10_readWord_100 : decode cX10_readWord 100 = .ok (.lshl, 1) := by decide +kernel
theorem dX10_readWord_101 : decode cX10_readWord 101 = .ok (.lor, 1) := by decide +kernel
theorem dX10_readWord_102 : decode cX10_readWord 102 = .ok (.putfield 58, 3) := by decide +kernel
theorem dX10_readWord_105 : decode cX10_readWord 105 = .ok (.aload_n 0, 1) := by decide +kernel
theorem dX10_readWord_106 : decode cX10_readWord 106 = .ok (.dup, 1) := by decide +kernel
theorem dX10_readWord_107 : decode cX10_readWord 107 = .ok (.getfield 34, 3) := by decide +kernel
theorem dX10_readWord_110 : decode cX10_readWord 110 = .ok (.iconst 1, 1) := by decide +kernel
theorem dX10_readWord_111 : decode cX10_readWord 111 = .ok (.iadd, 1) := by decide +kernel
theorem dX10_readWord_112 : decode cX10_readWord 112 = .ok (.putfield 34, 3) := by decide +kernel
theorem dX10_readWord_115 : decode cX10_readWord 115 = .ok (.goto (-110), 3) := by decide +kernel
theorem dX10_readWord_118 : decode cX10_readWord 118 = .ok (.aload_n 0, 1) := by decide +kernel
theorem dX10_readWord_119 : decode cX10_readWord 119 = .ok (.sipush 258, 3) := by decide +kernel
theorem dX10_readWord_122 : decode cX10_readWord 122 = .ok (.putfield 37, 3) := by decide +kernel
theorem dX10_readWord_125 : decode cX10_readWord 125 = .ok (.iconst 0, 1) := by decide +kernel
theorem dX10_readWord_126 : decode cX10_readWord 126 = .ok (.istore_n 1, 1) := by decide +kernel
theorem dX10_readWord_127 : decode cX10_readWord 127 = .ok (.iload_n 1, 1) := by decide +kernel
theorem dX10_readWord_128 : decode cX10_readWord 128 = .ok (.bipush 22, 2) := by decide +kernel
theorem dX10_readWord_130 : decode cX10_readWord 130 = .ok (.if_icmp .ge 35, 3) := by decide +kernel
theorem dX10_readWord_133 : decode cX10_readWord 133 = .ok (.aload_n 0, 1) := by decide +kernel
theorem dX10_readWord_134 : decode cX10_readWord 134 = .ok (.getfield 15, 3) := by decide +kernel
theorem dX10_readWord_137 : decode cX10_readWord 137 = .ok (.iload_n 1, 1) := by decide +kernel
theorem dX10_readWord_138 : decode cX10_readWord 138 = .ok (.laload, 1) := by decide +kernel
theorem dX10_readWord_139 : decode cX10_readWord 139 = .ok (.aload_n 0, 1) := by decide +kernel
theorem dX10_readWord_140 : decode cX10_readWord 140 = .ok (.getfield 58, 3) := by decide +kernel
theorem dX10_readWord_143 : decode cX10_readWord 143 = .ok (.lcmp, 1) := by decide +kernel
theorem dX10_readWord_144 : decode cX10_readWord 144 = .ok (.ifCond .ne 15, 3) := by decide +kernel
theorem dX10_readWord_147 : decode cX10_readWord 147 = .ok (.aload_n 0, 1) := by decide +kernel
theorem dX10_readWord_148 : decode cX10_readWord 148 = .ok (.sipush 260, 3) := by decide +kernel
theorem dX10_readWord_151 : decode cX10_readWord 151 = .ok (.iload_n 1, 1) := by decide +kernel
theorem dX10_readWord_152 : decode cX10_readWord 152 = .ok (.iadd, 1) := by decide +kernel
theorem dX10_readWord_153 : decode cX10_readWord 153 = .ok (.iconst 1, 1) := by decide +kernel
theorem dX10_readWord_154 : decode cX10_readWord 154 = .ok (.iadd, 1) := by decide +kernel
theorem dX10_readWord_155 : decode cX10_readWord 155 = .ok (.putfield 37, 3) := by decide +kernel
theorem dX10_readWord_158 : decode cX10_readWord 158 = .ok (.return_, 1) := by decide +kernel
theorem dX10_readWord_159 : decode cX10_readWord 159 = .ok (.iinc 1 1, 3) := by decide +kernel
theorem dX10_readWord_162 : decode cX10_readWord 162 = .ok (.goto (-35), 3) := by decide +kernel
theorem dX10_readWord_165 : decode cX10_readWord 165 = .ok (.return_, 1) := by decide +kernel
theorem dX10_rewind_0 : decode cX10_rewind 0 = .ok (.aload_n 0, 1) := by decide +kernel
theorem dX10_rewind_1 : decode cX10_rewind 1 = .ok (.iconst 0, 1) := by decide +kernel
theorem dX10_rewind_2 : decode cX10_rewind 2 = .ok (.putfield 34, 3) := by decide +kernel
theorem dX10_rewind_5 : decode cX10_rewind 5 = .ok (.aload_n 0, 1) := by decide +kernel
theorem dX10_rewind_6 : decode cX10_rewind 6 = .ok (.sipush 256, 3) := by decide +kernel
theorem dX10_rewind_9 : decode cX10_rewind 9 = .ok (.putfield 37, 3) := by decide +kernel
theorem dX10_rewind_12 : decode cX10_rewind 12 = .ok (.aload_n 0, 1) := by decide +kernel
theorem dX10_rewind_13 : decode cX10_rewind 13 = .ok (.invokevirtual 40, 3) := by decide +kernel
theorem dX10_rewind_16 : decode cX10_rewind 16 = .ok (.return_, 1) := by decide +kernel
theorem dX10_step_0 : decode cX10_step 0 = .ok (.aload_n 0, 1) := by decide +kernel
theorem dX10_step_1 : decode cX10_step 1 = .ok (.getfield 37, 3) := by decide +kernel
theorem dX10_step_4 : decode cX10_step 4 = .ok (.sipush 258, 3) := by decide +kernel
theorem dX10_step_7 : decode cX10_step 7 = .ok (.if_icmp .lt 7, 3) := by decide +kernel
theorem dX10_step_10 : decode cX10_step 10 = .ok (.iconst 1, 1) := by decide +kernel
theorem dX10_step_11 : decode cX10_step 11 = .ok (.goto 4, 3) := by decide +kernel
theorem dX10_step_14 : decode cX10_step 14 = .ok (.iconst 0, 1) := by decide +kernel
theorem dX10_step_15 : decode cX10_step 15 = .ok (.istore_n 1, 1) := by decide +kernel
theorem dX10_step_16 : decode cX10_step 16 = .ok (.aload_n 0, 1) := by decide +kernel
theorem dX10_step_17 : decode cX10_step 17 = .ok (.getfield 34, 3) := by decide +kernel
theorem dX10_step_20 : decode cX10_step 20 = .ok (.istore_n 2, 1) := by decide +kernel
theorem dX10_step_21 : decode cX10_step 21 = .ok (.aload_n 0, 1) := by decide +kernel
theorem dX10_step_22 : decode cX10_step 22 = .ok (.getfield 34, 3) := by decide +kernel
theorem dX10_step_25 : decode cX10_step 25 = .ok (.aload_n 0, 1) := by decide +kernel
theorem dX10_step_26 : decode cX10_step 26 = .ok (.getfield 31, 3) := by decide +kernel
theorem dX10_step_29 : decode cX10_step 29 = .ok (.if_icmp .ge 44, 3) := by decide +kernel
theorem dX10_step_32 : decode cX10_step 32 = .ok (.aload_n 0, 1) := by decide +kernel
theorem dX10_step_33 : decode cX10_step 33 = .ok (.getfield 9, 3) := by decide +kernel
theorem dX10_step_36 : decode cX10_step 36 = .ok (.aload_n 0, 1) := by decide +kernel
theorem dX10_step_37 : decode cX10_step 37 = .ok (.getfield 34, 3) := by decide +kernel
theorem dX10_step_40 : decode cX10_step 40 = .ok (.iaload, 1) := by decide +kernel
theorem dX10_step_41 : decode cX10_step 41 = .ok (.bipush 10, 2) := by decide +kernel
theorem dX10_step_43 : decode cX10_step 43 = .ok (.if_icmp .eq 17, 3) := by decide +kernel
theorem dX10_step_46 : decode cX10_step 46 = .ok (.aload_n 0, 1) := by decide +kernel
theorem dX10_step_47 : decode cX10_step 47 = .ok (.getfield 9, 3) := by decide +kernel
theorem dX10_step_50 : decode cX10_step 50 = .ok (.aload_n 0, 1) := by decide +kernel
theorem dX10_step_51 : decode cX10_step 51 = .ok (.getfield 34, 3) := by decide +kernel
theorem dX10_step_54 : decode cX10_step 54 = .ok (.iaload, 1) := by decide +kernel
theorem dX10_step_55 : decode cX10_step 55 = .ok (.bipush 32, 2) := by decide +kernel
theorem dX10_step_57 : decode cX10_step 57 = .ok (.if_icmp .ne 16, 3) := by decide +kernel
theorem dX10_step_60 : decode cX10_step 60 = .ok (.aload_n 0, 1) := by decide +kernel
theorem dX10_step_61 : decode cX10_step 61 = .ok (.dup, 1) := by decide +kernel
theorem dX10_step_62 : decode cX10_step 62 = .ok (.getfield 34, 3) := by decide +kernel
theorem dX10_step_65 : decode cX10_step 65 = .ok (.iconst 1, 1) := by decide +kernel
theorem dX10_step_66 : decode cX10_step 66 = .ok (.iadd, 1) := by decide +kernel
theorem dX10_step_67 : decode cX10_step 67 = .ok (.putfield 34, 3) := by decide +kernel
theorem dX10_step_70 : decode cX10_step 70 = .ok (.goto (-49), 3) := by decide +kernel
theorem dX10_step_73 : decode cX10_step 73 = .ok (.aload_n 0, 1) := by decide +kernel
theorem dX10_step_74 : decode cX10_step 74 = .ok (.aload_n 0, 1) := by decide +kernel
theorem dX10_step_75 : decode cX10_step 75 = .ok (.getfield 34, 3) := by decide +kernel
theorem dX10_step_78 : decode cX10_step 78 = .ok (.putfield 43, 3) := by decide +kernel
theorem dX10_step_81 : decode cX10_step 81 = .ok (.aload_n 0, 1) := by decide +kernel
theorem dX10_step_82 : decode cX10_step 82 = .ok (.aload_n 0, 1) := by decide +kernel
theorem dX10_step_83 : decode cX10_step 83 = .ok (.getfield 34, 3) := by decide +kernel
theorem dX10_step_86 : decode cX10_step 86 = .ok (.aload_n 0, 1) := by decide +kernel
theorem dX10_step_87 : decode cX10_step 87 = .ok (.getfield 31, 3) := by decide +kernel
theorem dX10_step_90 : decode cX10_step 90 = .ok (.if_icmp .ge 15, 3) := by decide +kernel
theorem dX10_step_93 : decode cX10_step 93 = .ok (.aload_n 0, 1) := by decide +kernel
theorem dX10_step_94 : decode cX10_step 94 = .ok (.getfield 9, 3) := by decide +kernel
theorem dX10_step_97 : decode cX10_step 97 = .ok (.aload_n 0, 1) := by decide +kernel
theorem dX10_step_98 : decode cX10_step 98 = .ok (.getfield 34, 3) := by decide +kernel
theorem dX10_step_101 : decode cX10_step 101 = .ok (.iaload, 1) := by decide +kernel
theorem dX10_step_102 : decode cX10_step 102 = .ok (.goto 6, 3) := by decide +kernel
theorem dX10_step_105 : decode cX10_step 105 = .ok (.sipush 256, 3) := by decide +kernel
theorem dX10_step_108 : decode cX10_step 108 = .ok (.putfield 37, 3) := by decide +kernel
theorem dX10_step_111 : decode cX10_step 111 = .ok (.aload_n 0, 1) := by decide +kernel
theorem dX10_step_112 : decode cX10_step 112 = .ok (.getfield 37, 3) := by decide +kernel
theorem dX10_step_115 : decode cX10_step 115 = .ok (.bipush 97, 2) := by decide +kernel
theorem dX10_step_117 : decode cX10_step 117 = .ok (.if_icmp .lt 16, 3) := by decide +kernel
theorem dX10_step_120 : decode cX10_step 120 = .ok (.aload_n 0, 1) := by decide +kernel
theorem dX10_step_121 : decode cX10_step 121 = .ok (.getfield 37, 3) := by decide +kernel
theorem dX10_step_124 : decode cX10_step 124 = .ok (.bipush 122, 2) := by decide +kernel
theorem dX10_step_126 : decode cX10_step 126 = .ok (.if_icmp .gt 7, 3) := by decide +kernel
theorem dX10_step_129 : decode cX10_step 129 = .ok (.iconst 1, 1) := by decide +kernel
theorem dX10_step_130 : decode cX10_step 130 = .ok (.goto 4, 3) := by decide +kernel
theorem dX10_step_133 : decode cX10_step 133 = .ok (.iconst 0, 1) := by decide +kernel
theorem dX10_step_134 : decode cX10_step 134 = .ok (.istore_n 3, 1) := by decide +kernel
theorem dX10_step_135 : decode cX10_step 135 = .ok (.aload_n 0, 1) := by decide +kernel
theorem dX10_step_136 : decode cX10_step 136 = .ok (.getfield 37, 3) := by decide +kernel
theorem dX10_step_139 : decode cX10_step 139 = .ok (.bipush 48, 2) := by decide +kernel
theorem dX10_step_141 : decode cX10_step 141 = .ok (.if_icmp .lt 16, 3) := by decide +kernel
theorem dX10_step_144 : decode cX10_step 144 = .ok (.aload_n 0, 1) := by decide +kernel
theorem dX10_step_145 : decode cX10_step 145 = .ok (.getfield 37, 3) := by decide +kernel
theorem dX10_step_148 : decode cX10_step 148 = .ok (.bipush 57, 2) := by decide +kernel
theorem dX10_step_150 : decode cX10_step 150 = .ok (.if_icmp .gt 7, 3) := by decide +kernel
theorem dX10_step_153 : decode cX10_step 153 = .ok (.iconst 1, 1) := by decide +kernel
theorem dX10_step_154 : decode cX10_step 154 = .ok (.goto 4, 3) := by decide +kernel
theorem dX10_step_157 : decode cX10_step 157 = .ok (.iconst 0, 1) := by decide +kernel
theorem dX10_step_158 : decode cX10_step 158 = .ok (.istore 4, 2) := by decide +kernel
theorem dX10_step_160 : decode cX10_step 160 = .ok (.iload_n 3, 1) := by decide +kernel
theorem dX10_step_161 : decode cX10_step 161 = .ok (.ifCond .eq 10, 3) := by decide +kernel
theorem dX10_step_164 : decode cX10_step 164 = .ok (.aload_n 0, 1) := by decide +kernel
theorem dX10_step_165 : decode cX10_step 165 = .ok (.invokevirtual 46, 3) := by decide +kernel
theorem dX10_step_168 : decode cX10_step 168 = .ok (.goto 32, 3) := by decide +kernel
theorem dX10_step_171 : decode cX10_step 171 = .ok (.iload 4, 2) := by decide +kernel
theorem dX10_step_173 : decode cX10_step 173 = .ok (.ifCond .eq 10, 3) := by decide +kernel
theorem dX10_step_176 : decode cX10_step 176 = .ok (.aload_n 0, 1) := by decide +kernel
theorem dX10_step_177 : decode cX10_step 177 = .ok (.invokevirtual 49, 3) := by decide +kernel
theorem dX10_step_180 : decode cX10_step 180 = .ok (.goto 20, 3) := by decide +kernel
theorem dX10_step_183 : decode cX10_step 183 = .ok (.aload_n 0, 1) := by decide +kernel
theorem dX10_step_184 : decode cX10_step 184 = .ok (.aload_n 0, 1) := by decide +kernel
theorem dX10_step_185 : decode cX10_step 185 = .ok (.getfield 34, 3) := by decide +kernel
theorem dX10_step_188 : decode cX10_step 188 = .ok (.iconst 1, 1) := by decide +kernel
theorem dX10_step_189 : decode cX10_step 189 = .ok (.iadd, 1) := by decide +kernel
theorem dX10_step_190 : decode cX10_step 190 = .ok (.aload_n 0, 1) := by decide +kernel
theorem dX10_step_191 : decode cX10_step 191 = .ok (.getfield 31, 3) := by decide +kernel
theorem dX10_step_194 : decode cX10_step 194 = .ok (.invokestatic 52, 3) := by decide +kernel
theorem dX10_step_197 : decode cX10_step 197 = .ok (.putfield 34, 3) := by decide +kernel
theorem dX10_step_200 : decode cX10_step 200 = .ok (.iload_n 1, 1) := by decide +kernel
theorem dX10_step_201 : decode cX10_step 201 = .ok (.ifCond .eq 27, 3) := by decide +kernel
theorem dX10_step_204 : decode cX10_step 204 = .ok (.iload_n 3, 1) := by decide +kernel
theorem dX10_step_205 : decode cX10_step 205 = .ok (.ifCond .ne 8, 3) := by decide +kernel
theorem dX10_step_208 : decode cX10_step 208 = .ok (.iload 4, 2) := by decide +kernel
theorem dX10_step_210 : decode cX10_step 210 = .ok (.ifCond .eq 18, 3) := by decide +kernel
theorem dX10_step_213 : decode cX10_step 213 = .ok (.aload_n 0, 1) := by decide +kernel
theorem dX10_step_214 : decode cX10_step 214 = .ok (.getfield 43, 3) := by decide +kernel
theorem dX10_step_217 : decode cX10_step 217 = .ok (.iload_n 2, 1) := by decide +kernel
theorem dX10_step_218 : decode cX10_step 218 = .ok (.if_icmp .ne 10, 3) := by decide +kernel
theorem dX10_step_221 : decode cX10_step 221 = .ok (.aload_n 0, 1) := by decide +kernel
theorem dX10_step_222 : decode cX10_step 222 = .ok (.sipush 257, 3) := by decide +kernel
theorem dX10_step_225 : decode cX10_step 225 = .ok (.putfield 37, 3) := by decide +kernel
theorem dX10_step_228 : decode cX10_step 228 = .ok (.return_, 1) := by decide +kernel
theorem dX11_actNow_0 : decode cX11_actNow 0 = .ok (.aload_n 0, 1) := by decide +kernel
theorem dX11_actNow_1 : decode cX11_actNow 1 = .ok (.getfield 95, 3) := by decide +kernel
theorem dX11_actNow_4 : decode cX11_actNow 4 = .ok (.iconst (-1), 1) := by decide +kernel
theorem dX11_actNow_5 : decode cX11_actNow 5 = .ok (.if_icmp .ne 13, 3) := by decide +kernel
theorem dX11_actNow_8 : decode cX11_actNow 8 = .ok (.aload_n 0, 1) := by decide +kernel
theorem dX11_actNow_9 : decode cX11_actNow 9 = .ok (.getfield 38, 3) := by decide +kernel
theorem dX11_actNow_12 : decode cX11_actNow 12 = .ok (.getfield 190, 3) := by decide +kernel
theorem dX11_actNow_15 : decode cX11_actNow 15 = .ok (.goto 7, 3) := by decide +kernel
theorem dX11_actNow_18 : decode cX11_actNow 18 = .ok (.aload_n 0, 1) := by decide +kernel
theorem dX11_actNow_19 : decode cX11_actNow 19 = .ok (.getfield 95, 3) := by decide +kernel
theorem dX11_actNow_22 : decode cX11_actNow 22 = .ok (.ireturn, 1) := by decide +kernel
theorem dX11_all_0 : decode cX11_all 0 = .ok (.iload_n 1, 1) := by decide +kernel
theorem dX11_all_1 : decode cX11_all 1 = .ok (.tableswitch 116 0 7 #[47, 55, 63, 71, 79, 84, 96, 108], 47) := by decide +kernel
theorem dX11_all_48 : decode cX11_all 48 = .ok (.aload_n 0, 1) := by decide +kernel
theorem dX11_all_49 : decode cX11_all 49 = .ok (.getfield 12, 3) := by decide +kernel
theorem dX11_all_52 : decode cX11_all 52 = .ok (.getfield 128, 3) := by decide +kernel
theorem dX11_all_55 : decode cX11_all 55 = .ok (.ireturn, 1) := by decide +kernel
theorem dX11_all_56 : decode cX11_all 56 = .ok (.aload_n 0, 1) := by decide +kernel
theorem dX11_all_57 : decode cX11_all 57 = .ok (.getfield 12, 3) := by decide +kernel
theorem dX11_all_60 : decode cX11_all 60 = .ok (.getfield 140, 3) := by decide +kernel
theorem dX11_all_63 : decode cX11_all 63 = .ok (.ireturn, 1) := by decide +kernel
theorem dX11_all_64 : decode cX11_all 64 = .ok (.aload_n 0, 1) := by decide +kernel
theorem dX11_all_65 : decode cX11_all 65 = .ok (.getfield 12, 3) := by decide +kernel
theorem dX11_all_68 : decode cX11_all 68 = .ok (.getfield 131, 3) := by decide +kernel
theorem dX11_all_71 : decode cX11_all 71 = .ok (.ireturn, 1) := by decide +kernel
theorem dX11_all_72 : decode cX11_all 72 = .ok (.aload_n 0, 1) := by decide +kernel
theorem dX11_all_73 : decode cX11_all 73 = .ok (.getfield 38, 3) := by decide +kernel
theorem dX11_all_76 : decode cX11_all 76 = .ok (.getfield 190, 3) := by decide +kernel
theorem dX11_all_79 : decode cX11_all 79 = .ok (.ireturn, 1) := by decide +kernel
theorem dX11_all_80 : decode cX11_all 80 = .ok (.aload_n 0, 1) := by decide +kernel
theorem dX11_all_81 : decode cX11_all 81 = .ok (.invokevirtual 203, 3) := by decide +kernel
theorem dX11_all_84 : decode cX11_all 84 = .ok (.ireturn, 1) := by decide +kernel
theorem dX11_all_85 : decode cX11_all 85 = .ok (.aload_n 0, 1) := by decide +kernel
theorem dX11_all_86 : decode cX11_all 86 = .ok (.invokevirtual 207, 3) := by decide +kernel
theorem dX11_all_89 : decode cX11_all 89 = .ok (.aload_n 0, 1) := by decide +kernel
theorem dX11_all_90 : decode cX11_all 90 = .ok (.getfield 45, 3) := by decide +kernel
theorem dX11_all_93 : decode cX11_all 93 = .ok (.getfield 210, 3) := by decide +kernel
theorem dX11_all_96 : decode cX11_all 96 = .ok (.ireturn, 1) := by decide +kernel
theorem dX11_all_97 : decode cX11_all 97 = .ok (.aload_n 0, 1) := by decide +kernel
theorem dX11_all_98 : decode cX11_all 98 = .ok (.invokevirtual 207, 3) := by decide +kernel
theorem dX11_all_101 : decode cX11_all 101 = .ok (.aload_n 0, 1) := by decide +kernel
theorem dX11_all_102 : decode cX11_all 102 = .ok (.getfield 45, 3) := by decide +kernel
theorem dX11_all_105 : decode cX11_all 105 = .ok (.invokevirtual 213, 3) := by decide +kernel
theorem dX11_all_108 : decode cX11_all 108 = .ok (.ireturn, 1) := by decide +kernel
theorem dX11_all_109 : decode cX11_all 109 = .ok (.aload_n 0, 1) := by decide +kernel
theorem dX11_all_110 : decode cX11_all 110 = .ok (.getfield 12, 3) := by decide +kernel
theorem dX11_all_113 : decode cX11_all 113 = .ok (.getfield 216, 3) := by decide +kernel
theorem dX11_all_116 : decode cX11_all 116 = .ok (.ireturn, 1) := by decide +kernel
theorem dX11_all_117 : decode cX11_all 117 = .ok (.iconst (-1), 1) := by decide +kernel
theorem dX11_all_118 : decode cX11_all 118 = .ok (.ireturn, 1) := by decide +kernel
theorem dX11_annul_0 : decode cX11_annul 0 = .ok (.iload_n 1, 1) := by decide +kernel
theorem dX11_annul_1 : decode cX11_annul 1 = .ok (.iconst 1, 1) := by decide +kernel
theorem dX11_annul_2 : decode cX11_annul 2 = .ok (.if_icmp .lt 24, 3) := by decide +kernel
theorem dX11_annul_5 : decode cX11_annul 5 = .ok (.iload_n 1, 1) := by decide +kernel
theorem dX11_annul_6 : decode cX11_annul 6 = .ok (.aload_n 0, 1) := by decide +kernel
theorem dX11_annul_7 : decode cX11_annul 7 = .ok (.getfield 38, 3) := by decide +kernel
theorem dX11_annul_10 : decode cX11_annul 10 = .ok (.getfield 190, 3) := by decide +kernel
theorem dX11_annul_13 : decode cX11_annul 13 = .ok (.if_icmp .gt 13, 3) := by decide +kernel
theorem dX11_annul_16 : decode cX11_annul 16 = .ok (.aload_n 0, 1) := by decide +kernel
theorem dX11_annul_17 : decode cX11_annul 17 = .ok (.getfield 38, 3) := by decide +kernel
theorem dX11_annul_20 : decode cX11_annul 20 = .ok (.invokevirtual 178, 3) := by decide +kernel
theorem dX11_annul_23 : decode cX11_annul 23 = .ok (.ifCond .eq 5, 3) := by decide +kernel
theorem dX11_annul_26 : decode cX11_annul 26 = .ok (.iconst (-1), 1) := by decide +kernel
theorem dX11_annul_27 : decode cX11_annul 27 = .ok (.ireturn, 1) := by decide +kernel
theorem dX11_annul_28 : decode cX11_annul 28 = .ok (.aload_n 0, 1) := by decide +kernel
theorem dX11_annul_29 : decode cX11_annul 29 = .ok (.getfield 38, 3) := by decide +kernel
theorem dX11_annul_32 : decode cX11_annul 32 = .ok (.getfield 193, 3) := by decide +kernel
theorem dX11_annul_35 : decode cX11_annul 35 = .ok (.iload_n 1, 1) := by decide +kernel
theorem dX11_annul_36 : decode cX11_annul 36 = .ok (.iaload, 1) := by decide +kernel
theorem dX11_annul_37 : decode cX11_annul 37 = .ok (.iconst 4, 1) := by decide +kernel
theorem dX11_annul_38 : decode cX11_annul 38 = .ok (.if_icmp .eq 15, 3) := by decide +kernel
theorem dX11_annul_41 : decode cX11_annul 41 = .ok (.aload_n 0, 1) := by decide +kernel
theorem dX11_annul_42 : decode cX11_annul 42 = .ok (.getfield 38, 3) := by decide +kernel
theorem dX11_annul_45 : decode cX11_annul 45 = .ok (.getfield 196, 3) := by decide +kernel
theorem dX11_annul_48 : decode cX11_annul 48 = .ok (.iload_n 1, 1) := by decide +kernel
theorem dX11_annul_49 : decode cX11_annul 49 = .ok (.iaload, 1) := by decide +kernel
theorem dX11_annul_50 : decode cX11_annul 50 = .ok (.ifCond .eq 5, 3) := by decide +kernel
theorem dX11_annul_53 : decode cX11_annul 53 = .ok (.iconst (-1), 1) := by decide +kernel
theorem dX11_annul_54 : decode cX11_annul 54 = .ok (.ireturn, 1) := by decide +kernel
theorem dX11_annul_55 : decode cX11_annul 55 = .ok (.aload_n 0, 1) := by decide +kernel
theorem dX11_annul_56 : decode cX11_annul 56 = .ok (.getfield 38, 3) := by decide +kernel
theorem dX11_annul_59 : decode cX11_annul 59 = .ok (.iload_n 1, 1) := by decide +kernel
theorem dX11_annul_60 : decode cX11_annul 60 = .ok (.invokevirtual 199, 3) := by decide +kernel
theorem dX11_annul_63 : decode cX11_annul 63 = .ok (.ireturn, 1) := by decide +kernel
theorem dX11_as_0 : decode cX11_as 0 = .ok (.iload_n 1, 1) := by decide +kernel
theorem dX11_as_1 : decode cX11_as 1 = .ok (.iconst (-1), 1) := by decide +kernel
theorem dX11_as_2 : decode cX11_as 2 = .ok (.if_icmp .lt 14, 3) := by decide +kernel
theorem dX11_as_5 : decode cX11_as 5 = .ok (.iload_n 1, 1) := by decide +kernel
theorem dX11_as_6 : decode cX11_as 6 = .ok (.aload_n 0, 1) := by decide +kernel
theorem dX11_as_7 : decode cX11_as 7 = .ok (.getfield 38, 3) := by decide +kernel
theorem dX11_as_10 : decode cX11_as 10 = .ok (.getfield 190, 3) := by decide +kernel
theorem dX11_as_13 : decode cX11_as 13 = .ok (.if_icmp .le 5, 3) := by decide +kernel
theorem dX11_as_16 : decode cX11_as 16 = .ok (.iconst 0, 1) := by decide +kernel
theorem dX11_as_17 : decode cX11_as 17 = .ok (.ireturn, 1) := by decide +kernel
theorem dX11_as_18 : decode cX11_as 18 = .ok (.aload_n 0, 1) := by decide +kernel
theorem dX11_as_19 : decode cX11_as 19 = .ok (.iload_n 1, 1) := by decide +kernel
theorem dX11_as_20 : decode cX11_as 20 = .ok (.putfield 95, 3) := by decide +kernel
theorem dX11_as_23 : decode cX11_as 23 = .ok (.iconst 1, 1) := by decide +kernel
theorem dX11_as_24 : decode cX11_as 24 = .ok (.ireturn, 1) := by decide +kernel
theorem dX11_at_0 : decode cX11_at 0 = .ok (.iload_n 1, 1) := by decide +kernel
theorem dX11_at_1 : decode cX11_at 1 = .ok (.ifCond .lt 26, 3) := by decide +kernel
theorem dX11_at_4 : decode cX11_at 4 = .ok (.iload_n 1, 1) := by decide +kernel
theorem dX11_at_5 : decode cX11_at 5 = .ok (.aload_n 0, 1) := by decide +kernel
theorem dX11_at_6 : decode cX11_at 6 = .ok (.getfield 91, 3) := by decide +kernel
theorem dX11_at_9 : decode cX11_at 9 = .ok (.getfield 341, 3) := by decide +kernel
theorem dX11_at_12 : decode cX11_at 12 = .ok (.if_icmp .ge 15, 3) := by decide +kernel
theorem dX11_at_15 : decode cX11_at 15 = .ok (.aload_n 0, 1) := by decide +kernel
theorem dX11_at_16 : decode cX11_at 16 = .ok (.getfield 91, 3) := by decide +kernel
theorem dX11_at_19 : decode cX11_at 19 = .ok (.getfield 344, 3) := by decide +kernel
theorem dX11_at_22 : decode cX11_at 22 = .ok (.iload_n 1, 1) := by decide +kernel
theorem dX11_at_23 : decode cX11_at 23 = .ok (.iaload, 1) := by decide +kernel
theorem dX11_at_24 : decode cX11_at 24 = .ok (.goto 4, 3) := by decide +kernel
theorem dX11_at_27 : decode cX11_at 27 = .ok (.iconst (-1), 1) := by decide +kernel
theorem dX11_at_28 : decode cX11_at 28 = .ok (.ireturn, 1) := by decide +kernel
theorem dX11_bag_0 : decode cX11_bag 0 = .ok (.aload_n 0, 1) := by decide +kernel
theorem dX11_bag_1 : decode cX11_bag 1 = .ok (.getfield 84, 3) := by decide +kernel
theorem dX11_bag_4 : decode cX11_bag 4 = .ok (.getfield 124, 3) := by decide +kernel
theorem dX11_bag_7 : decode cX11_bag 7 = .ok (.ifCond .eq 7, 3) := by decide +kernel
theorem dX11_bag_10 : decode cX11_bag 10 = .ok (.iload_n 1, 1) := by decide +kernel
theorem dX11_bag_11 : decode cX11_bag 11 = .ok (.ifCond .ge 5, 3) := by decide +kernel
theorem dX11_bag_14 : decode cX11_bag 14 = .ok (.iconst (-1), 1) := by decide +kernel
theorem dX11_bag_15 : decode cX11_bag 15 = .ok (.ireturn, 1) := by decide +kernel
theorem dX11_bag_16 : decode cX11_bag 16 = .ok (.aload_n 0, 1) := by decide +kernel
theorem dX11_bag_17 : decode cX11_bag 17 = .ok (.getfield 91, 3) := by decide +kernel
theorem dX11_bag_20 : decode cX11_bag 20 = .ok (.aload_n 0, 1) := by decide +kernel
theorem dX11_bag_21 : decode cX11_bag 21 = .ok (.getfield 84, 3) := by decide +kernel
theorem dX11_bag_24 : decode cX11_bag 24 = .ok (.aload_n 0, 1) := by decide +kernel
theorem dX11_bag_25 : decode cX11_bag 25 = .ok (.getfield 12, 3) := by decide +kernel
theorem dX11_bag_28 : decode cX11_bag 28 = .ok (.invokevirtual 311, 3) := by decide +kernel
theorem dX11_bag_31 : decode cX11_bag 31 = .ok (.iload_n 1, 1) := by decide +kernel
theorem dX11_bag_32 : decode cX11_bag 32 = .ok (.aload_n 0, 1) := by decide +kernel
theorem dX11_bag_33 : decode cX11_bag 33 = .ok (.getfield 91, 3) := by decide +kernel
theorem dX11_bag_36 : decode cX11_bag 36 = .ok (.getfield 318, 3) := by decide +kernel
theorem dX11_bag_39 : decode cX11_bag 39 = .ok (.if_icmp .ge 15, 3) := by decide +kernel
theorem dX11_bag_42 : decode cX11_bag 42 = .ok (.aload_n 0, 1) := by decide +kernel
theorem dX11_bag_43 : decode cX11_bag 43 = .ok (.getfield 91, 3) := by decide +kernel
theorem dX11_bag_46 : decode cX11_bag 46 = .ok (.getfield 319, 3) := by decide +kernel
theorem dX11_bag_49 : decode cX11_bag 49 = .ok (.iload_n 1, 1) := by decide +kernel
theorem dX11_bag_50 : decode cX11_bag 50 = .ok (.iaload, 1) := by decide +kernel
theorem dX11_bag_51 : decode cX11_bag 51 = .ok (.goto 4, 3) := by decide +kernel
theorem dX11_bag_54 : decode cX11_bag 54 = .ok (.iconst (-1), 1) := by decide +kernel
theorem dX11_bag_55 : decode cX11_bag 55 = .ok (.ireturn, 1) := by decide +kernel
theorem dX11_blind_0 : decode cX11_blind 0 = .ok (.aload_n 0, 1) := by decide +kernel
theorem dX11_blind_1 : decode cX11_blind 1 = .ok (.invokevirtual 249, 3) := by decide +kernel
theorem dX11_blind_4 : decode cX11_blind 4 = .ok (.aload_n 0, 1) := by decide +kernel
theorem dX11_blind_5 : decode cX11_blind 5 = .ok (.getfield 99, 3) := by decide +kernel
theorem dX11_blind_8 : decode cX11_blind 8 = .ok (.iconst 0, 1) := by decide +kernel
theorem dX11_blind_9 : decode cX11_blind 9 = .ok (.invokestatic 255, 3) := by decide +kernel
theorem dX11_blind_12 : decode cX11_blind 12 = .ok (.iconst 0, 1) := by decide +kernel
theorem dX11_blind_13 : decode cX11_blind 13 = .ok (.istore_n 1, 1) := by decide +kernel
theorem dX11_blind_14 : decode cX11_blind 14 = .ok (.iconst 1, 1) := by decide +kernel
theorem dX11_blind_15 : decode cX11_blind 15 = .ok (.istore_n 2, 1) := by decide +kernel
theorem dX11_blind_16 : decode cX11_blind 16 = .ok (.iload_n 2, 1) := by decide +kernel
theorem dX11_blind_17 : decode cX11_blind 17 = .ok (.bipush 24, 2) := by decide +kernel
theorem dX11_blind_19 : decode cX11_blind 19 = .ok (.if_icmp .gt 93, 3) := by decide +kernel
theorem dX11_blind_22 : decode cX11_blind 22 = .ok (.aload_n 0, 1) := by decide +kernel
theorem dX11_blind_23 : decode cX11_blind 23 = .ok (.getfield 45, 3) := by decide +kernel
theorem dX11_blind_26 : decode cX11_blind 26 = .ok (.aload_n 0, 1) := by decide +kernel
theorem dX11_blind_27 : decode cX11_blind 27 = .ok (.getfield 99, 3) := by decide +kernel
theorem dX11_blind_30 : decode cX11_blind 30 = .ok (.iload_n 2, 1) := by decide +kernel
theorem dX11_blind_31 : decode cX11_blind 31 = .ok (.aload_n 0, 1) := by decide +kernel
theorem dX11_blind_32 : decode cX11_blind 32 = .ok (.getfield 12, 3) := by decide +kernel
theorem dX11_blind_35 : decode cX11_blind 35 = .ok (.getfield 128, 3) := by decide +kernel
theorem dX11_blind_38 : decode cX11_blind 38 = .ok (.invokevirtual 261, 3) := by decide +kernel
theorem dX11_blind_41 : decode cX11_blind 41 = .ok (.aload_n 0, 1) := by decide +kernel
theorem dX11_blind_42 : decode cX11_blind 42 = .ok (.getfield 59, 3) := by decide +kernel
theorem dX11_blind_45 : decode cX11_blind 45 = .ok (.aload_n 0, 1) := by decide +kernel
theorem dX11_blind_46 : decode cX11_blind 46 = .ok (.getfield 12, 3) := by decide +kernel
theorem dX11_blind_49 : decode cX11_blind 49 = .ok (.getfield 128, 3) := by decide +kernel
theorem dX11_blind_52 : decode cX11_blind 52 = .ok (.invokevirtual 252, 3) := by decide +kernel
theorem dX11_blind_55 : decode cX11_blind 55 = .ok (.aload_n 0, 1) := by decide +kernel
theorem dX11_blind_56 : decode cX11_blind 56 = .ok (.getfield 59, 3) := by decide +kernel
theorem dX11_blind_59 : decode cX11_blind 59 = .ok (.aload_n 0, 1) := by decide +kernel
theorem dX11_blind_60 : decode cX11_blind 60 = .ok (.getfield 45, 3) := by decide +kernel
theorem dX11_blind_63 : decode cX11_blind 63 = .ok (.aload_n 0, 1) := by decide +kernel
theorem dX11_blind_64 : decode cX11_blind 64 = .ok (.getfield 52, 3) := by decide +kernel
theorem dX11_blind_67 : decode cX11_blind 67 = .ok (.iload_n 2, 1) := by decide +kernel
theorem dX11_blind_68 : decode cX11_blind 68 = .ok (.aload_n 0, 1) := by decide +kernel
theorem dX11_blind_69 : decode cX11_blind 69 = .ok (.getfield 99, 3) := by decide +kernel
theorem dX11_blind_72 : decode cX11_blind 72 = .ok (.invokevirtual 265, 3) := by decide +kernel
theorem dX11_blind_75 : decode cX11_blind 75 = .ok (.aload_n 0, 1) := by decide +kernel
theorem dX11_blind_76 : decode cX11_blind 76 = .ok (.getfield 59, 3) := by decide +kernel
theorem dX11_blind_79 : decode cX11_blind 79 = .ok (.getfield 286, 3) := by decide +kernel
theorem dX11_blind_82 : decode cX11_blind 82 = .ok (.ifCond .le 24, 3) := by decide +kernel
theorem dX11_blind_85 : decode cX11_blind 85 = .ok (.aload_n 0, 1) := by decide +kernel
theorem dX11_blind_86 : decode cX11_blind 86 = .ok (.getfield 77, 3) := by decide +kernel
theorem dX11_blind_89 : decode cX11_blind 89 = .ok (.invokevirtual 269, 3) := by decide +kernel
theorem dX11_blind_92 : decode cX11_blind 92 = .ok (.iload_n 1, 1) := by decide +kernel
theorem dX11_blind_93 : decode cX11_blind 93 = .ok (.aload_n 0, 1) := by decide +kernel
theorem dX11_blind_94 : decode cX11_blind 94 = .ok (.getfield 59, 3) := by decide +kernel
theorem dX11_blind_97 : decode cX11_blind 97 = .ok (.aload_n 0, 1) := by decide +kernel
theorem dX11_blind_98 : decode cX11_blind 98 = .ok (.getfield 99, 3) := by decide +kernel
theorem dX11_blind_101 : decode cX11_blind 101 = .ok (.invokevirtual 289, 3) := by decide +kernel
theorem dX11_blind_104 : decode cX11_blind 104 = .ok (.iadd, 1) := by decide +kernel
theorem dX11_blind_105 : decode cX11_blind 105 = .ok (.istore_n 1, 1) := by decide +kernel
theorem dX11_blind_106 : decode cX11_blind 106 = .ok (.iinc 2 1, 3) := by decide +kernel
theorem dX11_blind_109 : decode cX11_blind 109 = .ok (.goto (-93), 3) := by decide +kernel
theorem dX11_blind_112 : decode cX11_blind 112 = .ok (.iload_n 1, 1) := by decide +kernel
theorem dX11_blind_113 : decode cX11_blind 113 = .ok (.ireturn, 1) := by decide +kernel
theorem dX11_call_0 : decode cX11_call 0 = .ok (.aload_n 0, 1) := by decide +kernel
theorem dX11_call_1 : decode cX11_call 1 = .ok (.iload_n 1, 1) := by decide +kernel
theorem dX11_call_2 : decode cX11_call 2 = .ok (.invokevirtual 154, 3) := by decide +kernel
theorem dX11_call_5 : decode cX11_call 5 = .ok (.ifCond .eq 20, 3) := by decide +kernel
theorem dX11_call_8 : decode cX11_call 8 = .ok (.iload_n 2, 1) := by decide +kernel
theorem dX11_call_9 : decode cX11_call 9 = .ok (.invokestatic 172, 3) := by decide +kernel
theorem dX11_call_12 : decode cX11_call 12 = .ok (.ifCond .eq 13, 3) := by decide +kernel
theorem dX11_call_15 : decode cX11_call 15 = .ok (.aload_n 0, 1) := by decide +kernel
theorem dX11_call_16 : decode cX11_call 16 = .ok (.getfield 38, 3) := by decide +kernel
theorem dX11_call_19 : decode cX11_call 19 = .ok (.invokevirtual 178, 3) := by decide +kernel
theorem dX11_call_22 : decode cX11_call 22 = .ok (.ifCond .eq 5, 3) := by decide +kernel
theorem dX11_call_25 : decode cX11_call 25 = .ok (.iconst (-1), 1) := by decide +kernel
theorem dX11_call_26 : decode cX11_call 26 = .ok (.ireturn, 1) := by decide +kernel
theorem dX11_call_27 : decode cX11_call 27 = .ok (.aload_n 0, 1) := by decide +kernel
theorem dX11_call_28 : decode cX11_call 28 = .ok (.getfield 38, 3) := by decide +kernel
theorem dX11_call_31 : decode cX11_call 31 = .ok (.iconst 3, 1) := by decide +kernel
theorem dX11_call_32 : decode cX11_call 32 = .ok (.iload_n 1, 1) := by decide +kernel
theorem dX11_call_33 : decode cX11_call 33 = .ok (.iload_n 2, 1) := by decide +kernel
theorem dX11_call_34 : decode cX11_call 34 = .ok (.iconst 0, 1) := by decide +kernel
theorem dX11_call_35 : decode cX11_call 35 = .ok (.invokevirtual 186, 3) := by decide +kernel
theorem dX11_call_38 : decode cX11_call 38 = .ok (.ireturn, 1) := by decide +kernel
theorem dX11_child_0 : decode cX11_child 0 = .ok (.iload_n 1, 1) := by decide +kernel
theorem dX11_child_1 : decode cX11_child 1 = .ok (.iconst 1, 1) := by decide +kernel
theorem dX11_child_2 : decode cX11_child 2 = .ok (.if_icmp .lt 11, 3) := by decide +kernel
theorem dX11_child_5 : decode cX11_child 5 = .ok (.iload_n 1, 1) := by decide +kernel
theorem dX11_child_6 : decode cX11_child 6 = .ok (.aload_n 0, 1) := by decide +kernel
theorem dX11_child_7 : decode cX11_child 7 = .ok (.invokevirtual 203, 3) := by decide +kernel
theorem dX11_child_10 : decode cX11_child 10 = .ok (.if_icmp .le 5, 3) := by decide +kernel
theorem dX11_child_13 : decode cX11_child 13 = .ok (.iconst (-1), 1) := by decide +kernel
theorem dX11_child_14 : decode cX11_child 14 = .ok (.ireturn, 1) := by decide +kernel
theorem dX11_child_15 : decode cX11_child 15 = .ok (.aload_n 0, 1) := by decide +kernel
theorem dX11_child_16 : decode cX11_child 16 = .ok (.invokevirtual 207, 3) := by decide +kernel
theorem dX11_child_19 : decode cX11_child 19 = .ok (.aload_n 0, 1) := by decide +kernel
theorem dX11_child_20 : decode cX11_child 20 = .ok (.getfield 45, 3) := by decide +kernel
theorem dX11_child_23 : decode cX11_child 23 = .ok (.getfield 219, 3) := by decide +kernel
theorem dX11_child_26 : decode cX11_child 26 = .ok (.iload_n 1, 1) := by decide +kernel
theorem dX11_child_27 : decode cX11_child 27 = .ok (.iaload, 1) := by decide +kernel
theorem dX11_child_28 : decode cX11_child 28 = .ok (.ireturn, 1) := by decide +kernel
theorem dX11_end_0 : decode cX11_end 0 = .ok (.iload_n 1, 1) := by decide +kernel
theorem dX11_end_1 : decode cX11_end 1 = .ok (.ifCond .lt 14, 3) := by decide +kernel
theorem dX11_end_4 : decode cX11_end 4 = .ok (.iload_n 1, 1) := by decide +kernel
theorem dX11_end_5 : decode cX11_end 5 = .ok (.aload_n 0, 1) := by decide +kernel
theorem dX11_end_6 : decode cX11_end 6 = .ok (.getfield 22, 3) := by decide +kernel
theorem dX11_end_9 : decode cX11_end 9 = .ok (.getfield 103, 3) := by decide +kernel
theorem dX11_end_12 : decode cX11_end 12 = .ok (.if_icmp .le 5, 3) := by decide +kernel
theorem dX11_end_15 : decode cX11_end 15 = .ok (.iconst 0, 1) := by decide +kernel
theorem dX11_end_16 : decode cX11_end 16 = .ok (.ireturn, 1) := by decide +kernel
theorem dX11_end_17 : decode cX11_end 17 = .ok (.aload_n 0, 1) := by decide +kernel
theorem dX11_end_18 : decode cX11_end 18 = .ok (.getfield 22, 3) := by decide +kernel
theorem dX11_end_21 : decode cX11_end 21 = .ok (.iload_n 1, 1) := by decide +kernel
theorem dX11_end_22 : decode cX11_end 22 = .ok (.putfield 103, 3) := by decide +kernel
theorem dX11_end_25 : decode cX11_end 25 = .ok (.iconst 1, 1) := by decide +kernel
theorem dX11_end_26 : decode cX11_end 26 = .ok (.ireturn, 1) := by decide +kernel
theorem dX11_fault_0 : decode cX11_fault 0 = .ok (.iload_n 1, 1) := by decide +kernel
theorem dX11_fault_1 : decode cX11_fault 1 = .ok (.ifCond .ne 11, 3) := by decide +kernel
theorem dX11_fault_4 : decode cX11_fault 4 = .ok (.aload_n 0, 1) := by decide +kernel
theorem dX11_fault_5 : decode cX11_fault 5 = .ok (.getfield 31, 3) := by decide +kernel
theorem dX11_fault_8 : decode cX11_fault 8 = .ok (.getfield 134, 3) := by decide +kernel
theorem dX11_fault_11 : decode cX11_fault 11 = .ok (.ireturn, 1) := by decide +kernel
theorem dX11_fault_12 : decode cX11_fault 12 = .ok (.iload_n 1, 1) := by decide +kernel
theorem dX11_fault_13 : decode cX11_fault 13 = .ok (.iconst 1, 1) := by decide +kernel
theorem dX11_fault_14 : decode cX11_fault 14 = .ok (.if_icmp .ne 13, 3) := by decide +kernel
theorem dX11_fault_17 : decode cX11_fault 17 = .ok (.aload_n 0, 1) := by decide +kernel
theorem dX11_fault_18 : decode cX11_fault 18 = .ok (.getfield 31, 3) := by decide +kernel
theorem dX11_fault_21 : decode cX11_fault 21 = .ok (.getfield 137, 3) := by decide +kernel
theorem dX11_fault_24 : decode cX11_fault 24 = .ok (.goto 4, 3) := by decide +kernel
theorem dX11_fault_27 : decode cX11_fault 27 = .ok (.iconst (-1), 1) := by decide +kernel
theorem dX11_fault_28 : decode cX11_fault 28 = .ok (.ireturn, 1) := by decide +kernel
theorem dX11_feed_0 : decode cX11_feed 0 = .ok (.aload_n 0, 1) := by decide +kernel
theorem dX11_feed_1 : decode cX11_feed 1 = .ok (.getfield 22, 3) := by decide +kernel
theorem dX11_feed_4 : decode cX11_feed 4 = .ok (.getfield 103, 3) := by decide +kernel
theorem dX11_feed_7 : decode cX11_feed 7 = .ok (.bipush 20, 2) := by decide +kernel
theorem dX11_feed_9 : decode cX11_feed 9 = .ok (.iadd, 1) := by decide +kernel
theorem dX11_feed_10 : decode cX11_feed 10 = .ok (.sipush 1000, 3) := by decide +kernel
theorem dX11_feed_13 : decode cX11_feed 13 = .ok (.if_icmp .le 5, 3) := by decide +kernel
theorem dX11_feed_16 : decode cX11_feed 16 = .ok (.iconst (-1), 1) := by decide +kernel
theorem dX11_feed_17 : decode cX11_feed 17 = .ok (.ireturn, 1) := by decide +kernel
theorem dX11_feed_18 : decode cX11_feed 18 = .ok (.aload_n 0, 1) := by decide +kernel
theorem dX11_feed_19 : decode cX11_feed 19 = .ok (.getfield 22, 3) := by decide +kernel
theorem dX11_feed_22 : decode cX11_feed 22 = .ok (.iload_n 1, 1) := by decide +kernel
theorem dX11_feed_23 : decode cX11_feed 23 = .ok (.invokevirtual 106, 3) := by decide +kernel
theorem dX11_feed_26 : decode cX11_feed 26 = .ok (.aload_n 0, 1) := by decide +kernel
theorem dX11_feed_27 : decode cX11_feed 27 = .ok (.getfield 22, 3) := by decide +kernel
theorem dX11_feed_30 : decode cX11_feed 30 = .ok (.iload_n 2, 1) := by decide +kernel
theorem dX11_feed_31 : decode cX11_feed 31 = .ok (.invokevirtual 106, 3) := by decide +kernel
theorem dX11_feed_34 : decode cX11_feed 34 = .ok (.aload_n 0, 1) := by decide +kernel
theorem dX11_feed_35 : decode cX11_feed 35 = .ok (.getfield 22, 3) := by decide +kernel
theorem dX11_feed_38 : decode cX11_feed 38 = .ok (.iload_n 3, 1) := by decide +kernel
theorem dX11_feed_39 : decode cX11_feed 39 = .ok (.invokevirtual 106, 3) := by decide +kernel
theorem dX11_feed_42 : decode cX11_feed 42 = .ok (.aload_n 0, 1) := by decide +kernel
theorem dX11_feed_43 : decode cX11_feed 43 = .ok (.getfield 22, 3) := by decide +kernel
theorem dX11_feed_46 : decode cX11_feed 46 = .ok (.iload 4, 2) := by decide +kernel
theorem dX11_feed_48 : decode cX11_feed 48 = .ok (.invokevirtual 106, 3) := by decide +kernel
theorem dX11_feed_51 : decode cX11_feed 51 = .ok (.aload_n 0, 1) := by decide +kernel
theorem dX11_feed_52 : decode cX11_feed 52 = .ok (.getfield 22, 3) := by decide +kernel
theorem dX11_feed_55 : decode cX11_feed 55 = .ok (.iload 5, 2) := by decide +kernel
theorem dX11_feed_57 : decode cX11_feed 57 = .ok (.invokevirtual 106, 3) := by decide +kernel
theorem dX11_feed_60 : decode cX11_feed 60 = .ok (.aload_n 0, 1) := by decide +kernel
theorem dX11_feed_61 : decode cX11_feed 61 = .ok (.getfield 22, 3) := by decide +kernel
theorem dX11_feed_64 : decode cX11_feed 64 = .ok (.getfield 103, 3) := by decide +kernel
theorem dX11_feed_67 : decode cX11_feed 67 = .ok (.ireturn, 1) := by decide +kernel
theorem dX11_gets_0 : decode cX11_gets 0 = .ok (.aload_n 0, 1) := by decide +kernel
theorem dX11_gets_1 : decode cX11_gets 1 = .ok (.getfield 84, 3) := by decide +kernel
theorem dX11_gets_4 : decode cX11_gets 4 = .ok (.iload_n 1, 1) := by decide +kernel
theorem dX11_gets_5 : decode cX11_gets 5 = .ok (.invokevirtual 279, 3) := by decide +kernel
theorem dX11_gets_8 : decode cX11_gets 8 = .ok (.ifCond .eq 15, 3) := by decide +kernel
theorem dX11_gets_11 : decode cX11_gets 11 = .ok (.aload_n 0, 1) := by decide +kernel
theorem dX11_gets_12 : decode cX11_gets 12 = .ok (.getfield 84, 3) := by decide +kernel
theorem dX11_gets_15 : decode cX11_gets 15 = .ok (.getfield 280, 3) := by decide +kernel
theorem dX11_gets_18 : decode cX11_gets 18 = .ok (.iload_n 1, 1) := by decide +kernel
theorem dX11_gets_19 : decode cX11_gets 19 = .ok (.iaload, 1) := by decide +kernel
theorem dX11_gets_20 : decode cX11_gets 20 = .ok (.goto 4, 3) := by decide +kernel
theorem dX11_gets_23 : decode cX11_gets 23 = .ok (.iconst (-1), 1) := by decide +kernel
theorem dX11_gets_24 : decode cX11_gets 24 = .ok (.ireturn, 1) := by decide +kernel
theorem dX11_gifts_0 : decode cX11_gifts 0 = .ok (.aload_n 0, 1) := by decide +kernel
theorem dX11_gifts_1 : decode cX11_gifts 1 = .ok (.iload_n 1, 1) := by decide +kernel
theorem dX11_gifts_2 : decode cX11_gifts 2 = .ok (.invokevirtual 154, 3) := by decide +kernel
theorem dX11_gifts_5 : decode cX11_gifts 5 = .ok (.ifCond .eq 30, 3) := by decide +kernel
theorem dX11_gifts_8 : decode cX11_gifts 8 = .ok (.iload_n 2, 1) := by decide +kernel
theorem dX11_gifts_9 : decode cX11_gifts 9 = .ok (.invokestatic 172, 3) := by decide +kernel
theorem dX11_gifts_12 : decode cX11_gifts 12 = .ok (.ifCond .eq 23, 3) := by decide +kernel
theorem dX11_gifts_15 : decode cX11_gifts 15 = .ok (.iload_n 3, 1) := by decide +kernel
theorem dX11_gifts_16 : decode cX11_gifts 16 = .ok (.iconst 1, 1) := by decide +kernel
theorem dX11_gifts_17 : decode cX11_gifts 17 = .ok (.bipush 99, 2) := by decide +kernel
theorem dX11_gifts_19 : decode cX11_gifts 19 = .ok (.invokestatic 168, 3) := by decide +kernel
theorem dX11_gifts_22 : decode cX11_gifts 22 = .ok (.ifCond .eq 13, 3) := by decide +kernel
theorem dX11_gifts_25 : decode cX11_gifts 25 = .ok (.aload_n 0, 1) := by decide +kernel
theorem dX11_gifts_26 : decode cX11_gifts 26 = .ok (.getfield 38, 3) := by decide +kernel
theorem dX11_gifts_29 : decode cX11_gifts 29 = .ok (.invokevirtual 178, 3) := by decide +kernel
theorem dX11_gifts_32 : decode cX11_gifts 32 = .ok (.ifCond .eq 5, 3) := by decide +kernel
theorem dX11_gifts_35 : decode cX11_gifts 35 = .ok (.iconst (-1), 1) := by decide +kernel
theorem dX11_gifts_36 : decode cX11_gifts 36 = .ok (.ireturn, 1) := by decide +kernel
theorem dX11_gifts_37 : decode cX11_gifts 37 = .ok (.aload_n 0, 1) := by decide +kernel
theorem dX11_gifts_38 : decode cX11_gifts 38 = .ok (.getfield 38, 3) := by decide +kernel
theorem dX11_gifts_41 : decode cX11_gifts 41 = .ok (.iconst 2, 1) := by decide +kernel
theorem dX11_gifts_42 : decode cX11_gifts 42 = .ok (.iload_n 1, 1) := by decide +kernel
theorem dX11_gifts_43 : decode cX11_gifts 43 = .ok (.iload_n 2, 1) := by decide +kernel
theorem dX11_gifts_44 : decode cX11_gifts 44 = .ok (.iload_n 3, 1) := by decide +kernel
theorem dX11_gifts_45 : decode cX11_gifts 45 = .ok (.invokevirtual 186, 3) := by decide +kernel
theorem dX11_gifts_48 : decode cX11_gifts 48 = .ok (.ireturn, 1) := by decide +kernel
theorem dX11_give_0 : decode cX11_give 0 = .ok (.aload_n 0, 1) := by decide +kernel
theorem dX11_give_1 : decode cX11_give 1 = .ok (.invokevirtual 249, 3) := by decide +kernel
theorem dX11_give_4 : decode cX11_give 4 = .ok (.aload_n 0, 1) := by decide +kernel
theorem dX11_give_5 : decode cX11_give 5 = .ok (.getfield 59, 3) := by decide +kernel
theorem dX11_give_8 : decode cX11_give 8 = .ok (.aload_n 0, 1) := by decide +kernel
theorem dX11_give_9 : decode cX11_give 9 = .ok (.getfield 12, 3) := by decide +kernel
theorem dX11_give_12 : decode cX11_give 12 = .ok (.getfield 128, 3) := by decide +kernel
theorem dX11_give_15 : decode cX11_give 15 = .ok (.invokevirtual 252, 3) := by decide +kernel
theorem dX11_give_18 : decode cX11_give 18 = .ok (.aload_n 0, 1) := by decide +kernel
theorem dX11_give_19 : decode cX11_give 19 = .ok (.getfield 99, 3) := by decide +kernel
theorem dX11_give_22 : decode cX11_give 22 = .ok (.iconst 0, 1) := by decide +kernel
theorem dX11_give_23 : decode cX11_give 23 = .ok (.invokestatic 255, 3) := by decide +kernel
theorem dX11_give_26 : decode cX11_give 26 = .ok (.iconst 1, 1) := by decide +kernel
theorem dX11_give_27 : decode cX11_give 27 = .ok (.istore_n 1, 1) := by decide +kernel
theorem dX11_give_28 : decode cX11_give 28 = .ok (.iload_n 1, 1) := by decide +kernel
theorem dX11_give_29 : decode cX11_give 29 = .ok (.bipush 24, 2) := by decide +kernel
theorem dX11_give_31 : decode cX11_give 31 = .ok (.if_icmp .gt 48, 3) := by decide +kernel
theorem dX11_give_34 : decode cX11_give 34 = .ok (.aload_n 0, 1) := by decide +kernel
theorem dX11_give_35 : decode cX11_give 35 = .ok (.getfield 45, 3) := by decide +kernel
theorem dX11_give_38 : decode cX11_give 38 = .ok (.aload_n 0, 1) := by decide +kernel
theorem dX11_give_39 : decode cX11_give 39 = .ok (.getfield 99, 3) := by decide +kernel
theorem dX11_give_42 : decode cX11_give 42 = .ok (.iload_n 1, 1) := by decide +kernel
theorem dX11_give_43 : decode cX11_give 43 = .ok (.aload_n 0, 1) := by decide +kernel
theorem dX11_give_44 : decode cX11_give 44 = .ok (.getfield 12, 3) := by decide +kernel
theorem dX11_give_47 : decode cX11_give 47 = .ok (.getfield 128, 3) := by decide +kernel
theorem dX11_give_50 : decode cX11_give 50 = .ok (.invokevirtual 261, 3) := by decide +kernel
theorem dX11_give_53 : decode cX11_give 53 = .ok (.aload_n 0, 1) := by decide +kernel
theorem dX11_give_54 : decode cX11_give 54 = .ok (.getfield 59, 3) := by decide +kernel
theorem dX11_give_57 : decode cX11_give 57 = .ok (.aload_n 0, 1) := by decide +kernel
theorem dX11_give_58 : decode cX11_give 58 = .ok (.getfield 45, 3) := by decide +kernel
theorem dX11_give_61 : decode cX11_give 61 = .ok (.aload_n 0, 1) := by decide +kernel
theorem dX11_give_62 : decode cX11_give 62 = .ok (.getfield 52, 3) := by decide +kernel
theorem dX11_give_65 : decode cX11_give 65 = .ok (.iload_n 1, 1) := by decide +kernel
theorem dX11_give_66 : decode cX11_give 66 = .ok (.aload_n 0, 1) := by decide +kernel
theorem dX11_give_67 : decode cX11_give 67 = .ok (.getfield 99, 3) := by decide +kernel
theorem dX11_give_70 : decode cX11_give 70 = .ok (.invokevirtual 265, 3) := by decide +kernel
theorem dX11_give_73 : decode cX11_give 73 = .ok (.iinc 1 1, 3) := by decide +kernel
theorem dX11_give_76 : decode cX11_give 76 = .ok (.goto (-48), 3) := by decide +kernel
theorem dX11_give_79 : decode cX11_give 79 = .ok (.aload_n 0, 1) := by decide +kernel
theorem dX11_give_80 : decode cX11_give 80 = .ok (.getfield 77, 3) := by decide +kernel
theorem dX11_give_83 : decode cX11_give 83 = .ok (.invokevirtual 269, 3) := by decide +kernel
theorem dX11_give_86 : decode cX11_give 86 = .ok (.aload_n 0, 1) := by decide +kernel
theorem dX11_give_87 : decode cX11_give 87 = .ok (.getfield 84, 3) := by decide +kernel
theorem dX11_give_90 : decode cX11_give 90 = .ok (.aload_n 0, 1) := by decide +kernel
theorem dX11_give_91 : decode cX11_give 91 = .ok (.getfield 12, 3) := by decide +kernel
theorem dX11_give_94 : decode cX11_give 94 = .ok (.aload_n 0, 1) := by decide +kernel
theorem dX11_give_95 : decode cX11_give 95 = .ok (.getfield 45, 3) := by decide +kernel
theorem dX11_give_98 : decode cX11_give 98 = .ok (.aload_n 0, 1) := by decide +kernel
theorem dX11_give_99 : decode cX11_give 99 = .ok (.getfield 52, 3) := by decide +kernel
theorem dX11_give_102 : decode cX11_give 102 = .ok (.aload_n 0, 1) := by decide +kernel
theorem dX11_give_103 : decode cX11_give 103 = .ok (.getfield 59, 3) := by decide +kernel
theorem dX11_give_106 : decode cX11_give 106 = .ok (.aload_n 0, 1) := by decide +kernel
theorem dX11_give_107 : decode cX11_give 107 = .ok (.getfield 99, 3) := by decide +kernel
theorem dX11_give_110 : decode cX11_give 110 = .ok (.invokevirtual 272, 3) := by decide +kernel
theorem dX11_give_113 : decode cX11_give 113 = .ok (.ireturn, 1) := by decide +kernel
theorem dX11_given_0 : decode cX11_given 0 = .ok (.aload_n 0, 1) := by decide +kernel
theorem dX11_given_1 : decode cX11_given 1 = .ok (.getfield 84, 3) := by decide +kernel
theorem dX11_given_4 : decode cX11_given 4 = .ok (.getfield 124, 3) := by decide +kernel
theorem dX11_given_7 : decode cX11_given 7 = .ok (.ifCond .eq 14, 3) := by decide +kernel
theorem dX11_given_10 : decode cX11_given 10 = .ok (.aload_n 0, 1) := by decide +kernel
theorem dX11_given_11 : decode cX11_given 11 = .ok (.getfield 84, 3) := by decide +kernel
theorem dX11_given_14 : decode cX11_given 14 = .ok (.iload_n 1, 1) := by decide +kernel
theorem dX11_given_15 : decode cX11_given 15 = .ok (.invokevirtual 276, 3) := by decide +kernel
theorem dX11_given_18 : decode cX11_given 18 = .ok (.goto 4, 3) := by decide +kernel
theorem dX11_given_21 : decode cX11_given 21 = .ok (.iconst (-1), 1) := by decide +kernel
theorem dX11_given_22 : decode cX11_given 22 = .ok (.ireturn, 1) := by decide +kernel
theorem dX11_init_0 : decode cX11_init 0 = .ok (.aload_n 0, 1) := by decide +kernel
theorem dX11_init_1 : decode cX11_init 1 = .ok (.invokespecial 3, 3) := by decide +kernel
theorem dX11_init_4 : decode cX11_init 4 = .ok (.aload_n 0, 1) := by decide +kernel
theorem dX11_init_5 : decode cX11_init 5 = .ok (.new 9, 3) := by decide +kernel
theorem dX11_init_8 : decode cX11_init 8 = .ok (.dup, 1) := by decide +kernel
theorem dX11_init_9 : decode cX11_init 9 = .ok (.invokespecial 11, 3) := by decide +kernel
theorem dX11_init_12 : decode cX11_init 12 = .ok (.putfield 12, 3) := by decide +kernel
theorem dX11_init_15 : decode cX11_init 15 = .ok (.aload_n 0, 1) := by decide +kernel
theorem dX11_init_16 : decode cX11_init 16 = .ok (.new 9, 3) := by decide +kernel
theorem dX11_init_19 : decode cX11_init 19 = .ok (.dup, 1) := by decide +kernel
theorem dX11_init_20 : decode cX11_init 20 = .ok (.invokespecial 11, 3) := by decide +kernel
theorem dX11_init_23 : decode cX11_init 23 = .ok (.putfield 16, 3) := by decide +kernel
theorem dX11_init_26 : decode cX11_init 26 = .ok (.aload_n 0, 1) := by decide +kernel
theorem dX11_init_27 : decode cX11_init 27 = .ok (.new 19, 3) := by decide +kernel
theorem dX11_init_30 : decode cX11_init 30 = .ok (.dup, 1) := by decide +kernel
theorem dX11_init_31 : decode cX11_init 31 = .ok (.invokespecial 21, 3) := by decide +kernel
theorem dX11_init_34 : decode cX11_init 34 = .ok (.putfield 22, 3) := by decide +kernel
theorem dX11_init_37 : decode cX11_init 37 = .ok (.aload_n 0, 1) := by decide +kernel
theorem dX11_init_38 : decode cX11_init 38 = .ok (.new 26, 3) := by decide +kernel
theorem dX11_init_41 : decode cX11_init 41 = .ok (.dup, 1) := by decide +kernel
theorem dX11_init_42 : decode cX11_init 42 = .ok (.aload_n 0, 1) := by decide +kernel
theorem dX11_init_43 : decode cX11_init 43 = .ok (.getfield 22, 3) := by decide +kernel
theorem dX11_init_46 : decode cX11_init 46 = .ok (.aload_n 0, 1) := by decide +kernel
theorem dX11_init_47 : decode cX11_init 47 = .ok (.getfield 16, 3) := by decide +kernel
theorem dX11_init_50 : decode cX11_init 50 = .ok (.invokespecial 28, 3) := by decide +kernel
theorem dX11_init_53 : decode cX11_init 53 = .ok (.putfield 31, 3) := by decide +kernel
theorem dX11_init_56 : decode cX11_init 56 = .ok (.aload_n 0, 1) := by decide +kernel
theorem dX11_init_57 : decode cX11_init 57 = .ok (.new 35, 3) := by decide +kernel
theorem dX11_init_60 : decode cX11_init 60 = .ok (.dup, 1) := by decide +kernel
theorem dX11_init_61 : decode cX11_init 61 = .ok (.invokespecial 37, 3) := by decide +kernel
theorem dX11_init_64 : decode cX11_init 64 = .ok (.putfield 38, 3) := by decide +kernel
theorem dX11_init_67 : decode cX11_init 67 = .ok (.aload_n 0, 1) := by decide +kernel
theorem dX11_init_68 : decode cX11_init 68 = .ok (.new 42, 3) := by decide +kernel
theorem dX11_init_71 : decode cX11_init 71 = .ok (.dup, 1) := by decide +kernel
theorem dX11_init_72 : decode cX11_init 72 = .ok (.invokespecial 44, 3) := by decide +kernel
theorem dX11_init_75 : decode cX11_init 75 = .ok (.putfield 45, 3) := by decide +kernel
theorem dX11_init_78 : decode cX11_init 78 = .ok (.aload_n 0, 1) := by decide +kernel
theorem dX11_init_79 : decode cX11_init 79 = .ok (.new 49, 3) := by decide +kernel
theorem dX11_init_82 : decode cX11_init 82 = .ok (.dup, 1) := by decide +kernel
theorem dX11_init_83 : decode cX11_init 83 = .ok (.invokespecial 51, 3) := by decide +kernel
theorem dX11_init_86 : decode cX11_init 86 = .ok (.putfield 52, 3) := by decide +kernel
theorem dX11_init_89 : decode cX11_init 89 = .ok (.aload_n 0, 1) := by decide +kernel
theorem dX11_init_90 : decode cX11_init 90 = .ok (.new 56, 3) := by decide +kernel
theorem dX11_init_93 : decode cX11_init 93 = .ok (.dup, 1) := by decide +kernel
theorem dX11_init_94 : decode cX11_init 94 = .ok (.invokespecial 58, 3) := by decide +kernel
theorem dX11_init_97 : decode cX11_init 97 = .ok (.putfield 59, 3) := by decide +kernel
theorem dX11_init_100 : decode cX11_init 100 = .ok (.aload_n 0, 1) := by decide +kernel
theorem dX11_init_101 : decode cX11_init 101 = .ok (.new 63, 3) := by decide +kernel
theorem dX11_init_104 : decode cX11_init 104 = .ok (.dup, 1) := by decide +kernel
theorem dX11_init_105 : decode cX11_init 105 = .ok (.aload_n 0, 1) := by decide +kernel
theorem dX11_init_106 : decode cX11_init 106 = .ok (.getfield 59, 3) := by decide +kernel
theorem dX11_init_109 : decode cX11_init 109 = .ok (.invokespecial 65, 3) := by decide +kernel
theorem dX11_init_112 : decode cX11_init 112 = .ok (.putfield 68, 3) := by decide +kernel
theorem dX11_init_115 : decode cX11_init 115 = .ok (.aload_n 0, 1) := by decide +kernel
theorem dX11_init_116 : decode cX11_init 116 = .ok (.new 72, 3) := by decide +kernel
theorem dX11_init_119 : decode cX11_init 119 = .ok (.dup, 1) := by decide +kernel
theorem dX11_init_120 : decode cX11_init 120 = .ok (.aload_n 0, 1) := by decide +kernel
theorem dX11_init_121 : decode cX11_init 121 = .ok (.getfield 59, 3) := by decide +kernel
theorem dX11_init_124 : decode cX11_init 124 = .ok (.aload_n 0, 1) := by decide +kernel
theorem dX11_init_125 : decode cX11_init 125 = .ok (.getfield 68, 3) := by decide +kernel
theorem dX11_init_128 : decode cX11_init 128 = .ok (.invokespecial 74, 3) := by decide +kernel
theorem dX11_init_131 : decode cX11_init 131 = .ok (.putfield 77, 3) := by decide +kernel
theorem dX11_init_134 : decode cX11_init 134 = .ok (.aload_n 0, 1) := by decide +kernel
theorem dX11_init_135 : decode cX11_init 135 = .ok (.new 81, 3) := by decide +kernel
theorem dX11_init_138 : decode cX11_init 138 = .ok (.dup, 1) := by decide +kernel
theorem dX11_init_139 : decode cX11_init 139 = .ok (.invokespecial 83, 3) := by decide +kernel
theorem dX11_init_142 : decode cX11_init 142 = .ok (.putfield 84, 3) := by decide +kernel
theorem dX11_init_145 : decode cX11_init 145 = .ok (.aload_n 0, 1) := by decide +kernel
theorem dX11_init_146 : decode cX11_init 146 = .ok (.new 88, 3) := by decide +kernel
theorem dX11_init_149 : decode cX11_init 149 = .ok (.dup, 1) := by decide +kernel
theorem dX11_init_150 : decode cX11_init 150 = .ok (.invokespecial 90, 3) := by decide +kernel
theorem dX11_init_153 : decode cX11_init 153 = .ok (.putfield 91, 3) := by decide +kernel
theorem dX11_init_156 : decode cX11_init 156 = .ok (.aload_n 0, 1) := by decide +kernel
theorem dX11_init_157 : decode cX11_init 157 = .ok (.iconst (-1), 1) := by decide +kernel
theorem dX11_init_158 : decode cX11_init 158 = .ok (.putfield 95, 3) := by decide +kernel
theorem dX11_init_161 : decode cX11_init 161 = .ok (.aload_n 0, 1) := by decide +kernel
theorem dX11_init_162 : decode cX11_init 162 = .ok (.bipush 10, 2) := by decide +kernel
theorem dX11_init_164 : decode cX11_init 164 = .ok (.newarray .int, 2) := by decide +kernel
theorem dX11_init_166 : decode cX11_init 166 = .ok (.putfield 99, 3) := by decide +kernel
theorem dX11_init_169 : decode cX11_init 169 = .ok (.return_, 1) := by decide +kernel
theorem dX11_isChild_0 : decode cX11_isChild 0 = .ok (.aload_n 0, 1) := by decide +kernel
theorem dX11_isChild_1 : decode cX11_isChild 1 = .ok (.invokevirtual 207, 3) := by decide +kernel
theorem dX11_isChild_4 : decode cX11_isChild 4 = .ok (.iload_n 1, 1) := by decide +kernel
theorem dX11_isChild_5 : decode cX11_isChild 5 = .ok (.ifCond .lt 18, 3) := by decide +kernel
theorem dX11_isChild_8 : decode cX11_isChild 8 = .ok (.iload_n 1, 1) := by decide +kernel
theorem dX11_isChild_9 : decode cX11_isChild 9 = .ok (.aload_n 0, 1) := by decide +kernel
theorem dX11_isChild_10 : decode cX11_isChild 10 = .ok (.getfield 45, 3) := by decide +kernel
theorem dX11_isChild_13 : decode cX11_isChild 13 = .ok (.getfield 210, 3) := by decide +kernel
theorem dX11_isChild_16 : decode cX11_isChild 16 = .ok (.if_icmp .ge 7, 3) := by decide +kernel
theorem dX11_isChild_19 : decode cX11_isChild 19 = .ok (.iconst 1, 1) := by decide +kernel
theorem dX11_isChild_20 : decode cX11_isChild 20 = .ok (.goto 4, 3) := by decide +kernel
theorem dX11_isChild_23 : decode cX11_isChild 23 = .ok (.iconst 0, 1) := by decide +kernel
theorem dX11_isChild_24 : decode cX11_isChild 24 = .ok (.ireturn, 1) := by decide +kernel
theorem dX11_isDay_0 : decode cX11_isDay 0 = .ok (.iload_n 0, 1) := by decide +kernel
theorem dX11_isDay_1 : decode cX11_isDay 1 = .ok (.iconst 1, 1) := by decide +kernel
theorem dX11_isDay_2 : decode cX11_isDay 2 = .ok (.bipush 24, 2) := by decide +kernel
theorem dX11_isDay_4 : decode cX11_isDay 4 = .ok (.invokestatic 168, 3) := by decide +kernel
theorem dX11_isDay_7 : decode cX11_isDay 7 = .ok (.ireturn, 1) := by decide +kernel
theorem dX11_isKind_0 : decode cX11_isKind 0 = .ok (.iload_n 1, 1) := by decide +kernel
theorem dX11_isKind_1 : decode cX11_isKind 1 = .ok (.ifCond .lt 18, 3) := by decide +kernel
theorem dX11_isKind_4 : decode cX11_isKind 4 = .ok (.iload_n 1, 1) := by decide +kernel
theorem dX11_isKind_5 : decode cX11_isKind 5 = .ok (.aload_n 0, 1) := by decide +kernel
theorem dX11_isKind_6 : decode cX11_isKind 6 = .ok (.getfield 12, 3) := by decide +kernel
theorem dX11_isKind_9 : decode cX11_isKind 9 = .ok (.getfield 128, 3) := by decide +kernel
theorem dX11_isKind_12 : decode cX11_isKind 12 = .ok (.if_icmp .ge 7, 3) := by decide +kernel
theorem dX11_isKind_15 : decode cX11_isKind 15 = .ok (.iconst 1, 1) := by decide +kernel
theorem dX11_isKind_16 : decode cX11_isKind 16 = .ok (.goto 4, 3) := by decide +kernel
theorem dX11_isKind_19 : decode cX11_isKind 19 = .ok (.iconst 0, 1) := by decide +kernel
theorem dX11_isKind_20 : decode cX11_isKind 20 = .ok (.ireturn, 1) := by decide +kernel
theorem dX11_label_0 : decode cX11_label 0 = .ok (.aload_n 0, 1) := by decide +kernel
theorem dX11_label_1 : decode cX11_label 1 = .ok (.getfield 84, 3) := by decide +kernel
theorem dX11_label_4 : decode cX11_label 4 = .ok (.iload_n 1, 1) := by decide +kernel
theorem dX11_label_5 : decode cX11_label 5 = .ok (.invokevirtual 279, 3) := by decide +kernel
theorem dX11_label_8 : decode cX11_label 8 = .ok (.ifCond .eq 15, 3) := by decide +kernel
theorem dX11_label_11 : decode cX11_label 11 = .ok (.aload_n 0, 1) := by decide +kernel
theorem dX11_label_12 : decode cX11_label 12 = .ok (.getfield 84, 3) := by decide +kernel
theorem dX11_label_15 : decode cX11_label 15 = .ok (.getfield 280, 3) := by decide +kernel
theorem dX11_label_18 : decode cX11_label 18 = .ok (.iload_n 1, 1) := by decide +kernel
theorem dX11_label_19 : decode cX11_label 19 = .ok (.iaload, 1) := by decide +kernel
theorem dX11_label_20 : decode cX11_label 20 = .ok (.ifCond .ne 5, 3) := by decide +kernel
theorem dX11_label_23 : decode cX11_label 23 = .ok (.iconst (-1), 1) := by decide +kernel
theorem dX11_label_24 : decode cX11_label 24 = .ok (.ireturn, 1) := by decide +kernel
theorem dX11_label_25 : decode cX11_label 25 = .ok (.aload_n 0, 1) := by decide +kernel
theorem dX11_label_26 : decode cX11_label 26 = .ok (.getfield 91, 3) := by decide +kernel
theorem dX11_label_29 : decode cX11_label 29 = .ok (.aload_n 0, 1) := by decide +kernel
theorem dX11_label_30 : decode cX11_label 30 = .ok (.getfield 84, 3) := by decide +kernel
theorem dX11_label_33 : decode cX11_label 33 = .ok (.getfield 280, 3) := by decide +kernel
theorem dX11_label_36 : decode cX11_label 36 = .ok (.iload_n 1, 1) := by decide +kernel
theorem dX11_label_37 : decode cX11_label 37 = .ok (.iaload, 1) := by decide +kernel
theorem dX11_label_38 : decode cX11_label 38 = .ok (.aload_n 0, 1) := by decide +kernel
theorem dX11_label_39 : decode cX11_label 39 = .ok (.getfield 12, 3) := by decide +kernel
theorem dX11_label_42 : decode cX11_label 42 = .ok (.invokevirtual 338, 3) := by decide +kernel
theorem dX11_label_45 : decode cX11_label 45 = .ok (.ireturn, 1) := by decide +kernel
theorem dX11_lacks_0 : decode cX11_lacks 0 = .ok (.aload_n 0, 1) := by decide +kernel
theorem dX11_lacks_1 : decode cX11_lacks 1 = .ok (.getfield 84, 3) := by decide +kernel
theorem dX11_lacks_4 : decode cX11_lacks 4 = .ok (.getfield 124, 3) := by decide +kernel
theorem dX11_lacks_7 : decode cX11_lacks 7 = .ok (.ifCond .eq 15, 3) := by decide +kernel
theorem dX11_lacks_10 : decode cX11_lacks 10 = .ok (.aload_n 0, 1) := by decide +kernel
theorem dX11_lacks_11 : decode cX11_lacks 11 = .ok (.getfield 84, 3) := by decide +kernel
theorem dX11_lacks_14 : decode cX11_lacks 14 = .ok (.iload_n 1, 1) := by decide +kernel
theorem dX11_lacks_15 : decode cX11_lacks 15 = .ok (.iload_n 2, 1) := by decide +kernel
theorem dX11_lacks_16 : decode cX11_lacks 16 = .ok (.invokevirtual 293, 3) := by decide +kernel
theorem dX11_lacks_19 : decode cX11_lacks 19 = .ok (.goto 4, 3) := by decide +kernel
theorem dX11_lacks_22 : decode cX11_lacks 22 = .ok (.iconst (-1), 1) := by decide +kernel
theorem dX11_lacks_23 : decode cX11_lacks 23 = .ok (.ireturn, 1) := by decide +kernel
theorem dX11_left_0 : decode cX11_left 0 = .ok (.aload_n 0, 1) := by decide +kernel
theorem dX11_left_1 : decode cX11_left 1 = .ok (.getfield 84, 3) := by decide +kernel
theorem dX11_left_4 : decode cX11_left 4 = .ok (.getfield 124, 3) := by decide +kernel
theorem dX11_left_7 : decode cX11_left 7 = .ok (.ifCond .eq 23, 3) := by decide +kernel
theorem dX11_left_10 : decode cX11_left 10 = .ok (.aload_n 0, 1) := by decide +kernel
theorem dX11_left_11 : decode cX11_left 11 = .ok (.iload_n 1, 1) := by decide +kernel
theorem dX11_left_12 : decode cX11_left 12 = .ok (.invokevirtual 154, 3) := by decide +kernel
theorem dX11_left_15 : decode cX11_left 15 = .ok (.ifCond .eq 15, 3) := by decide +kernel
theorem dX11_left_18 : decode cX11_left 18 = .ok (.aload_n 0, 1) := by decide +kernel
theorem dX11_left_19 : decode cX11_left 19 = .ok (.getfield 84, 3) := by decide +kernel
theorem dX11_left_22 : decode cX11_left 22 = .ok (.getfield 283, 3) := by decide +kernel
theorem dX11_left_25 : decode cX11_left 25 = .ok (.iload_n 1, 1) := by decide +kernel
theorem dX11_left_26 : decode cX11_left 26 = .ok (.iaload, 1) := by decide +kernel
theorem dX11_left_27 : decode cX11_left 27 = .ok (.goto 4, 3) := by decide +kernel
theorem dX11_left_30 : decode cX11_left 30 = .ok (.iconst (-1), 1) := by decide +kernel
theorem dX11_left_31 : decode cX11_left 31 = .ok (.ireturn, 1) := by decide +kernel
theorem dX11_letterOf_0 : decode cX11_letterOf 0 = .ok (.iload_n 2, 1) := by decide +kernel
theorem dX11_letterOf_1 : decode cX11_letterOf 1 = .ok (.ifCond .lt 9, 3) := by decide +kernel
theorem dX11_letterOf_4 : decode cX11_letterOf 4 = .ok (.iload_n 2, 1) := by decide +kernel
theorem dX11_letterOf_5 : decode cX11_letterOf 5 = .ok (.bipush 8, 2) := by decide +kernel
theorem dX11_letterOf_7 : decode cX11_letterOf 7 = .ok (.if_icmp .lt 5, 3) := by decide +kernel
theorem dX11_letterOf_10 : decode cX11_letterOf 10 = .ok (.iconst (-1), 1) := by decide +kernel
theorem dX11_letterOf_11 : decode cX11_letterOf 11 = .ok (.ireturn, 1) := by decide +kernel
theorem dX11_letterOf_12 : decode cX11_letterOf 12 = .ok (.lload_n 0, 1) := by decide +kernel
theorem dX11_letterOf_13 : decode cX11_letterOf 13 = .ok (.bipush 35, 2) := by decide +kernel
theorem dX11_letterOf_15 : decode cX11_letterOf 15 = .ok (.iconst 5, 1) := by decide +kernel
theorem dX11_letterOf_16 : decode cX11_letterOf 16 = .ok (.iload_n 2, 1) := by decide +kernel
theorem dX11_letterOf_17 : decode cX11_letterOf 17 = .ok (.imul, 1) := by decide +kernel
theorem dX11_letterOf_18 : decode cX11_letterOf 18 = .ok (.isub, 1) := by decide +kernel
theorem dX11_letterOf_19 : decode cX11_letterOf 19 = .ok (.lshr, 1) := by decide +kernel
theorem dX11_letterOf_20 : decode cX11_letterOf 20 = .ok (.l2i, 1) := by decide +kernel
theorem dX11_letterOf_21 : decode cX11_letterOf 21 = .ok (.bipush 31, 2) := by decide +kernel
theorem dX11_letterOf_23 : decode cX11_letterOf 23 = .ok (.iand, 1) := by decide +kernel
theorem dX11_letterOf_24 : decode cX11_letterOf 24 = .ok (.istore_n 3, 1) := by decide +kernel
theorem dX11_letterOf_25 : decode cX11_letterOf 25 = .ok (.iload_n 3, 1) := by decide +kernel
theorem dX11_letterOf_26 : decode cX11_letterOf 26 = .ok (.ifCond .ne 7, 3) := by decide +kernel
theorem dX11_letterOf_29 : decode cX11_letterOf 29 = .ok (.iconst (-1), 1) := by decide +kernel
theorem dX11_letterOf_30 : decode cX11_letterOf 30 = .ok (.goto 7, 3) := by decide +kernel
theorem dX11_letterOf_33 : decode cX11_letterOf 33 = .ok (.iload_n 3, 1) := by decide +kernel
theorem dX11_letterOf_34 : decode cX11_letterOf 34 = .ok (.bipush 96, 2) := by decide +kernel
theorem dX11_letterOf_36 : decode cX11_letterOf 36 = .ok (.iadd, 1) := by decide +kernel
theorem dX11_letterOf_37 : decode cX11_letterOf 37 = .ok (.ireturn, 1) := by decide +kernel
theorem dX11_look_0 : decode cX11_look 0 = .ok (.aload_n 0, 1) := by decide +kernel
theorem dX11_look_1 : decode cX11_look 1 = .ok (.getfield 45, 3) := by decide +kernel
theorem dX11_look_4 : decode cX11_look 4 = .ok (.aload_n 0, 1) := by decide +kernel
theorem dX11_look_5 : decode cX11_look 5 = .ok (.getfield 38, 3) := by decide +kernel
theorem dX11_look_8 : decode cX11_look 8 = .ok (.aload_n 0, 1) := by decide +kernel
theorem dX11_look_9 : decode cX11_look 9 = .ok (.invokevirtual 203, 3) := by decide +kernel
theorem dX11_look_12 : decode cX11_look 12 = .ok (.invokevirtual 347, 3) := by decide +kernel
theorem dX11_look_15 : decode cX11_look 15 = .ok (.return_, 1) := by decide +kernel
theorem dX11_marked_0 : decode cX11_marked 0 = .ok (.aload_n 0, 1) := by decide +kernel
theorem dX11_marked_1 : decode cX11_marked 1 = .ok (.iload_n 1, 1) := by decide +kernel
theorem dX11_marked_2 : decode cX11_marked 2 = .ok (.invokevirtual 154, 3) := by decide +kernel
theorem dX11_marked_5 : decode cX11_marked 5 = .ok (.ifCond .eq 18, 3) := by decide +kernel
theorem dX11_marked_8 : decode cX11_marked 8 = .ok (.iload_n 2, 1) := by decide +kernel
theorem dX11_marked_9 : decode cX11_marked 9 = .ok (.ifCond .lt 14, 3) := by decide +kernel
theorem dX11_marked_12 : decode cX11_marked 12 = .ok (.iload_n 2, 1) := by decide +kernel
theorem dX11_marked_13 : decode cX11_marked 13 = .ok (.aload_n 0, 1) := by decide +kernel
theorem dX11_marked_14 : decode cX11_marked 14 = .ok (.getfield 12, 3) := by decide +kernel
theorem dX11_marked_17 : decode cX11_marked 17 = .ok (.getfield 140, 3) := by decide +kernel
theorem dX11_marked_20 : decode cX11_marked 20 = .ok (.if_icmp .lt 5, 3) := by decide +kernel
theorem dX11_marked_23 : decode cX11_marked 23 = .ok (.iconst (-1), 1) := by decide +kernel
theorem dX11_marked_24 : decode cX11_marked 24 = .ok (.ireturn, 1) := by decide +kernel
theorem dX11_marked_25 : decode cX11_marked 25 = .ok (.aload_n 0, 1) := by decide +kernel
theorem dX11_marked_26 : decode cX11_marked 26 = .ok (.getfield 12, 3) := by decide +kernel
theorem dX11_marked_29 : decode cX11_marked 29 = .ok (.getfield 158, 3) := by decide +kernel
theorem dX11_marked_32 : decode cX11_marked 32 = .ok (.iload_n 2, 1) := by decide +kernel
theorem dX11_marked_33 : decode cX11_marked 33 = .ok (.iaload, 1) := by decide +kernel
theorem dX11_marked_34 : decode cX11_marked 34 = .ok (.iload_n 1, 1) := by decide +kernel
theorem dX11_marked_35 : decode cX11_marked 35 = .ok (.ishr, 1) := by decide +kernel
theorem dX11_marked_36 : decode cX11_marked 36 = .ok (.iconst 1, 1) := by decide +kernel
theorem dX11_marked_37 : decode cX11_marked 37 = .ok (.iand, 1) := by decide +kernel
theorem dX11_marked_38 : decode cX11_marked 38 = .ok (.ireturn, 1) := by decide +kernel
theorem dX11_may_0 : decode cX11_may 0 = .ok (.aload_n 0, 1) := by decide +kernel
theorem dX11_may_1 : decode cX11_may 1 = .ok (.iload_n 1, 1) := by decide +kernel
theorem dX11_may_2 : decode cX11_may 2 = .ok (.invokevirtual 222, 3) := by decide +kernel
theorem dX11_may_5 : decode cX11_may 5 = .ok (.ifCond .eq 11, 3) := by decide +kernel
theorem dX11_may_8 : decode cX11_may 8 = .ok (.aload_n 0, 1) := by decide +kernel
theorem dX11_may_9 : decode cX11_may 9 = .ok (.iload_n 2, 1) := by decide +kernel
theorem dX11_may_10 : decode cX11_may 10 = .ok (.invokevirtual 154, 3) := by decide +kernel
theorem dX11_may_13 : decode cX11_may 13 = .ok (.ifCond .ne 5, 3) := by decide +kernel
theorem dX11_may_16 : decode cX11_may 16 = .ok (.iconst (-1), 1) := by decide +kernel
theorem dX11_may_17 : decode cX11_may 17 = .ok (.ireturn, 1) := by decide +kernel
theorem dX11_may_18 : decode cX11_may 18 = .ok (.aload_n 0, 1) := by decide +kernel
theorem dX11_may_19 : decode cX11_may 19 = .ok (.getfield 52, 3) := by decide +kernel
theorem dX11_may_22 : decode cX11_may 22 = .ok (.aload_n 0, 1) := by decide +kernel
theorem dX11_may_23 : decode cX11_may 23 = .ok (.getfield 12, 3) := by decide +kernel
theorem dX11_may_26 : decode cX11_may 26 = .ok (.aload_n 0, 1) := by decide +kernel
theorem dX11_may_27 : decode cX11_may 27 = .ok (.getfield 45, 3) := by decide +kernel
theorem dX11_may_30 : decode cX11_may 30 = .ok (.iload_n 1, 1) := by decide +kernel
theorem dX11_may_31 : decode cX11_may 31 = .ok (.invokevirtual 225, 3) := by decide +kernel
theorem dX11_may_34 : decode cX11_may 34 = .ok (.aload_n 0, 1) := by decide +kernel
theorem dX11_may_35 : decode cX11_may 35 = .ok (.getfield 52, 3) := by decide +kernel
theorem dX11_may_38 : decode cX11_may 38 = .ok (.getfield 242, 3) := by decide +kernel
theorem dX11_may_41 : decode cX11_may 41 = .ok (.iload_n 1, 1) := by decide +kernel
theorem dX11_may_42 : decode cX11_may 42 = .ok (.iaload, 1) := by decide +kernel
theorem dX11_may_43 : decode cX11_may 43 = .ok (.iload_n 2, 1) := by decide +kernel
theorem dX11_may_44 : decode cX11_may 44 = .ok (.ishr, 1) := by decide +kernel
theorem dX11_may_45 : decode cX11_may 45 = .ok (.iconst 1, 1) := by decide +kernel
theorem dX11_may_46 : decode cX11_may 46 = .ok (.iand, 1) := by decide +kernel
theorem dX11_may_47 : decode cX11_may 47 = .ok (.ireturn, 1) := by decide +kernel
theorem dX11_name_0 : decode cX11_name 0 = .ok (.iload_n 2, 1) := by decide +kernel
theorem dX11_name_1 : decode cX11_name 1 = .ok (.ifCond .lt 28, 3) := by decide +kernel
theorem dX11_name_4 : decode cX11_name 4 = .ok (.iload_n 2, 1) := by decide +kernel
theorem dX11_name_5 : decode cX11_name 5 = .ok (.iload_n 1, 1) := by decide +kernel
theorem dX11_name_6 : decode cX11_name 6 = .ok (.ifCond .eq 13, 3) := by decide +kernel
theorem dX11_name_9 : decode cX11_name 9 = .ok (.aload_n 0, 1) := by decide +kernel
theorem dX11_name_10 : decode cX11_name 10 = .ok (.getfield 12, 3) := by decide +kernel
theorem dX11_name_13 : decode cX11_name 13 = .ok (.getfield 140, 3) := by decide +kernel
theorem dX11_name_16 : decode cX11_name 16 = .ok (.goto 10, 3) := by decide +kernel
theorem dX11_name_19 : decode cX11_name 19 = .ok (.aload_n 0, 1) := by decide +kernel
theorem dX11_name_20 : decode cX11_name 20 = .ok (.getfield 12, 3) := by decide +kernel
theorem dX11_name_23 : decode cX11_name 23 = .ok (.getfield 128, 3) := by decide +kernel
theorem dX11_name_26 : decode cX11_name 26 = .ok (.if_icmp .lt 5, 3) := by decide +kernel
theorem dX11_name_29 : decode cX11_name 29 = .ok (.iconst (-1), 1) := by decide +kernel
theorem dX11_name_30 : decode cX11_name 30 = .ok (.ireturn, 1) := by decide +kernel
theorem dX11_name_31 : decode cX11_name 31 = .ok (.iload_n 1, 1) := by decide +kernel
theorem dX11_name_32 : decode cX11_name 32 = .ok (.ifCond .eq 15, 3) := by decide +kernel
theorem dX11_name_35 : decode cX11_name 35 = .ok (.aload_n 0, 1) := by decide +kernel
theorem dX11_name_36 : decode cX11_name 36 = .ok (.getfield 12, 3) := by decide +kernel
theorem dX11_name_39 : decode cX11_name 39 = .ok (.getfield 143, 3) := by decide +kernel
theorem dX11_name_42 : decode cX11_name 42 = .ok (.iload_n 2, 1) := by decide +kernel
theorem dX11_name_43 : decode cX11_name 43 = .ok (.laload, 1) := by decide +kernel
theorem dX11_name_44 : decode cX11_name 44 = .ok (.goto 12, 3) := by decide +kernel
theorem dX11_name_47 : decode cX11_name 47 = .ok (.aload_n 0, 1) := by decide +kernel
theorem dX11_name_48 : decode cX11_name 48 = .ok (.getfield 12, 3) := by decide +kernel
theorem dX11_name_51 : decode cX11_name 51 = .ok (.getfield 147, 3) := by decide +kernel
theorem dX11_name_54 : decode cX11_name 54 = .ok (.iload_n 2, 1) := by decide +kernel
theorem dX11_name_55 : decode cX11_name 55 = .ok (.laload, 1) := by decide +kernel
theorem dX11_name_56 : decode cX11_name 56 = .ok (.iload_n 3, 1) := by decide +kernel
theorem dX11_name_57 : decode cX11_name 57 = .ok (.invokestatic 150, 3) := by decide +kernel
theorem dX11_name_60 : decode cX11_name 60 = .ok (.ireturn, 1) := by decide +kernel
theorem dX11_of_0 : decode cX11_of 0 = .ok (.aload_n 0, 1) := by decide +kernel
theorem dX11_of_1 : decode cX11_of 1 = .ok (.iload_n 1, 1) := by decide +kernel
theorem dX11_of_2 : decode cX11_of 2 = .ok (.invokevirtual 222, 3) := by decide +kernel
theorem dX11_of_5 : decode cX11_of 5 = .ok (.ifCond .ne 5, 3) := by decide +kernel
theorem dX11_of_8 : decode cX11_of 8 = .ok (.iconst (-1), 1) := by decide +kernel
theorem dX11_of_9 : decode cX11_of 9 = .ok (.ireturn, 1) := by decide +kernel
theorem dX11_of_10 : decode cX11_of 10 = .ok (.iload_n 2, 1) := by decide +kernel
theorem dX11_of_11 : decode cX11_of 11 = .ok (.bipush 9, 2) := by decide +kernel
theorem dX11_of_13 : decode cX11_of 13 = .ok (.if_icmp .ne 29, 3) := by decide +kernel
theorem dX11_of_16 : decode cX11_of 16 = .ok (.aload_n 0, 1) := by decide +kernel
theorem dX11_of_17 : decode cX11_of 17 = .ok (.getfield 52, 3) := by decide +kernel
theorem dX11_of_20 : decode cX11_of 20 = .ok (.aload_n 0, 1) := by decide +kernel
theorem dX11_of_21 : decode cX11_of 21 = .ok (.getfield 12, 3) := by decide +kernel
theorem dX11_of_24 : decode cX11_of 24 = .ok (.aload_n 0, 1) := by decide +kernel
theorem dX11_of_25 : decode cX11_of 25 = .ok (.getfield 45, 3) := by decide +kernel
theorem dX11_of_28 : decode cX11_of 28 = .ok (.iload_n 1, 1) := by decide +kernel
theorem dX11_of_29 : decode cX11_of 29 = .ok (.invokevirtual 225, 3) := by decide +kernel
theorem dX11_of_32 : decode cX11_of 32 = .ok (.aload_n 0, 1) := by decide +kernel
theorem dX11_of_33 : decode cX11_of 33 = .ok (.getfield 52, 3) := by decide +kernel
theorem dX11_of_36 : decode cX11_of 36 = .ok (.getfield 229, 3) := by decide +kernel
theorem dX11_of_39 : decode cX11_of 39 = .ok (.iload_n 1, 1) := by decide +kernel
theorem dX11_of_40 : decode cX11_of 40 = .ok (.iaload, 1) := by decide +kernel
theorem dX11_of_41 : decode cX11_of 41 = .ok (.ireturn, 1) := by decide +kernel
theorem dX11_of_42 : decode cX11_of 42 = .ok (.aload_n 0, 1) := by decide +kernel
theorem dX11_of_43 : decode cX11_of 43 = .ok (.getfield 45, 3) := by decide +kernel
theorem dX11_of_46 : decode cX11_of 46 = .ok (.iload_n 1, 1) := by decide +kernel
theorem dX11_of_47 : decode cX11_of 47 = .ok (.iload_n 2, 1) := by decide +kernel
theorem dX11_of_48 : decode cX11_of 48 = .ok (.invokevirtual 232, 3) := by decide +kernel
theorem dX11_of_51 : decode cX11_of 51 = .ok (.ireturn, 1) := by decide +kernel
theorem dX11_points_0 : decode cX11_points 0 = .ok (.aload_n 0, 1) := by decide +kernel
theorem dX11_points_1 : decode cX11_points 1 = .ok (.iload_n 1, 1) := by decide +kernel
theorem dX11_points_2 : decode cX11_points 2 = .ok (.invokevirtual 222, 3) := by decide +kernel
theorem dX11_points_5 : decode cX11_points 5 = .ok (.ifCond .eq 11, 3) := by decide +kernel
theorem dX11_points_8 : decode cX11_points 8 = .ok (.aload_n 0, 1) := by decide +kernel
theorem dX11_points_9 : decode cX11_points 9 = .ok (.iload_n 2, 1) := by decide +kernel
theorem dX11_points_10 : decode cX11_points 10 = .ok (.invokevirtual 154, 3) := by decide +kernel
theorem dX11_points_13 : decode cX11_points 13 = .ok (.ifCond .ne 6, 3) := by decide +kernel
theorem dX11_points_16 : decode cX11_points 16 = .ok (.ldc 245, 2) := by decide +kernel
theorem dX11_points_18 : decode cX11_points 18 = .ok (.ireturn, 1) := by decide +kernel
theorem dX11_points_19 : decode cX11_points 19 = .ok (.aload_n 0, 1) := by decide +kernel
theorem dX11_points_20 : decode cX11_points 20 = .ok (.getfield 52, 3) := by decide +kernel
theorem dX11_points_23 : decode cX11_points 23 = .ok (.aload_n 0, 1) := by decide +kernel
theorem dX11_points_24 : decode cX11_points 24 = .ok (.getfield 12, 3) := by decide +kernel
theorem dX11_points_27 : decode cX11_points 27 = .ok (.aload_n 0, 1) := by decide +kernel
theorem dX11_points_28 : decode cX11_points 28 = .ok (.getfield 45, 3) := by decide +kernel
theorem dX11_points_31 : decode cX11_points 31 = .ok (.iload_n 1, 1) := by decide +kernel
theorem dX11_points_32 : decode cX11_points 32 = .ok (.invokevirtual 225, 3) := by decide +kernel
theorem dX11_points_35 : decode cX11_points 35 = .ok (.aload_n 0, 1) := by decide +kernel
theorem dX11_points_36 : decode cX11_points 36 = .ok (.getfield 52, 3) := by decide +kernel
theorem dX11_points_39 : decode cX11_points 39 = .ok (.getfield 246, 3) := by decide +kernel
theorem dX11_points_42 : decode cX11_points 42 = .ok (.iload_n 1, 1) := by decide +kernel
theorem dX11_points_43 : decode cX11_points 43 = .ok (.bipush 10, 2) := by decide +kernel
theorem dX11_points_45 : decode cX11_points 45 = .ok (.imul, 1) := by decide +kernel
theorem dX11_points_46 : decode cX11_points 46 = .ok (.iload_n 2, 1) := by decide +kernel
theorem dX11_points_47 : decode cX11_points 47 = .ok (.iadd, 1) := by decide +kernel
theorem dX11_points_48 : decode cX11_points 48 = .ok (.iaload, 1) := by decide +kernel
theorem dX11_points_49 : decode cX11_points 49 = .ok (.ireturn, 1) := by decide +kernel
theorem dX11_price_0 : decode cX11_price 0 = .ok (.aload_n 0, 1) := by decide +kernel
theorem dX11_price_1 : decode cX11_price 1 = .ok (.getfield 84, 3) := by decide +kernel
theorem dX11_price_4 : decode cX11_price 4 = .ok (.iload_n 1, 1) := by decide +kernel
theorem dX11_price_5 : decode cX11_price 5 = .ok (.invokevirtual 279, 3) := by decide +kernel
theorem dX11_price_8 : decode cX11_price 8 = .ok (.ifCond .eq 18, 3) := by decide +kernel
theorem dX11_price_11 : decode cX11_price 11 = .ok (.aload_n 0, 1) := by decide +kernel
theorem dX11_price_12 : decode cX11_price 12 = .ok (.getfield 84, 3) := by decide +kernel
theorem dX11_price_15 : decode cX11_price 15 = .ok (.iload_n 1, 1) := by decide +kernel
theorem dX11_price_16 : decode cX11_price 16 = .ok (.aload_n 0, 1) := by decide +kernel
theorem dX11_price_17 : decode cX11_price 17 = .ok (.getfield 12, 3) := by decide +kernel
theorem dX11_price_20 : decode cX11_price 20 = .ok (.invokevirtual 296, 3) := by decide +kernel
theorem dX11_price_23 : decode cX11_price 23 = .ok (.goto 4, 3) := by decide +kernel
theorem dX11_price_26 : decode cX11_price 26 = .ok (.iconst (-1), 1) := by decide +kernel
theorem dX11_price_27 : decode cX11_price 27 = .ok (.ireturn, 1) := by decide +kernel
theorem dX11_queue_0 : decode cX11_queue 0 = .ok (.aload_n 0, 1) := by decide +kernel
theorem dX11_queue_1 : decode cX11_queue 1 = .ok (.getfield 84, 3) := by decide +kernel
theorem dX11_queue_4 : decode cX11_queue 4 = .ok (.getfield 124, 3) := by decide +kernel
theorem dX11_queue_7 : decode cX11_queue 7 = .ok (.ifCond .eq 29, 3) := by decide +kernel
theorem dX11_queue_10 : decode cX11_queue 10 = .ok (.iload_n 1, 1) := by decide +kernel
theorem dX11_queue_11 : decode cX11_queue 11 = .ok (.invokestatic 172, 3) := by decide +kernel
theorem dX11_queue_14 : decode cX11_queue 14 = .ok (.ifCond .eq 22, 3) := by decide +kernel
theorem dX11_queue_17 : decode cX11_queue 17 = .ok (.iload_n 2, 1) := by decide +kernel
theorem dX11_queue_18 : decode cX11_queue 18 = .ok (.iconst 1, 1) := by decide +kernel
theorem dX11_queue_19 : decode cX11_queue 19 = .ok (.bipush 9, 2) := by decide +kernel
theorem dX11_queue_21 : decode cX11_queue 21 = .ok (.invokestatic 168, 3) := by decide +kernel
theorem dX11_queue_24 : decode cX11_queue 24 = .ok (.ifCond .eq 12, 3) := by decide +kernel
theorem dX11_queue_27 : decode cX11_queue 27 = .ok (.iload_n 3, 1) := by decide +kernel
theorem dX11_queue_28 : decode cX11_queue 28 = .ok (.iconst 0, 1) := by decide +kernel
theorem dX11_queue_29 : decode cX11_queue 29 = .ok (.iconst 2, 1) := by decide +kernel
theorem dX11_queue_30 : decode cX11_queue 30 = .ok (.invokestatic 168, 3) := by decide +kernel
theorem dX11_queue_33 : decode cX11_queue 33 = .ok (.ifCond .ne 5, 3) := by decide +kernel
theorem dX11_queue_36 : decode cX11_queue 36 = .ok (.iconst (-1), 1) := by decide +kernel
theorem dX11_queue_37 : decode cX11_queue 37 = .ok (.ireturn, 1) := by decide +kernel
theorem dX11_queue_38 : decode cX11_queue 38 = .ok (.aload_n 0, 1) := by decide +kernel
theorem dX11_queue_39 : decode cX11_queue 39 = .ok (.getfield 91, 3) := by decide +kernel
theorem dX11_queue_42 : decode cX11_queue 42 = .ok (.aload_n 0, 1) := by decide +kernel
theorem dX11_queue_43 : decode cX11_queue 43 = .ok (.getfield 84, 3) := by decide +kernel
theorem dX11_queue_46 : decode cX11_queue 46 = .ok (.iload_n 1, 1) := by decide +kernel
theorem dX11_queue_47 : decode cX11_queue 47 = .ok (.invokevirtual 322, 3) := by decide +kernel
theorem dX11_queue_50 : decode cX11_queue 50 = .ok (.iload_n 3, 1) := by decide +kernel
theorem dX11_queue_51 : decode cX11_queue 51 = .ok (.ifCond .ne 11, 3) := by decide +kernel
theorem dX11_queue_54 : decode cX11_queue 54 = .ok (.aload_n 0, 1) := by decide +kernel
theorem dX11_queue_55 : decode cX11_queue 55 = .ok (.getfield 91, 3) := by decide +kernel
theorem dX11_queue_58 : decode cX11_queue 58 = .ok (.getfield 326, 3) := by decide +kernel
theorem dX11_queue_61 : decode cX11_queue 61 = .ok (.ireturn, 1) := by decide +kernel
theorem dX11_queue_62 : decode cX11_queue 62 = .ok (.aload_n 0, 1) := by decide +kernel
theorem dX11_queue_63 : decode cX11_queue 63 = .ok (.getfield 91, 3) := by decide +kernel
theorem dX11_queue_66 : decode cX11_queue 66 = .ok (.iload_n 2, 1) := by decide +kernel
theorem dX11_queue_67 : decode cX11_queue 67 = .ok (.invokevirtual 329, 3) := by decide +kernel
theorem dX11_queue_70 : decode cX11_queue 70 = .ok (.iload_n 3, 1) := by decide +kernel
theorem dX11_queue_71 : decode cX11_queue 71 = .ok (.iconst 1, 1) := by decide +kernel
theorem dX11_queue_72 : decode cX11_queue 72 = .ok (.if_icmp .ne 13, 3) := by decide +kernel
theorem dX11_queue_75 : decode cX11_queue 75 = .ok (.aload_n 0, 1) := by decide +kernel
theorem dX11_queue_76 : decode cX11_queue 76 = .ok (.getfield 91, 3) := by decide +kernel
theorem dX11_queue_79 : decode cX11_queue 79 = .ok (.getfield 332, 3) := by decide +kernel
theorem dX11_queue_82 : decode cX11_queue 82 = .ok (.goto 10, 3) := by decide +kernel
theorem dX11_queue_85 : decode cX11_queue 85 = .ok (.aload_n 0, 1) := by decide +kernel
theorem dX11_queue_86 : decode cX11_queue 86 = .ok (.getfield 91, 3) := by decide +kernel
theorem dX11_queue_89 : decode cX11_queue 89 = .ok (.getfield 335, 3) := by decide +kernel
theorem dX11_queue_92 : decode cX11_queue 92 = .ok (.ireturn, 1) := by decide +kernel
theorem dX11_report_0 : decode cX11_report 0 = .ok (.aload_n 0, 1) := by decide +kernel
theorem dX11_report_1 : decode cX11_report 1 = .ok (.getfield 22, 3) := by decide +kernel
theorem dX11_report_4 : decode cX11_report 4 = .ok (.aload_n 0, 1) := by decide +kernel
theorem dX11_report_5 : decode cX11_report 5 = .ok (.getfield 38, 3) := by decide +kernel
theorem dX11_report_8 : decode cX11_report 8 = .ok (.getfield 161, 3) := by decide +kernel
theorem dX11_report_11 : decode cX11_report 11 = .ok (.invokevirtual 164, 3) := by decide +kernel
theorem dX11_report_14 : decode cX11_report 14 = .ok (.istore 6, 2) := by decide +kernel
theorem dX11_report_16 : decode cX11_report 16 = .ok (.aload_n 0, 1) := by decide +kernel
theorem dX11_report_17 : decode cX11_report 17 = .ok (.getfield 22, 3) := by decide +kernel
theorem dX11_report_20 : decode cX11_report 20 = .ok (.iconst 0, 1) := by decide +kernel
theorem dX11_report_21 : decode cX11_report 21 = .ok (.putfield 103, 3) := by decide +kernel
theorem dX11_report_24 : decode cX11_report 24 = .ok (.iload 6, 2) := by decide +kernel
theorem dX11_report_26 : decode cX11_report 26 = .ok (.iconst (-1), 1) := by decide +kernel
theorem dX11_report_27 : decode cX11_report 27 = .ok (.if_icmp .eq 58, 3) := by decide +kernel
theorem dX11_report_30 : decode cX11_report 30 = .ok (.iload_n 1, 1) := by decide +kernel
theorem dX11_report_31 : decode cX11_report 31 = .ok (.iconst 0, 1) := by decide +kernel
theorem dX11_report_32 : decode cX11_report 32 = .ok (.sipush 9999, 3) := by decide +kernel
theorem dX11_report_35 : decode cX11_report 35 = .ok (.invokestatic 168, 3) := by decide +kernel
theorem dX11_report_38 : decode cX11_report 38 = .ok (.ifCond .eq 47, 3) := by decide +kernel
theorem dX11_report_41 : decode cX11_report 41 = .ok (.iload_n 2, 1) := by decide +kernel
theorem dX11_report_42 : decode cX11_report 42 = .ok (.iconst 0, 1) := by decide +kernel
theorem dX11_report_43 : decode cX11_report 43 = .ok (.bipush 17, 2) := by decide +kernel
theorem dX11_report_45 : decode cX11_report 45 = .ok (.invokestatic 168, 3) := by decide +kernel
theorem dX11_report_48 : decode cX11_report 48 = .ok (.ifCond .eq 37, 3) := by decide +kernel
theorem dX11_report_51 : decode cX11_report 51 = .ok (.iload_n 3, 1) := by decide +kernel
theorem dX11_report_52 : decode cX11_report 52 = .ok (.iconst 0, 1) := by decide +kernel
theorem dX11_report_53 : decode cX11_report 53 = .ok (.bipush 99, 2) := by decide +kernel
theorem dX11_report_55 : decode cX11_report 55 = .ok (.invokestatic 168, 3) := by decide +kernel
theorem dX11_report_58 : decode cX11_report 58 = .ok (.ifCond .eq 27, 3) := by decide +kernel
theorem dX11_report_61 : decode cX11_report 61 = .ok (.iload 4, 2) := by decide +kernel
theorem dX11_report_63 : decode cX11_report 63 = .ok (.iconst 0, 1) := by decide +kernel
theorem dX11_report_64 : decode cX11_report 64 = .ok (.sipush 999, 3) := by decide +kernel
theorem dX11_report_67 : decode cX11_report 67 = .ok (.invokestatic 168, 3) := by decide +kernel
theorem dX11_report_70 : decode cX11_report 70 = .ok (.ifCond .eq 15, 3) := by decide +kernel
theorem dX11_report_73 : decode cX11_report 73 = .ok (.iload 5, 2) := by decide +kernel
theorem dX11_report_75 : decode cX11_report 75 = .ok (.invokestatic 172, 3) := by decide +kernel
theorem dX11_report_78 : decode cX11_report 78 = .ok (.ifCond .eq 7, 3) := by decide +kernel
theorem dX11_report_81 : decode cX11_report 81 = .ok (.iconst 1, 1) := by decide +kernel
theorem dX11_report_82 : decode cX11_report 82 = .ok (.goto 4, 3) := by decide +kernel
theorem dX11_report_85 : decode cX11_report 85 = .ok (.iconst 0, 1) := by decide +kernel
theorem dX11_report_86 : decode cX11_report 86 = .ok (.istore 7, 2) := by decide +kernel
theorem dX11_report_88 : decode cX11_report 88 = .ok (.iload 7, 2) := by decide +kernel
theorem dX11_report_90 : decode cX11_report 90 = .ok (.ifCond .eq 25, 3) := by decide +kernel
theorem dX11_report_93 : decode cX11_report 93 = .ok (.aload_n 0, 1) := by decide +kernel
theorem dX11_report_94 : decode cX11_report 94 = .ok (.getfield 38, 3) := by decide +kernel
theorem dX11_report_97 : decode cX11_report 97 = .ok (.getfield 175, 3) := by decide +kernel
theorem dX11_report_100 : decode cX11_report 100 = .ok (.bipush 80, 2) := by decide +kernel
theorem dX11_report_102 : decode cX11_report 102 = .ok (.if_icmp .ge 13, 3) := by decide +kernel
theorem dX11_report_105 : decode cX11_report 105 = .ok (.aload_n 0, 1) := by decide +kernel
theorem dX11_report_106 : decode cX11_report 106 = .ok (.getfield 38, 3) := by decide +kernel
theorem dX11_report_109 : decode cX11_report 109 = .ok (.invokevirtual 178, 3) := by decide +kernel
theorem dX11_report_112 : decode cX11_report 112 = .ok (.ifCond .eq 5, 3) := by decide +kernel
theorem dX11_report_115 : decode cX11_report 115 = .ok (.iconst (-1), 1) := by decide +kernel
theorem dX11_report_116 : decode cX11_report 116 = .ok (.ireturn, 1) := by decide +kernel
theorem dX11_report_117 : decode cX11_report 117 = .ok (.aload_n 0, 1) := by decide +kernel
theorem dX11_report_118 : decode cX11_report 118 = .ok (.getfield 38, 3) := by decide +kernel
theorem dX11_report_121 : decode cX11_report 121 = .ok (.iload_n 1, 1) := by decide +kernel
theorem dX11_report_122 : decode cX11_report 122 = .ok (.iload_n 2, 1) := by decide +kernel
theorem dX11_report_123 : decode cX11_report 123 = .ok (.iload_n 3, 1) := by decide +kernel
theorem dX11_report_124 : decode cX11_report 124 = .ok (.iload 4, 2) := by decide +kernel
theorem dX11_report_126 : decode cX11_report 126 = .ok (.iload 5, 2) := by decide +kernel
theorem dX11_report_128 : decode cX11_report 128 = .ok (.iload 6, 2) := by decide +kernel
theorem dX11_report_130 : decode cX11_report 130 = .ok (.invokevirtual 182, 3) := by decide +kernel
theorem dX11_report_133 : decode cX11_report 133 = .ok (.ireturn, 1) := by decide +kernel
theorem dX11_right_0 : decode cX11_right 0 = .ok (.aload_n 0, 1) := by decide +kernel
theorem dX11_right_1 : decode cX11_right 1 = .ok (.getfield 84, 3) := by decide +kernel
theorem dX11_right_4 : decode cX11_right 4 = .ok (.getfield 124, 3) := by decide +kernel
theorem dX11_right_7 : decode cX11_right 7 = .ok (.ifCond .eq 17, 3) := by decide +kernel
theorem dX11_right_10 : decode cX11_right 10 = .ok (.aload_n 0, 1) := by decide +kernel
theorem dX11_right_11 : decode cX11_right 11 = .ok (.getfield 84, 3) := by decide +kernel
theorem dX11_right_14 : decode cX11_right 14 = .ok (.aload_n 0, 1) := by decide +kernel
theorem dX11_right_15 : decode cX11_right 15 = .ok (.getfield 12, 3) := by decide +kernel
theorem dX11_right_18 : decode cX11_right 18 = .ok (.invokevirtual 307, 3) := by decide +kernel
theorem dX11_right_21 : decode cX11_right 21 = .ok (.goto 4, 3) := by decide +kernel
theorem dX11_right_24 : decode cX11_right 24 = .ok (.iconst (-1), 1) := by decide +kernel
theorem dX11_right_25 : decode cX11_right 25 = .ok (.ireturn, 1) := by decide +kernel
theorem dX11_rules_0 : decode cX11_rules 0 = .ok (.aload_n 0, 1) := by decide +kernel
theorem dX11_rules_1 : decode cX11_rules 1 = .ok (.getfield 31, 3) := by decide +kernel
theorem dX11_rules_4 : decode cX11_rules 4 = .ok (.aload_n 0, 1) := by decide +kernel
theorem dX11_rules_5 : decode cX11_rules 5 = .ok (.getfield 16, 3) := by decide +kernel
theorem dX11_rules_8 : decode cX11_rules 8 = .ok (.invokevirtual 110, 3) := by decide +kernel
theorem dX11_rules_11 : decode cX11_rules 11 = .ok (.istore_n 1, 1) := by decide +kernel
theorem dX11_rules_12 : decode cX11_rules 12 = .ok (.aload_n 0, 1) := by decide +kernel
theorem dX11_rules_13 : decode cX11_rules 13 = .ok (.getfield 22, 3) := by decide +kernel
theorem dX11_rules_16 : decode cX11_rules 16 = .ok (.iconst 0, 1) := by decide +kernel
theorem dX11_rules_17 : decode cX11_rules 17 = .ok (.putfield 103, 3) := by decide +kernel
theorem dX11_rules_20 : decode cX11_rules 20 = .ok (.iload_n 1, 1) := by decide +kernel
theorem dX11_rules_21 : decode cX11_rules 21 = .ok (.ifCond .ne 5, 3) := by decide +kernel
theorem dX11_rules_24 : decode cX11_rules 24 = .ok (.iconst (-1), 1) := by decide +kernel
theorem dX11_rules_25 : decode cX11_rules 25 = .ok (.ireturn, 1) := by decide +kernel
theorem dX11_rules_26 : decode cX11_rules 26 = .ok (.aload_n 0, 1) := by decide +kernel
theorem dX11_rules_27 : decode cX11_rules 27 = .ok (.getfield 12, 3) := by decide +kernel
theorem dX11_rules_30 : decode cX11_rules 30 = .ok (.astore_n 2, 1) := by decide +kernel
theorem dX11_rules_31 : decode cX11_rules 31 = .ok (.aload_n 0, 1) := by decide +kernel
theorem dX11_rules_32 : decode cX11_rules 32 = .ok (.aload_n 0, 1) := by decide +kernel
theorem dX11_rules_33 : decode cX11_rules 33 = .ok (.getfield 16, 3) := by decide +kernel
theorem dX11_rules_36 : decode cX11_rules 36 = .ok (.putfield 12, 3) := by decide +kernel
theorem dX11_rules_39 : decode cX11_rules 39 = .ok (.aload_n 0, 1) := by decide +kernel
theorem dX11_rules_40 : decode cX11_rules 40 = .ok (.aload_n 2, 1) := by decide +kernel
theorem dX11_rules_41 : decode cX11_rules 41 = .ok (.putfield 16, 3) := by decide +kernel
theorem dX11_rules_44 : decode cX11_rules 44 = .ok (.aload_n 0, 1) := by decide +kernel
theorem dX11_rules_45 : decode cX11_rules 45 = .ok (.getfield 52, 3) := by decide +kernel
theorem dX11_rules_48 : decode cX11_rules 48 = .ok (.aload_n 0, 1) := by decide +kernel
theorem dX11_rules_49 : decode cX11_rules 49 = .ok (.getfield 12, 3) := by decide +kernel
theorem dX11_rules_52 : decode cX11_rules 52 = .ok (.invokevirtual 114, 3) := by decide +kernel
theorem dX11_rules_55 : decode cX11_rules 55 = .ok (.aload_n 0, 1) := by decide +kernel
theorem dX11_rules_56 : decode cX11_rules 56 = .ok (.getfield 38, 3) := by decide +kernel
theorem dX11_rules_59 : decode cX11_rules 59 = .ok (.invokevirtual 118, 3) := by decide +kernel
theorem dX11_rules_62 : decode cX11_rules 62 = .ok (.aload_n 0, 1) := by decide +kernel
theorem dX11_rules_63 : decode cX11_rules 63 = .ok (.iconst (-1), 1) := by decide +kernel
theorem dX11_rules_64 : decode cX11_rules 64 = .ok (.putfield 95, 3) := by decide +kernel
theorem dX11_rules_67 : decode cX11_rules 67 = .ok (.aload_n 0, 1) := by decide +kernel
theorem dX11_rules_68 : decode cX11_rules 68 = .ok (.getfield 45, 3) := by decide +kernel
theorem dX11_rules_71 : decode cX11_rules 71 = .ok (.invokevirtual 121, 3) := by decide +kernel
theorem dX11_rules_74 : decode cX11_rules 74 = .ok (.aload_n 0, 1) := by decide +kernel
theorem dX11_rules_75 : decode cX11_rules 75 = .ok (.getfield 84, 3) := by decide +kernel
theorem dX11_rules_78 : decode cX11_rules 78 = .ok (.iconst 0, 1) := by decide +kernel
theorem dX11_rules_79 : decode cX11_rules 79 = .ok (.putfield 124, 3) := by decide +kernel
theorem dX11_rules_82 : decode cX11_rules 82 = .ok (.aload_n 0, 1) := by decide +kernel
theorem dX11_rules_83 : decode cX11_rules 83 = .ok (.getfield 12, 3) := by decide +kernel
theorem dX11_rules_86 : decode cX11_rules 86 = .ok (.getfield 128, 3) := by decide +kernel
theorem dX11_rules_89 : decode cX11_rules 89 = .ok (.aload_n 0, 1) := by decide +kernel
theorem dX11_rules_90 : decode cX11_rules 90 = .ok (.getfield 12, 3) := by decide +kernel
theorem dX11_rules_93 : decode cX11_rules 93 = .ok (.getfield 131, 3) := by decide +kernel
theorem dX11_rules_96 : decode cX11_rules 96 = .ok (.iadd, 1) := by decide +kernel
theorem dX11_rules_97 : decode cX11_rules 97 = .ok (.ireturn, 1) := by decide +kernel
theorem dX11_spend_0 : decode cX11_spend 0 = .ok (.aload_n 0, 1) := by decide +kernel
theorem dX11_spend_1 : decode cX11_spend 1 = .ok (.getfield 84, 3) := by decide +kernel
theorem dX11_spend_4 : decode cX11_spend 4 = .ok (.getfield 124, 3) := by decide +kernel
theorem dX11_spend_7 : decode cX11_spend 7 = .ok (.ifCond .eq 25, 3) := by decide +kernel
theorem dX11_spend_10 : decode cX11_spend 10 = .ok (.aload_n 0, 1) := by decide +kernel
theorem dX11_spend_11 : decode cX11_spend 11 = .ok (.getfield 84, 3) := by decide +kernel
theorem dX11_spend_14 : decode cX11_spend 14 = .ok (.getfield 300, 3) := by decide +kernel
theorem dX11_spend_17 : decode cX11_spend 17 = .ok (.iconst (-1), 1) := by decide +kernel
theorem dX11_spend_18 : decode cX11_spend 18 = .ok (.if_icmp .ne 14, 3) := by decide +kernel
theorem dX11_spend_21 : decode cX11_spend 21 = .ok (.iload_n 1, 1) := by decide +kernel
theorem dX11_spend_22 : decode cX11_spend 22 = .ok (.iconst 0, 1) := by decide +kernel
theorem dX11_spend_23 : decode cX11_spend 23 = .ok (.ldc_w 303, 3) := by decide +kernel
theorem dX11_spend_26 : decode cX11_spend 26 = .ok (.invokestatic 168, 3) := by decide +kernel
theorem dX11_spend_29 : decode cX11_spend 29 = .ok (.ifCond .ne 5, 3) := by decide +kernel
theorem dX11_spend_32 : decode cX11_spend 32 = .ok (.iconst (-1), 1) := by decide +kernel
theorem dX11_spend_33 : decode cX11_spend 33 = .ok (.ireturn, 1) := by decide +kernel
theorem dX11_spend_34 : decode cX11_spend 34 = .ok (.aload_n 0, 1) := by decide +kernel
theorem dX11_spend_35 : decode cX11_spend 35 = .ok (.getfield 84, 3) := by decide +kernel
theorem dX11_spend_38 : decode cX11_spend 38 = .ok (.iload_n 1, 1) := by decide +kernel
theorem dX11_spend_39 : decode cX11_spend 39 = .ok (.aload_n 0, 1) := by decide +kernel
theorem dX11_spend_40 : decode cX11_spend 40 = .ok (.getfield 12, 3) := by decide +kernel
theorem dX11_spend_43 : decode cX11_spend 43 = .ok (.invokevirtual 304, 3) := by decide +kernel
theorem dX11_spend_46 : decode cX11_spend 46 = .ok (.ireturn, 1) := by decide +kernel
theorem dX11_spent_0 : decode cX11_spent 0 = .ok (.aload_n 0, 1) := by decide +kernel
theorem dX11_spent_1 : decode cX11_spent 1 = .ok (.getfield 84, 3) := by decide +kernel
theorem dX11_spent_4 : decode cX11_spent 4 = .ok (.getfield 124, 3) := by decide +kernel
theorem dX11_spent_7 : decode cX11_spent 7 = .ok (.ifCond .eq 13, 3) := by decide +kernel
theorem dX11_spent_10 : decode cX11_spent 10 = .ok (.aload_n 0, 1) := by decide +kernel
theorem dX11_spent_11 : decode cX11_spent 11 = .ok (.getfield 84, 3) := by decide +kernel
theorem dX11_spent_14 : decode cX11_spent 14 = .ok (.getfield 300, 3) := by decide +kernel
theorem dX11_spent_17 : decode cX11_spent 17 = .ok (.goto 4, 3) := by decide +kernel
theorem dX11_spent_20 : decode cX11_spent 20 = .ok (.iconst (-1), 1) := by decide +kernel
theorem dX11_spent_21 : decode cX11_spent 21 = .ok (.ireturn, 1) := by decide +kernel
theorem dX11_walks_0 : decode cX11_walks 0 = .ok (.aload_n 0, 1) := by decide +kernel
theorem dX11_walks_1 : decode cX11_walks 1 = .ok (.getfield 84, 3) := by decide +kernel
theorem dX11_walks_4 : decode cX11_walks 4 = .ok (.getfield 124, 3) := by decide +kernel
theorem dX11_walks_7 : decode cX11_walks 7 = .ok (.ifCond .eq 13, 3) := by decide +kernel
theorem dX11_walks_10 : decode cX11_walks 10 = .ok (.iload_n 1, 1) := by decide +kernel
theorem dX11_walks_11 : decode cX11_walks 11 = .ok (.iconst 1, 1) := by decide +kernel
theorem dX11_walks_12 : decode cX11_walks 12 = .ok (.bipush 40, 2) := by decide +kernel
theorem dX11_walks_14 : decode cX11_walks 14 = .ok (.invokestatic 168, 3) := by decide +kernel
theorem dX11_walks_17 : decode cX11_walks 17 = .ok (.ifCond .ne 5, 3) := by decide +kernel
theorem dX11_walks_20 : decode cX11_walks 20 = .ok (.iconst (-1), 1) := by decide +kernel
theorem dX11_walks_21 : decode cX11_walks 21 = .ok (.ireturn, 1) := by decide +kernel
theorem dX11_walks_22 : decode cX11_walks 22 = .ok (.aload_n 0, 1) := by decide +kernel
theorem dX11_walks_23 : decode cX11_walks 23 = .ok (.getfield 91, 3) := by decide +kernel
theorem dX11_walks_26 : decode cX11_walks 26 = .ok (.aload_n 0, 1) := by decide +kernel
theorem dX11_walks_27 : decode cX11_walks 27 = .ok (.getfield 84, 3) := by decide +kernel
theorem dX11_walks_30 : decode cX11_walks 30 = .ok (.aload_n 0, 1) := by decide +kernel
theorem dX11_walks_31 : decode cX11_walks 31 = .ok (.getfield 12, 3) := by decide +kernel
theorem dX11_walks_34 : decode cX11_walks 34 = .ok (.invokevirtual 311, 3) := by decide +kernel
theorem dX11_walks_37 : decode cX11_walks 37 = .ok (.aload_n 0, 1) := by decide +kernel
theorem dX11_walks_38 : decode cX11_walks 38 = .ok (.getfield 91, 3) := by decide +kernel
theorem dX11_walks_41 : decode cX11_walks 41 = .ok (.iload_n 1, 1) := by decide +kernel
theorem dX11_walks_42 : decode cX11_walks 42 = .ok (.invokevirtual 315, 3) := by decide +kernel
theorem dX11_walks_45 : decode cX11_walks 45 = .ok (.ireturn, 1) := by decide +kernel
theorem dX11_weighAll_0 : decode cX11_weighAll 0 = .ok (.aload_n 0, 1) := by decide +kernel
theorem dX11_weighAll_1 : decode cX11_weighAll 1 = .ok (.invokevirtual 207, 3) := by decide +kernel
theorem dX11_weighAll_4 : decode cX11_weighAll 4 = .ok (.iconst 0, 1) := by decide +kernel
theorem dX11_weighAll_5 : decode cX11_weighAll 5 = .ok (.istore_n 1, 1) := by decide +kernel
theorem dX11_weighAll_6 : decode cX11_weighAll 6 = .ok (.iload_n 1, 1) := by decide +kernel
theorem dX11_weighAll_7 : decode cX11_weighAll 7 = .ok (.aload_n 0, 1) := by decide +kernel
theorem dX11_weighAll_8 : decode cX11_weighAll 8 = .ok (.getfield 45, 3) := by decide +kernel
theorem dX11_weighAll_11 : decode cX11_weighAll 11 = .ok (.getfield 210, 3) := by decide +kernel
theorem dX11_weighAll_14 : decode cX11_weighAll 14 = .ok (.if_icmp .ge 25, 3) := by decide +kernel
theorem dX11_weighAll_17 : decode cX11_weighAll 17 = .ok (.aload_n 0, 1) := by decide +kernel
theorem dX11_weighAll_18 : decode cX11_weighAll 18 = .ok (.getfield 52, 3) := by decide +kernel
theorem dX11_weighAll_21 : decode cX11_weighAll 21 = .ok (.aload_n 0, 1) := by decide +kernel
theorem dX11_weighAll_22 : decode cX11_weighAll 22 = .ok (.getfield 12, 3) := by decide +kernel
theorem dX11_weighAll_25 : decode cX11_weighAll 25 = .ok (.aload_n 0, 1) := by decide +kernel
theorem dX11_weighAll_26 : decode cX11_weighAll 26 = .ok (.getfield 45, 3) := by decide +kernel
theorem dX11_weighAll_29 : decode cX11_weighAll 29 = .ok (.iload_n 1, 1) := by decide +kernel
theorem dX11_weighAll_30 : decode cX11_weighAll 30 = .ok (.invokevirtual 225, 3) := by decide +kernel
theorem dX11_weighAll_33 : decode cX11_weighAll 33 = .ok (.iinc 1 1, 3) := by decide +kernel
theorem dX11_weighAll_36 : decode cX11_weighAll 36 = .ok (.goto (-30), 3) := by decide +kernel
theorem dX11_weighAll_39 : decode cX11_weighAll 39 = .ok (.return_, 1) := by decide +kernel
theorem dX11_wish_0 : decode cX11_wish 0 = .ok (.aload_n 0, 1) := by decide +kernel
theorem dX11_wish_1 : decode cX11_wish 1 = .ok (.iload_n 1, 1) := by decide +kernel
theorem dX11_wish_2 : decode cX11_wish 2 = .ok (.invokevirtual 222, 3) := by decide +kernel
theorem dX11_wish_5 : decode cX11_wish 5 = .ok (.ifCond .eq 20, 3) := by decide +kernel
theorem dX11_wish_8 : decode cX11_wish 8 = .ok (.iload_n 2, 1) := by decide +kernel
theorem dX11_wish_9 : decode cX11_wish 9 = .ok (.ifCond .lt 16, 3) := by decide +kernel
theorem dX11_wish_12 : decode cX11_wish 12 = .ok (.iload_n 2, 1) := by decide +kernel
theorem dX11_wish_13 : decode cX11_wish 13 = .ok (.aload_n 0, 1) := by decide +kernel
theorem dX11_wish_14 : decode cX11_wish 14 = .ok (.getfield 45, 3) := by decide +kernel
theorem dX11_wish_17 : decode cX11_wish 17 = .ok (.getfield 236, 3) := by decide +kernel
theorem dX11_wish_20 : decode cX11_wish 20 = .ok (.iload_n 1, 1) := by decide +kernel
theorem dX11_wish_21 : decode cX11_wish 21 = .ok (.iaload, 1) := by decide +kernel
theorem dX11_wish_22 : decode cX11_wish 22 = .ok (.if_icmp .lt 5, 3) := by decide +kernel
theorem dX11_wish_25 : decode cX11_wish 25 = .ok (.iconst (-1), 1) := by decide +kernel
theorem dX11_wish_26 : decode cX11_wish 26 = .ok (.ireturn, 1) := by decide +kernel
theorem dX11_wish_27 : decode cX11_wish 27 = .ok (.aload_n 0, 1) := by decide +kernel
theorem dX11_wish_28 : decode cX11_wish 28 = .ok (.getfield 45, 3) := by decide +kernel
