theorem dJ0_charAt_5068e_0 : decode cJ0_charAt_5068e 0 = .ok (.aload_n 0, 1) := by decide +kernel
theorem dJ0_charAt_5068e_1 : decode cJ0_charAt_5068e 1 = .ok (.invokevirtual 492, 3) := by decide +kernel
theorem dJ0_charAt_5068e_4 : decode cJ0_charAt_5068e 4 = .ok (.ifCond .eq 12, 3) := by decide +kernel
theorem dJ0_charAt_5068e_7 : decode cJ0_charAt_5068e 7 = .ok (.aload_n 0, 1) := by decide +kernel
theorem dJ0_charAt_5068e_8 : decode cJ0_charAt_5068e 8 = .ok (.getfield 9, 3) := by decide +kernel
theorem dJ0_charAt_5068e_11 : decode cJ0_charAt_5068e 11 = .ok (.iload_n 1, 1) := by decide +kernel
theorem dJ0_charAt_5068e_12 : decode cJ0_charAt_5068e 12 = .ok (.invokestatic 495, 3) := by decide +kernel
theorem dJ0_charAt_5068e_15 : decode cJ0_charAt_5068e 15 = .ok (.ireturn, 1) := by decide +kernel
theorem dJ0_charAt_5068e_16 : decode cJ0_charAt_5068e 16 = .ok (.aload_n 0, 1) := by decide +kernel
theorem dJ0_charAt_5068e_17 : decode cJ0_charAt_5068e 17 = .ok (.getfield 9, 3) := by decide +kernel
theorem dJ0_charAt_5068e_20 : decode cJ0_charAt_5068e 20 = .ok (.iload_n 1, 1) := by decide +kernel
theorem dJ0_charAt_5068e_21 : decode cJ0_charAt_5068e 21 = .ok (.invokestatic 498, 3) := by decide +kernel
theorem dJ0_charAt_5068e_24 : decode cJ0_charAt_5068e 24 = .ok (.ireturn, 1) := by decide +kernel
theorem dJ0_checkIndex_df160_0 : decode cJ0_checkIndex_df160 0 = .ok (.iload_n 0, 1) := by decide +kernel
theorem dJ0_checkIndex_df160_1 : decode cJ0_checkIndex_df160 1 = .ok (.iload_n 1, 1) := by decide +kernel
theorem dJ0_checkIndex_df160_2 : decode cJ0_checkIndex_df160 2 = .ok (.getstatic 1053, 3) := by decide +kernel
theorem dJ0_checkIndex_df160_5 : decode cJ0_checkIndex_df160 5 = .ok (.invokestatic 1059, 3) := by decide +kernel
theorem dJ0_checkIndex_df160_8 : decode cJ0_checkIndex_df160 8 = .ok (.pop, 1) := by decide +kernel
theorem dJ0_checkIndex_df160_9 : decode cJ0_checkIndex_df160 9 = .ok (.return_, 1) := by decide +kernel
theorem dJ0_coder_7d493_0 : decode cJ0_coder_7d493 0 = .ok (.getstatic 38, 3) := by decide +kernel
theorem dJ0_coder_7d493_3 : decode cJ0_coder_7d493 3 = .ok (.ifCond .eq 10, 3) := by decide +kernel
theorem dJ0_coder_7d493_6 : decode cJ0_coder_7d493 6 = .ok (.aload_n 0, 1) := by decide +kernel
theorem dJ0_coder_7d493_7 : decode cJ0_coder_7d493 7 = .ok (.getfield 15, 3) := by decide +kernel
theorem dJ0_coder_7d493_10 : decode cJ0_coder_7d493 10 = .ok (.goto 4, 3) := by decide +kernel
theorem dJ0_coder_7d493_13 : decode cJ0_coder_7d493 13 = .ok (.iconst 1, 1) := by decide +kernel
theorem dJ0_coder_7d493_14 : decode cJ0_coder_7d493 14 = .ok (.ireturn, 1) := by decide +kernel
theorem dJ0_isLatin1_aae02_0 : decode cJ0_isLatin1_aae02 0 = .ok (.getstatic 38, 3) := by decide +kernel
theorem dJ0_isLatin1_aae02_3 : decode cJ0_isLatin1_aae02 3 = .ok (.ifCond .eq 14, 3) := by decide +kernel
theorem dJ0_isLatin1_aae02_6 : decode cJ0_isLatin1_aae02 6 = .ok (.aload_n 0, 1) := by decide +kernel
theorem dJ0_isLatin1_aae02_7 : decode cJ0_isLatin1_aae02 7 = .ok (.getfield 15, 3) := by decide +kernel
theorem dJ0_isLatin1_aae02_10 : decode cJ0_isLatin1_aae02 10 = .ok (.ifCond .ne 7, 3) := by decide +kernel
theorem dJ0_isLatin1_aae02_13 : decode cJ0_isLatin1_aae02 13 = .ok (.iconst 1, 1) := by decide +kernel
theorem dJ0_isLatin1_aae02_14 : decode cJ0_isLatin1_aae02 14 = .ok (.goto 4, 3) := by decide +kernel
theorem dJ0_isLatin1_aae02_17 : decode cJ0_isLatin1_aae02 17 = .ok (.iconst 0, 1) := by decide +kernel
theorem dJ0_isLatin1_aae02_18 : decode cJ0_isLatin1_aae02 18 = .ok (.ireturn, 1) := by decide +kernel
theorem dJ0_length_8abf5_0 : decode cJ0_length_8abf5 0 = .ok (.aload_n 0, 1) := by decide +kernel
theorem dJ0_length_8abf5_1 : decode cJ0_length_8abf5 1 = .ok (.getfield 9, 3) := by decide +kernel
theorem dJ0_length_8abf5_4 : decode cJ0_length_8abf5 4 = .ok (.arraylength, 1) := by decide +kernel
theorem dJ0_length_8abf5_5 : decode cJ0_length_8abf5 5 = .ok (.aload_n 0, 1) := by decide +kernel
theorem dJ0_length_8abf5_6 : decode cJ0_length_8abf5 6 = .ok (.invokevirtual 335, 3) := by decide +kernel
theorem dJ0_length_8abf5_9 : decode cJ0_length_8abf5 9 = .ok (.ishr, 1) := by decide +kernel
theorem dJ0_length_8abf5_10 : decode cJ0_length_8abf5 10 = .ok (.ireturn, 1) := by decide +kernel
theorem dJ1_charAt_3b067_0 : decode cJ1_charAt_3b067 0 = .ok (.iload_n 1, 1) := by decide +kernel
theorem dJ1_charAt_3b067_1 : decode cJ1_charAt_3b067 1 = .ok (.aload_n 0, 1) := by decide +kernel
theorem dJ1_charAt_3b067_2 : decode cJ1_charAt_3b067 2 = .ok (.arraylength, 1) := by decide +kernel
theorem dJ1_charAt_3b067_3 : decode cJ1_charAt_3b067 3 = .ok (.invokestatic 9, 3) := by decide +kernel
theorem dJ1_charAt_3b067_6 : decode cJ1_charAt_3b067 6 = .ok (.aload_n 0, 1) := by decide +kernel
theorem dJ1_charAt_3b067_7 : decode cJ1_charAt_3b067 7 = .ok (.iload_n 1, 1) := by decide +kernel
theorem dJ1_charAt_3b067_8 : decode cJ1_charAt_3b067 8 = .ok (.baload, 1) := by decide +kernel
theorem dJ1_charAt_3b067_9 : decode cJ1_charAt_3b067 9 = .ok (.sipush 255, 3) := by decide +kernel
theorem dJ1_charAt_3b067_12 : decode cJ1_charAt_3b067 12 = .ok (.iand, 1) := by decide +kernel
theorem dJ1_charAt_3b067_13 : decode cJ1_charAt_3b067 13 = .ok (.i2c, 1) := by decide +kernel
theorem dJ1_charAt_3b067_14 : decode cJ1_charAt_3b067 14 = .ok (.ireturn, 1) := by decide +kernel
theorem dJ2_charAt_3b067_0 : decode cJ2_charAt_3b067 0 = .ok (.iload_n 1, 1) := by decide +kernel
theorem dJ2_charAt_3b067_1 : decode cJ2_charAt_3b067 1 = .ok (.aload_n 0, 1) := by decide +kernel
theorem dJ2_charAt_3b067_2 : decode cJ2_charAt_3b067 2 = .ok (.invokestatic 67, 3) := by decide +kernel
theorem dJ2_charAt_3b067_5 : decode cJ2_charAt_3b067 5 = .ok (.aload_n 0, 1) := by decide +kernel
theorem dJ2_charAt_3b067_6 : decode cJ2_charAt_3b067 6 = .ok (.iload_n 1, 1) := by decide +kernel
theorem dJ2_charAt_3b067_7 : decode cJ2_charAt_3b067 7 = .ok (.invokestatic 71, 3) := by decide +kernel
theorem dJ2_charAt_3b067_10 : decode cJ2_charAt_3b067 10 = .ok (.ireturn, 1) := by decide +kernel
theorem dJ2_checkIndex_2214a_0 : decode cJ2_checkIndex_2214a 0 = .ok (.iload_n 0, 1) := by decide +kernel
theorem dJ2_checkIndex_2214a_1 : decode cJ2_checkIndex_2214a 1 = .ok (.aload_n 1, 1) := by decide +kernel
theorem dJ2_checkIndex_2214a_2 : decode cJ2_checkIndex_2214a 2 = .ok (.invokestatic 48, 3) := by decide +kernel
theorem dJ2_checkIndex_2214a_5 : decode cJ2_checkIndex_2214a 5 = .ok (.invokestatic 414, 3) := by decide +kernel
theorem dJ2_checkIndex_2214a_8 : decode cJ2_checkIndex_2214a 8 = .ok (.return_, 1) := by decide +kernel
theorem dJ2_getChar_3b067_0 : decode cJ2_getChar_3b067 0 = .ok (.getstatic 44, 3) := by decide +kernel
theorem dJ2_getChar_3b067_3 : decode cJ2_getChar_3b067 3 = .ok (.ifCond .ne 25, 3) := by decide +kernel
theorem dJ2_getChar_3b067_6 : decode cJ2_getChar_3b067 6 = .ok (.iload_n 1, 1) := by decide +kernel
theorem dJ2_getChar_3b067_7 : decode cJ2_getChar_3b067 7 = .ok (.ifCond .lt 11, 3) := by decide +kernel
theorem dJ2_getChar_3b067_10 : decode cJ2_getChar_3b067 10 = .ok (.iload_n 1, 1) := by decide +kernel
theorem dJ2_getChar_3b067_11 : decode cJ2_getChar_3b067 11 = .ok (.aload_n 0, 1) := by decide +kernel
theorem dJ2_getChar_3b067_12 : decode cJ2_getChar_3b067 12 = .ok (.invokestatic 48, 3) := by decide +kernel
theorem dJ2_getChar_3b067_15 : decode cJ2_getChar_3b067 15 = .ok (.if_icmp .lt 13, 3) := by decide +kernel
theorem dJ2_getChar_3b067_18 : decode cJ2_getChar_3b067 18 = .ok (.new 52, 3) := by decide +kernel
theorem dJ2_getChar_3b067_21 : decode cJ2_getChar_3b067 21 = .ok (.dup, 1) := by decide +kernel
theorem dJ2_getChar_3b067_22 : decode cJ2_getChar_3b067 22 = .ok (.ldc 54, 2) := by decide +kernel
theorem dJ2_getChar_3b067_24 : decode cJ2_getChar_3b067 24 = .ok (.invokespecial 56, 3) := by decide +kernel
theorem dJ2_getChar_3b067_27 : decode cJ2_getChar_3b067 27 = .ok (.athrow, 1) := by decide +kernel
theorem dJ2_getChar_3b067_28 : decode cJ2_getChar_3b067 28 = .ok (.iload_n 1, 1) := by decide +kernel
theorem dJ2_getChar_3b067_29 : decode cJ2_getChar_3b067 29 = .ok (.iconst 1, 1) := by decide +kernel
theorem dJ2_getChar_3b067_30 : decode cJ2_getChar_3b067 30 = .ok (.ishl, 1) := by decide +kernel
theorem dJ2_getChar_3b067_31 : decode cJ2_getChar_3b067 31 = .ok (.istore_n 1, 1) := by decide +kernel
theorem dJ2_getChar_3b067_32 : decode cJ2_getChar_3b067 32 = .ok (.aload_n 0, 1) := by decide +kernel
theorem dJ2_getChar_3b067_33 : decode cJ2_getChar_3b067 33 = .ok (.iload_n 1, 1) := by decide +kernel
theorem dJ2_getChar_3b067_34 : decode cJ2_getChar_3b067 34 = .ok (.iinc 1 1, 3) := by decide +kernel
theorem dJ2_getChar_3b067_37 : decode cJ2_getChar_3b067 37 = .ok (.baload, 1) := by decide +kernel
theorem dJ2_getChar_3b067_38 : decode cJ2_getChar_3b067 38 = .ok (.sipush 255, 3) := by decide +kernel
theorem dJ2_getChar_3b067_41 : decode cJ2_getChar_3b067 41 = .ok (.iand, 1) := by decide +kernel
theorem dJ2_getChar_3b067_42 : decode cJ2_getChar_3b067 42 = .ok (.getstatic 59, 3) := by decide +kernel
theorem dJ2_getChar_3b067_45 : decode cJ2_getChar_3b067 45 = .ok (.ishl, 1) := by decide +kernel
theorem dJ2_getChar_3b067_46 : decode cJ2_getChar_3b067 46 = .ok (.aload_n 0, 1) := by decide +kernel
theorem dJ2_getChar_3b067_47 : decode cJ2_getChar_3b067 47 = .ok (.iload_n 1, 1) := by decide +kernel
theorem dJ2_getChar_3b067_48 : decode cJ2_getChar_3b067 48 = .ok (.baload, 1) := by decide +kernel
theorem dJ2_getChar_3b067_49 : decode cJ2_getChar_3b067 49 = .ok (.sipush 255, 3) := by decide +kernel
theorem dJ2_getChar_3b067_52 : decode cJ2_getChar_3b067 52 = .ok (.iand, 1) := by decide +kernel
theorem dJ2_getChar_3b067_53 : decode cJ2_getChar_3b067 53 = .ok (.getstatic 63, 3) := by decide +kernel
theorem dJ2_getChar_3b067_56 : decode cJ2_getChar_3b067 56 = .ok (.ishl, 1) := by decide +kernel
theorem dJ2_getChar_3b067_57 : decode cJ2_getChar_3b067 57 = .ok (.ior, 1) := by decide +kernel
theorem dJ2_getChar_3b067_58 : decode cJ2_getChar_3b067 58 = .ok (.i2c, 1) := by decide +kernel
theorem dJ2_getChar_3b067_59 : decode cJ2_getChar_3b067 59 = .ok (.ireturn, 1) := by decide +kernel
theorem dJ2_length_9d52b_0 : decode cJ2_length_9d52b 0 = .ok (.aload_n 0, 1) := by decide +kernel
theorem dJ2_length_9d52b_1 : decode cJ2_length_9d52b 1 = .ok (.arraylength, 1) := by decide +kernel
theorem dJ2_length_9d52b_2 : decode cJ2_length_9d52b 2 = .ok (.iconst 1, 1) := by decide +kernel
theorem dJ2_length_9d52b_3 : decode cJ2_length_9d52b 3 = .ok (.ishr, 1) := by decide +kernel
theorem dJ2_length_9d52b_4 : decode cJ2_length_9d52b 4 = .ok (.ireturn, 1) := by decide +kernel
theorem dJ3_checkIndex_8e157_0 : decode cJ3_checkIndex_8e157 0 = .ok (.iload_n 0, 1) := by decide +kernel
theorem dJ3_checkIndex_8e157_1 : decode cJ3_checkIndex_8e157 1 = .ok (.ifCond .lt 8, 3) := by decide +kernel
theorem dJ3_checkIndex_8e157_4 : decode cJ3_checkIndex_8e157 4 = .ok (.iload_n 0, 1) := by decide +kernel
theorem dJ3_checkIndex_8e157_5 : decode cJ3_checkIndex_8e157 5 = .ok (.iload_n 1, 1) := by decide +kernel
theorem dJ3_checkIndex_8e157_6 : decode cJ3_checkIndex_8e157 6 = .ok (.if_icmp .lt 10, 3) := by decide +kernel
theorem dJ3_checkIndex_8e157_9 : decode cJ3_checkIndex_8e157 9 = .ok (.aload_n 2, 1) := by decide +kernel
theorem dJ3_checkIndex_8e157_10 : decode cJ3_checkIndex_8e157 10 = .ok (.iload_n 0, 1) := by decide +kernel
theorem dJ3_checkIndex_8e157_11 : decode cJ3_checkIndex_8e157 11 = .ok (.iload_n 1, 1) := by decide +kernel
theorem dJ3_checkIndex_8e157_12 : decode cJ3_checkIndex_8e157 12 = .ok (.invokestatic 95, 3) := by decide +kernel
theorem dJ3_checkIndex_8e157_15 : decode cJ3_checkIndex_8e157 15 = .ok (.athrow, 1) := by decide +kernel
theorem dJ3_checkIndex_8e157_16 : decode cJ3_checkIndex_8e157 16 = .ok (.iload_n 0, 1) := by decide +kernel
theorem dJ3_checkIndex_8e157_17 : decode cJ3_checkIndex_8e157 17 = .ok (.ireturn, 1) := by decide +kernel
theorem dJ7_fill_53178_0 : decode cJ7_fill_53178 0 = .ok (.iconst 0, 1) := by decide +kernel
theorem dJ7_fill_53178_1 : decode cJ7_fill_53178 1 = .ok (.istore_n 2, 1) := by decide +kernel
theorem dJ7_fill_53178_2 : decode cJ7_fill_53178 2 = .ok (.aload_n 0, 1) := by decide +kernel
theorem dJ7_fill_53178_3 : decode cJ7_fill_53178 3 = .ok (.arraylength, 1) := by decide +kernel
theorem dJ7_fill_53178_4 : decode cJ7_fill_53178 4 = .ok (.istore_n 3, 1) := by decide +kernel
theorem dJ7_fill_53178_5 : decode cJ7_fill_53178 5 = .ok (.iload_n 2, 1) := by decide +kernel
theorem dJ7_fill_53178_6 : decode cJ7_fill_53178 6 = .ok (.iload_n 3, 1) := by decide +kernel
theorem dJ7_fill_53178_7 : decode cJ7_fill_53178 7 = .ok (.if_icmp .ge 13, 3) := by decide +kernel
theorem dJ7_fill_53178_10 : decode cJ7_fill_53178 10 = .ok (.aload_n 0, 1) := by decide +kernel
theorem dJ7_fill_53178_11 : decode cJ7_fill_53178 11 = .ok (.iload_n 2, 1) := by decide +kernel
theorem dJ7_fill_53178_12 : decode cJ7_fill_53178 12 = .ok (.iload_n 1, 1) := by decide +kernel
theorem dJ7_fill_53178_13 : decode cJ7_fill_53178 13 = .ok (.iastore, 1) := by decide +kernel
theorem dJ7_fill_53178_14 : decode cJ7_fill_53178 14 = .ok (.iinc 2 1, 3) := by decide +kernel
theorem dJ7_fill_53178_17 : decode cJ7_fill_53178 17 = .ok (.goto (-12), 3) := by decide +kernel
theorem dJ7_fill_53178_20 : decode cJ7_fill_53178 20 = .ok (.return_, 1) := by decide +kernel
theorem dJ7_fill_fda19_0 : decode cJ7_fill_fda19 0 = .ok (.aload_n 0, 1) := by decide +kernel
theorem dJ7_fill_fda19_1 : decode cJ7_fill_fda19 1 = .ok (.arraylength, 1) := by decide +kernel
theorem dJ7_fill_fda19_2 : decode cJ7_fill_fda19 2 = .ok (.iload_n 1, 1) := by decide +kernel
theorem dJ7_fill_fda19_3 : decode cJ7_fill_fda19 3 = .ok (.iload_n 2, 1) := by decide +kernel
theorem dJ7_fill_fda19_4 : decode cJ7_fill_fda19 4 = .ok (.invokestatic 13, 3) := by decide +kernel
theorem dJ7_fill_fda19_7 : decode cJ7_fill_fda19 7 = .ok (.iload_n 1, 1) := by decide +kernel
theorem dJ7_fill_fda19_8 : decode cJ7_fill_fda19 8 = .ok (.istore 4, 2) := by decide +kernel
theorem dJ7_fill_fda19_10 : decode cJ7_fill_fda19 10 = .ok (.iload 4, 2) := by decide +kernel
theorem dJ7_fill_fda19_12 : decode cJ7_fill_fda19 12 = .ok (.iload_n 2, 1) := by decide +kernel
theorem dJ7_fill_fda19_13 : decode cJ7_fill_fda19 13 = .ok (.if_icmp .ge 14, 3) := by decide +kernel
theorem dJ7_fill_fda19_16 : decode cJ7_fill_fda19 16 = .ok (.aload_n 0, 1) := by decide +kernel
theorem dJ7_fill_fda19_17 : decode cJ7_fill_fda19 17 = .ok (.iload 4, 2) := by decide +kernel
theorem dJ7_fill_fda19_19 : decode cJ7_fill_fda19 19 = .ok (.iload_n 3, 1) := by decide +kernel
theorem dJ7_fill_fda19_20 : decode cJ7_fill_fda19 20 = .ok (.iastore, 1) := by decide +kernel
theorem dJ7_fill_fda19_21 : decode cJ7_fill_fda19 21 = .ok (.iinc 4 1, 3) := by decide +kernel
theorem dJ7_fill_fda19_24 : decode cJ7_fill_fda19 24 = .ok (.goto (-14), 3) := by decide +kernel
theorem dJ7_fill_fda19_27 : decode cJ7_fill_fda19 27 = .ok (.return_, 1) := by decide +kernel
theorem dJ7_rangeCheck_23922_0 : decode cJ7_rangeCheck_23922 0 = .ok (.iload_n 1, 1) := by decide +kernel
theorem dJ7_rangeCheck_23922_1 : decode cJ7_rangeCheck_23922 1 = .ok (.iload_n 2, 1) := by decide +kernel
theorem dJ7_rangeCheck_23922_2 : decode cJ7_rangeCheck_23922 2 = .ok (.if_icmp .le 44, 3) := by decide +kernel
theorem dJ7_rangeCheck_23922_5 : decode cJ7_rangeCheck_23922 5 = .ok (.new 43, 3) := by decide +kernel
theorem dJ7_rangeCheck_23922_8 : decode cJ7_rangeCheck_23922 8 = .ok (.dup, 1) := by decide +kernel
theorem dJ7_rangeCheck_23922_9 : decode cJ7_rangeCheck_23922 9 = .ok (.new 45, 3) := by decide +kernel
theorem dJ7_rangeCheck_23922_12 : decode cJ7_rangeCheck_23922 12 = .ok (.dup, 1) := by decide +kernel
theorem dJ7_rangeCheck_23922_13 : decode cJ7_rangeCheck_23922 13 = .ok (.invokespecial 47, 3) := by decide +kernel
theorem dJ7_rangeCheck_23922_16 : decode cJ7_rangeCheck_23922 16 = .ok (.ldc 48, 2) := by decide +kernel
theorem dJ7_rangeCheck_23922_18 : decode cJ7_rangeCheck_23922 18 = .ok (.invokevirtual 50, 3) := by decide +kernel
theorem dJ7_rangeCheck_23922_21 : decode cJ7_rangeCheck_23922 21 = .ok (.iload_n 1, 1) := by decide +kernel
theorem dJ7_rangeCheck_23922_22 : decode cJ7_rangeCheck_23922 22 = .ok (.invokevirtual 54, 3) := by decide +kernel
theorem dJ7_rangeCheck_23922_25 : decode cJ7_rangeCheck_23922 25 = .ok (.ldc 57, 2) := by decide +kernel
theorem dJ7_rangeCheck_23922_27 : decode cJ7_rangeCheck_23922 27 = .ok (.invokevirtual 50, 3) := by decide +kernel
theorem dJ7_rangeCheck_23922_30 : decode cJ7_rangeCheck_23922 30 = .ok (.iload_n 2, 1) := by decide +kernel
theorem dJ7_rangeCheck_23922_31 : decode cJ7_rangeCheck_23922 31 = .ok (.invokevirtual 54, 3) := by decide +kernel
theorem dJ7_rangeCheck_23922_34 : decode cJ7_rangeCheck_23922 34 = .ok (.ldc 59, 2) := by decide +kernel
theorem dJ7_rangeCheck_23922_36 : decode cJ7_rangeCheck_23922 36 = .ok (.invokevirtual 50, 3) := by decide +kernel
theorem dJ7_rangeCheck_23922_39 : decode cJ7_rangeCheck_23922 39 = .ok (.invokevirtual 61, 3) := by decide +kernel
theorem dJ7_rangeCheck_23922_42 : decode cJ7_rangeCheck_23922 42 = .ok (.invokespecial 65, 3) := by decide +kernel
theorem dJ7_rangeCheck_23922_45 : decode cJ7_rangeCheck_23922 45 = .ok (.athrow, 1) := by decide +kernel
theorem dJ7_rangeCheck_23922_46 : decode cJ7_rangeCheck_23922 46 = .ok (.iload_n 1, 1) := by decide +kernel
theorem dJ7_rangeCheck_23922_47 : decode cJ7_rangeCheck_23922 47 = .ok (.ifCond .ge 12, 3) := by decide +kernel
theorem dJ7_rangeCheck_23922_50 : decode cJ7_rangeCheck_23922 50 = .ok (.new 68, 3) := by decide +kernel
theorem dJ7_rangeCheck_23922_53 : decode cJ7_rangeCheck_23922 53 = .ok (.dup, 1) := by decide +kernel
theorem dJ7_rangeCheck_23922_54 : decode cJ7_rangeCheck_23922 54 = .ok (.iload_n 1, 1) := by decide +kernel
theorem dJ7_rangeCheck_23922_55 : decode cJ7_rangeCheck_23922 55 = .ok (.invokespecial 70, 3) := by decide +kernel
theorem dJ7_rangeCheck_23922_58 : decode cJ7_rangeCheck_23922 58 = .ok (.athrow, 1) := by decide +kernel
theorem dJ7_rangeCheck_23922_59 : decode cJ7_rangeCheck_23922 59 = .ok (.iload_n 2, 1) := by decide +kernel
theorem dJ7_rangeCheck_23922_60 : decode cJ7_rangeCheck_23922 60 = .ok (.iload_n 0, 1) := by decide +kernel
theorem dJ7_rangeCheck_23922_61 : decode cJ7_rangeCheck_23922 61 = .ok (.if_icmp .le 12, 3) := by decide +kernel
theorem dJ7_rangeCheck_23922_64 : decode cJ7_rangeCheck_23922 64 = .ok (.new 68, 3) := by decide +kernel
theorem dJ7_rangeCheck_23922_67 : decode cJ7_rangeCheck_23922 67 = .ok (.dup, 1) := by decide +kernel
theorem dJ7_rangeCheck_23922_68 : decode cJ7_rangeCheck_23922 68 = .ok (.iload_n 2, 1) := by decide +kernel
theorem dJ7_rangeCheck_23922_69 : decode cJ7_rangeCheck_23922 69 = .ok (.invokespecial 70, 3) := by decide +kernel
theorem dJ7_rangeCheck_23922_72 : decode cJ7_rangeCheck_23922 72 = .ok (.athrow, 1) := by decide +kernel
theorem dJ7_rangeCheck_23922_73 : decode cJ7_rangeCheck_23922 73 = .ok (.return_, 1) := by decide +kernel
theorem dJ9_max_7cf53_0 : decode cJ9_max_7cf53 0 = .ok (.iload_n 0, 1) := by decide +kernel
theorem dJ9_max_7cf53_1 : decode cJ9_max_7cf53 1 = .ok (.iload_n 1, 1) := by decide +kernel
theorem dJ9_max_7cf53_2 : decode cJ9_max_7cf53 2 = .ok (.if_icmp .lt 7, 3) := by decide +kernel
theorem dJ9_max_7cf53_5 : decode cJ9_max_7cf53 5 = .ok (.iload_n 0, 1) := by decide +kernel
theorem dJ9_max_7cf53_6 : decode cJ9_max_7cf53 6 = .ok (.goto 4, 3) := by decide +kernel
theorem dJ9_max_7cf53_9 : decode cJ9_max_7cf53 9 = .ok (.iload_n 1, 1) := by decide +kernel
theorem dJ9_max_7cf53_10 : decode cJ9_max_7cf53 10 = .ok (.ireturn, 1) := by decide +kernel
theorem dJ9_min_7cf53_0 : decode cJ9_min_7cf53 0 = .ok (.iload_n 0, 1) := by decide +kernel
theorem dJ9_min_7cf53_1 : decode cJ9_min_7cf53 1 = .ok (.iload_n 1, 1) := by decide +kernel
theorem dJ9_min_7cf53_2 : decode cJ9_min_7cf53 2 = .ok (.if_icmp .gt 7, 3) := by decide +kernel
theorem dJ9_min_7cf53_5 : decode cJ9_min_7cf53 5 = .ok (.iload_n 0, 1) := by decide +kernel
theorem dJ9_min_7cf53_6 : decode cJ9_min_7cf53 6 = .ok (.goto 4, 3) := by decide +kernel
theorem dJ9_min_7cf53_9 : decode cJ9_min_7cf53 9 = .ok (.iload_n 1, 1) := by decide +kernel
theorem dJ9_min_7cf53_10 : decode cJ9_min_7cf53 10 = .ok (.ireturn, 1) := by decide +kernel
theorem dX0_change_0 : decode cX0_change 0 = .ok (.aload_n 0, 1) := by decide +kernel
theorem dX0_change_1 : decode cX0_change 1 = .ok (.bipush 8, 2) := by decide +kernel
theorem dX0_change_3 : decode cX0_change 3 = .ok (.invokevirtual 31, 3) := by decide +kernel
theorem dX0_change_6 : decode cX0_change 6 = .ok (.bipush 8, 2) := by decide +kernel
theorem dX0_change_8 : decode cX0_change 8 = .ok (.isub, 1) := by decide +kernel
theorem dX0_change_9 : decode cX0_change 9 = .ok (.istore_n 2, 1) := by decide +kernel
theorem dX0_change_10 : decode cX0_change 10 = .ok (.aload_n 0, 1) := by decide +kernel
theorem dX0_change_11 : decode cX0_change 11 = .ok (.iconst 4, 1) := by decide +kernel
theorem dX0_change_12 : decode cX0_change 12 = .ok (.invokevirtual 31, 3) := by decide +kernel
theorem dX0_change_15 : decode cX0_change 15 = .ok (.istore_n 3, 1) := by decide +kernel
theorem dX0_change_16 : decode cX0_change 16 = .ok (.iload_n 3, 1) := by decide +kernel
theorem dX0_change_17 : decode cX0_change 17 = .ok (.tableswitch 55 0 2 #[27, 36, 36], 27) := by decide +kernel
theorem dX0_change_44 : decode cX0_change 44 = .ok (.aload_n 0, 1) := by decide +kernel
theorem dX0_change_45 : decode cX0_change 45 = .ok (.aload_n 1, 1) := by decide +kernel
theorem dX0_change_46 : decode cX0_change 46 = .ok (.iload_n 2, 1) := by decide +kernel
theorem dX0_change_47 : decode cX0_change 47 = .ok (.invokevirtual 35, 3) := by decide +kernel
theorem dX0_change_50 : decode cX0_change 50 = .ok (.goto 28, 3) := by decide +kernel
theorem dX0_change_53 : decode cX0_change 53 = .ok (.aload_n 0, 1) := by decide +kernel
theorem dX0_change_54 : decode cX0_change 54 = .ok (.aload_n 1, 1) := by decide +kernel
theorem dX0_change_55 : decode cX0_change 55 = .ok (.iload_n 2, 1) := by decide +kernel
theorem dX0_change_56 : decode cX0_change 56 = .ok (.iload_n 3, 1) := by decide +kernel
theorem dX0_change_57 : decode cX0_change 57 = .ok (.iconst 1, 1) := by decide +kernel
theorem dX0_change_58 : decode cX0_change 58 = .ok (.if_icmp .ne 7, 3) := by decide +kernel
theorem dX0_change_61 : decode cX0_change 61 = .ok (.iconst 1, 1) := by decide +kernel
theorem dX0_change_62 : decode cX0_change 62 = .ok (.goto 4, 3) := by decide +kernel
theorem dX0_change_65 : decode cX0_change 65 = .ok (.iconst 0, 1) := by decide +kernel
theorem dX0_change_66 : decode cX0_change 66 = .ok (.invokevirtual 39, 3) := by decide +kernel
theorem dX0_change_69 : decode cX0_change 69 = .ok (.goto 9, 3) := by decide +kernel
theorem dX0_change_72 : decode cX0_change 72 = .ok (.aload_n 0, 1) := by decide +kernel
theorem dX0_change_73 : decode cX0_change 73 = .ok (.aload_n 1, 1) := by decide +kernel
theorem dX0_change_74 : decode cX0_change 74 = .ok (.iload_n 2, 1) := by decide +kernel
theorem dX0_change_75 : decode cX0_change 75 = .ok (.invokevirtual 43, 3) := by decide +kernel
theorem dX0_change_78 : decode cX0_change 78 = .ok (.return_, 1) := by decide +kernel
theorem dX0_draw_0 : decode cX0_draw 0 = .ok (.aload_n 0, 1) := by decide +kernel
theorem dX0_draw_1 : decode cX0_draw 1 = .ok (.ldc2_w 23, 3) := by decide +kernel
theorem dX0_draw_4 : decode cX0_draw 4 = .ok (.aload_n 0, 1) := by decide +kernel
theorem dX0_draw_5 : decode cX0_draw 5 = .ok (.getfield 9, 3) := by decide +kernel
theorem dX0_draw_8 : decode cX0_draw 8 = .ok (.lmul, 1) := by decide +kernel
theorem dX0_draw_9 : decode cX0_draw 9 = .ok (.ldc2_w 25, 3) := by decide +kernel
theorem dX0_draw_12 : decode cX0_draw 12 = .ok (.ladd, 1) := by decide +kernel
theorem dX0_draw_13 : decode cX0_draw 13 = .ok (.ldc2_w 27, 3) := by decide +kernel
theorem dX0_draw_16 : decode cX0_draw 16 = .ok (.land, 1) := by decide +kernel
theorem dX0_draw_17 : decode cX0_draw 17 = .ok (.putfield 9, 3) := by decide +kernel
theorem dX0_draw_20 : decode cX0_draw 20 = .ok (.iload_n 1, 1) := by decide +kernel
theorem dX0_draw_21 : decode cX0_draw 21 = .ok (.ifCond .le 18, 3) := by decide +kernel
theorem dX0_draw_24 : decode cX0_draw 24 = .ok (.aload_n 0, 1) := by decide +kernel
theorem dX0_draw_25 : decode cX0_draw 25 = .ok (.getfield 9, 3) := by decide +kernel
theorem dX0_draw_28 : decode cX0_draw 28 = .ok (.ldc2_w 29, 3) := by decide +kernel
theorem dX0_draw_31 : decode cX0_draw 31 = .ok (.ldiv, 1) := by decide +kernel
theorem dX0_draw_32 : decode cX0_draw 32 = .ok (.iload_n 1, 1) := by decide +kernel
theorem dX0_draw_33 : decode cX0_draw 33 = .ok (.i2l, 1) := by decide +kernel
theorem dX0_draw_34 : decode cX0_draw 34 = .ok (.lrem, 1) := by decide +kernel
theorem dX0_draw_35 : decode cX0_draw 35 = .ok (.l2i, 1) := by decide +kernel
theorem dX0_draw_36 : decode cX0_draw 36 = .ok (.goto 4, 3) := by decide +kernel
theorem dX0_draw_39 : decode cX0_draw 39 = .ok (.iconst 0, 1) := by decide +kernel
theorem dX0_draw_40 : decode cX0_draw 40 = .ok (.ireturn, 1) := by decide +kernel
theorem dX0_exchange_0 : decode cX0_exchange 0 = .ok (.aload_n 1, 1) := by decide +kernel
theorem dX0_exchange_1 : decode cX0_exchange 1 = .ok (.aload_n 0, 1) := by decide +kernel
theorem dX0_exchange_2 : decode cX0_exchange 2 = .ok (.bipush 8, 2) := by decide +kernel
theorem dX0_exchange_4 : decode cX0_exchange 4 = .ok (.invokevirtual 31, 3) := by decide +kernel
theorem dX0_exchange_7 : decode cX0_exchange 7 = .ok (.bipush 8, 2) := by decide +kernel
theorem dX0_exchange_9 : decode cX0_exchange 9 = .ok (.isub, 1) := by decide +kernel
theorem dX0_exchange_10 : decode cX0_exchange 10 = .ok (.invokevirtual 64, 3) := by decide +kernel
theorem dX0_exchange_13 : decode cX0_exchange 13 = .ok (.invokestatic 67, 3) := by decide +kernel
theorem dX0_exchange_16 : decode cX0_exchange 16 = .ok (.istore 4, 2) := by decide +kernel
theorem dX0_exchange_18 : decode cX0_exchange 18 = .ok (.iload 4, 2) := by decide +kernel
theorem dX0_exchange_20 : decode cX0_exchange 20 = .ok (.iconst (-1), 1) := by decide +kernel
theorem dX0_exchange_21 : decode cX0_exchange 21 = .ok (.if_icmp .ne 7, 3) := by decide +kernel
theorem dX0_exchange_24 : decode cX0_exchange 24 = .ok (.iconst (-1), 1) := by decide +kernel
theorem dX0_exchange_25 : decode cX0_exchange 25 = .ok (.goto 9, 3) := by decide +kernel
theorem dX0_exchange_28 : decode cX0_exchange 28 = .ok (.aload_n 1, 1) := by decide +kernel
theorem dX0_exchange_29 : decode cX0_exchange 29 = .ok (.iload 4, 2) := by decide +kernel
theorem dX0_exchange_31 : decode cX0_exchange 31 = .ok (.invokevirtual 70, 3) := by decide +kernel
theorem dX0_exchange_34 : decode cX0_exchange 34 = .ok (.istore 5, 2) := by decide +kernel
theorem dX0_exchange_36 : decode cX0_exchange 36 = .ok (.iload 5, 2) := by decide +kernel
theorem dX0_exchange_38 : decode cX0_exchange 38 = .ok (.iconst (-1), 1) := by decide +kernel
theorem dX0_exchange_39 : decode cX0_exchange 39 = .ok (.if_icmp .ne 4, 3) := by decide +kernel
theorem dX0_exchange_42 : decode cX0_exchange 42 = .ok (.return_, 1) := by decide +kernel
theorem dX0_exchange_43 : decode cX0_exchange 43 = .ok (.aload_n 1, 1) := by decide +kernel
theorem dX0_exchange_44 : decode cX0_exchange 44 = .ok (.iload 5, 2) := by decide +kernel
theorem dX0_exchange_46 : decode cX0_exchange 46 = .ok (.invokevirtual 64, 3) := by decide +kernel
theorem dX0_exchange_49 : decode cX0_exchange 49 = .ok (.istore 6, 2) := by decide +kernel
theorem dX0_exchange_51 : decode cX0_exchange 51 = .ok (.aload_n 0, 1) := by decide +kernel
theorem dX0_exchange_52 : decode cX0_exchange 52 = .ok (.aload_n 0, 1) := by decide +kernel
theorem dX0_exchange_53 : decode cX0_exchange 53 = .ok (.getfield 15, 3) := by decide +kernel
theorem dX0_exchange_56 : decode cX0_exchange 56 = .ok (.iload 6, 2) := by decide +kernel
theorem dX0_exchange_58 : decode cX0_exchange 58 = .ok (.invokevirtual 73, 3) := by decide +kernel
theorem dX0_exchange_61 : decode cX0_exchange 61 = .ok (.iconst 1, 1) := by decide +kernel
theorem dX0_exchange_62 : decode cX0_exchange 62 = .ok (.isub, 1) := by decide +kernel
theorem dX0_exchange_63 : decode cX0_exchange 63 = .ok (.invokevirtual 31, 3) := by decide +kernel
theorem dX0_exchange_66 : decode cX0_exchange 66 = .ok (.istore 7, 2) := by decide +kernel
theorem dX0_exchange_68 : decode cX0_exchange 68 = .ok (.iload 5, 2) := by decide +kernel
theorem dX0_exchange_70 : decode cX0_exchange 70 = .ok (.iconst 1, 1) := by decide +kernel
theorem dX0_exchange_71 : decode cX0_exchange 71 = .ok (.iadd, 1) := by decide +kernel
theorem dX0_exchange_72 : decode cX0_exchange 72 = .ok (.iload 7, 2) := by decide +kernel
theorem dX0_exchange_74 : decode cX0_exchange 74 = .ok (.iadd, 1) := by decide +kernel
theorem dX0_exchange_75 : decode cX0_exchange 75 = .ok (.istore 8, 2) := by decide +kernel
theorem dX0_exchange_77 : decode cX0_exchange 77 = .ok (.iload_n 3, 1) := by decide +kernel
theorem dX0_exchange_78 : decode cX0_exchange 78 = .ok (.ifCond .ne 17, 3) := by decide +kernel
theorem dX0_exchange_81 : decode cX0_exchange 81 = .ok (.aload_n 1, 1) := by decide +kernel
theorem dX0_exchange_82 : decode cX0_exchange 82 = .ok (.iload_n 2, 1) := by decide +kernel
theorem dX0_exchange_83 : decode cX0_exchange 83 = .ok (.aload_n 1, 1) := by decide +kernel
theorem dX0_exchange_84 : decode cX0_exchange 84 = .ok (.iload 8, 2) := by decide +kernel
theorem dX0_exchange_86 : decode cX0_exchange 86 = .ok (.invokevirtual 64, 3) := by decide +kernel
theorem dX0_exchange_89 : decode cX0_exchange 89 = .ok (.invokevirtual 58, 3) := by decide +kernel
theorem dX0_exchange_92 : decode cX0_exchange 92 = .ok (.goto 63, 3) := by decide +kernel
theorem dX0_exchange_95 : decode cX0_exchange 95 = .ok (.aload_n 0, 1) := by decide +kernel
theorem dX0_exchange_96 : decode cX0_exchange 96 = .ok (.getfield 15, 3) := by decide +kernel
theorem dX0_exchange_99 : decode cX0_exchange 99 = .ok (.iload 6, 2) := by decide +kernel
theorem dX0_exchange_101 : decode cX0_exchange 101 = .ok (.sipush 5096, 3) := by decide +kernel
theorem dX0_exchange_104 : decode cX0_exchange 104 = .ok (.isub, 1) := by decide +kernel
theorem dX0_exchange_105 : decode cX0_exchange 105 = .ok (.iload 7, 2) := by decide +kernel
theorem dX0_exchange_107 : decode cX0_exchange 107 = .ok (.invokevirtual 76, 3) := by decide +kernel
theorem dX0_exchange_110 : decode cX0_exchange 110 = .ok (.ifCond .ne 23, 3) := by decide +kernel
theorem dX0_exchange_113 : decode cX0_exchange 113 = .ok (.aload_n 1, 1) := by decide +kernel
theorem dX0_exchange_114 : decode cX0_exchange 114 = .ok (.iload 8, 2) := by decide +kernel
theorem dX0_exchange_116 : decode cX0_exchange 116 = .ok (.sipush 1000, 3) := by decide +kernel
theorem dX0_exchange_119 : decode cX0_exchange 119 = .ok (.aload_n 0, 1) := by decide +kernel
theorem dX0_exchange_120 : decode cX0_exchange 120 = .ok (.sipush 1000, 3) := by decide +kernel
theorem dX0_exchange_123 : decode cX0_exchange 123 = .ok (.invokevirtual 31, 3) := by decide +kernel
theorem dX0_exchange_126 : decode cX0_exchange 126 = .ok (.iadd, 1) := by decide +kernel
theorem dX0_exchange_127 : decode cX0_exchange 127 = .ok (.invokevirtual 58, 3) := by decide +kernel
theorem dX0_exchange_130 : decode cX0_exchange 130 = .ok (.goto 25, 3) := by decide +kernel
theorem dX0_exchange_133 : decode cX0_exchange 133 = .ok (.aload_n 1, 1) := by decide +kernel
theorem dX0_exchange_134 : decode cX0_exchange 134 = .ok (.iload_n 2, 1) := by decide +kernel
theorem dX0_exchange_135 : decode cX0_exchange 135 = .ok (.invokevirtual 64, 3) := by decide +kernel
theorem dX0_exchange_138 : decode cX0_exchange 138 = .ok (.invokestatic 80, 3) := by decide +kernel
theorem dX0_exchange_141 : decode cX0_exchange 141 = .ok (.ifCond .eq 14, 3) := by decide +kernel
theorem dX0_exchange_144 : decode cX0_exchange 144 = .ok (.aload_n 1, 1) := by decide +kernel
theorem dX0_exchange_145 : decode cX0_exchange 145 = .ok (.iload 8, 2) := by decide +kernel
theorem dX0_exchange_147 : decode cX0_exchange 147 = .ok (.aload_n 1, 1) := by decide +kernel
theorem dX0_exchange_148 : decode cX0_exchange 148 = .ok (.iload_n 2, 1) := by decide +kernel
theorem dX0_exchange_149 : decode cX0_exchange 149 = .ok (.invokevirtual 64, 3) := by decide +kernel
theorem dX0_exchange_152 : decode cX0_exchange 152 = .ok (.invokevirtual 58, 3) := by decide +kernel
theorem dX0_exchange_155 : decode cX0_exchange 155 = .ok (.return_, 1) := by decide +kernel
theorem dX0_init_0 : decode cX0_init 0 = .ok (.aload_n 0, 1) := by decide +kernel
theorem dX0_init_1 : decode cX0_init 1 = .ok (.invokespecial 3, 3) := by decide +kernel
theorem dX0_init_4 : decode cX0_init 4 = .ok (.aload_n 0, 1) := by decide +kernel
theorem dX0_init_5 : decode cX0_init 5 = .ok (.lconst 1, 1) := by decide +kernel
theorem dX0_init_6 : decode cX0_init 6 = .ok (.putfield 9, 3) := by decide +kernel
theorem dX0_init_9 : decode cX0_init 9 = .ok (.aload_n 0, 1) := by decide +kernel
theorem dX0_init_10 : decode cX0_init 10 = .ok (.aload_n 1, 1) := by decide +kernel
theorem dX0_init_11 : decode cX0_init 11 = .ok (.putfield 15, 3) := by decide +kernel
theorem dX0_init_14 : decode cX0_init 14 = .ok (.aload_n 0, 1) := by decide +kernel
theorem dX0_init_15 : decode cX0_init 15 = .ok (.aload_n 2, 1) := by decide +kernel
theorem dX0_init_16 : decode cX0_init 16 = .ok (.putfield 19, 3) := by decide +kernel
theorem dX0_init_19 : decode cX0_init 19 = .ok (.return_, 1) := by decide +kernel
theorem dX0_pointElsewhere_0 : decode cX0_pointElsewhere 0 = .ok (.aload_n 1, 1) := by decide +kernel
theorem dX0_pointElsewhere_1 : decode cX0_pointElsewhere 1 = .ok (.iload_n 2, 1) := by decide +kernel
theorem dX0_pointElsewhere_2 : decode cX0_pointElsewhere 2 = .ok (.invokevirtual 64, 3) := by decide +kernel
theorem dX0_pointElsewhere_5 : decode cX0_pointElsewhere 5 = .ok (.invokestatic 67, 3) := by decide +kernel
theorem dX0_pointElsewhere_8 : decode cX0_pointElsewhere 8 = .ok (.istore_n 3, 1) := by decide +kernel
theorem dX0_pointElsewhere_9 : decode cX0_pointElsewhere 9 = .ok (.iload_n 3, 1) := by decide +kernel
theorem dX0_pointElsewhere_10 : decode cX0_pointElsewhere 10 = .ok (.iconst (-1), 1) := by decide +kernel
theorem dX0_pointElsewhere_11 : decode cX0_pointElsewhere 11 = .ok (.if_icmp .ne 12, 3) := by decide +kernel
theorem dX0_pointElsewhere_14 : decode cX0_pointElsewhere 14 = .ok (.aload_n 1, 1) := by decide +kernel
theorem dX0_pointElsewhere_15 : decode cX0_pointElsewhere 15 = .ok (.iload_n 2, 1) := by decide +kernel
theorem dX0_pointElsewhere_16 : decode cX0_pointElsewhere 16 = .ok (.sipush 3047, 3) := by decide +kernel
theorem dX0_pointElsewhere_19 : decode cX0_pointElsewhere 19 = .ok (.invokevirtual 58, 3) := by decide +kernel
theorem dX0_pointElsewhere_22 : decode cX0_pointElsewhere 22 = .ok (.return_, 1) := by decide +kernel
theorem dX0_pointElsewhere_23 : decode cX0_pointElsewhere 23 = .ok (.aload_n 1, 1) := by decide +kernel
theorem dX0_pointElsewhere_24 : decode cX0_pointElsewhere 24 = .ok (.iload_n 3, 1) := by decide +kernel
theorem dX0_pointElsewhere_25 : decode cX0_pointElsewhere 25 = .ok (.invokevirtual 70, 3) := by decide +kernel
theorem dX0_pointElsewhere_28 : decode cX0_pointElsewhere 28 = .ok (.istore 4, 2) := by decide +kernel
theorem dX0_pointElsewhere_30 : decode cX0_pointElsewhere 30 = .ok (.aload_n 1, 1) := by decide +kernel
theorem dX0_pointElsewhere_31 : decode cX0_pointElsewhere 31 = .ok (.iload_n 2, 1) := by decide +kernel
theorem dX0_pointElsewhere_32 : decode cX0_pointElsewhere 32 = .ok (.sipush 3048, 3) := by decide +kernel
theorem dX0_pointElsewhere_35 : decode cX0_pointElsewhere 35 = .ok (.iload 4, 2) := by decide +kernel
theorem dX0_pointElsewhere_37 : decode cX0_pointElsewhere 37 = .ok (.iadd, 1) := by decide +kernel
theorem dX0_pointElsewhere_38 : decode cX0_pointElsewhere 38 = .ok (.aload_n 0, 1) := by decide +kernel
theorem dX0_pointElsewhere_39 : decode cX0_pointElsewhere 39 = .ok (.aload_n 0, 1) := by decide +kernel
theorem dX0_pointElsewhere_40 : decode cX0_pointElsewhere 40 = .ok (.getfield 15, 3) := by decide +kernel
theorem dX0_pointElsewhere_43 : decode cX0_pointElsewhere 43 = .ok (.aload_n 1, 1) := by decide +kernel
theorem dX0_pointElsewhere_44 : decode cX0_pointElsewhere 44 = .ok (.iload 4, 2) := by decide +kernel
theorem dX0_pointElsewhere_46 : decode cX0_pointElsewhere 46 = .ok (.invokevirtual 64, 3) := by decide +kernel
theorem dX0_pointElsewhere_49 : decode cX0_pointElsewhere 49 = .ok (.invokevirtual 73, 3) := by decide +kernel
theorem dX0_pointElsewhere_52 : decode cX0_pointElsewhere 52 = .ok (.invokevirtual 31, 3) := by decide +kernel
theorem dX0_pointElsewhere_55 : decode cX0_pointElsewhere 55 = .ok (.iadd, 1) := by decide +kernel
theorem dX0_pointElsewhere_56 : decode cX0_pointElsewhere 56 = .ok (.invokevirtual 58, 3) := by decide +kernel
theorem dX0_pointElsewhere_59 : decode cX0_pointElsewhere 59 = .ok (.return_, 1) := by decide +kernel
theorem dX0_pointToNew_0 : decode cX0_pointToNew 0 = .ok (.aload_n 0, 1) := by decide +kernel
theorem dX0_pointToNew_1 : decode cX0_pointToNew 1 = .ok (.getfield 19, 3) := by decide +kernel
theorem dX0_pointToNew_4 : decode cX0_pointToNew 4 = .ok (.aload_n 1, 1) := by decide +kernel
theorem dX0_pointToNew_5 : decode cX0_pointToNew 5 = .ok (.aload_n 0, 1) := by decide +kernel
theorem dX0_pointToNew_6 : decode cX0_pointToNew 6 = .ok (.aload_n 0, 1) := by decide +kernel
theorem dX0_pointToNew_7 : decode cX0_pointToNew 7 = .ok (.getfield 15, 3) := by decide +kernel
theorem dX0_pointToNew_10 : decode cX0_pointToNew 10 = .ok (.getfield 46, 3) := by decide +kernel
theorem dX0_pointToNew_13 : decode cX0_pointToNew 13 = .ok (.invokevirtual 31, 3) := by decide +kernel
theorem dX0_pointToNew_16 : decode cX0_pointToNew 16 = .ok (.invokevirtual 52, 3) := by decide +kernel
theorem dX0_pointToNew_19 : decode cX0_pointToNew 19 = .ok (.istore_n 3, 1) := by decide +kernel
theorem dX0_pointToNew_20 : decode cX0_pointToNew 20 = .ok (.iload_n 3, 1) := by decide +kernel
theorem dX0_pointToNew_21 : decode cX0_pointToNew 21 = .ok (.iconst (-1), 1) := by decide +kernel
theorem dX0_pointToNew_22 : decode cX0_pointToNew 22 = .ok (.if_icmp .eq 13, 3) := by decide +kernel
theorem dX0_pointToNew_25 : decode cX0_pointToNew 25 = .ok (.aload_n 1, 1) := by decide +kernel
theorem dX0_pointToNew_26 : decode cX0_pointToNew 26 = .ok (.iload_n 2, 1) := by decide +kernel
theorem dX0_pointToNew_27 : decode cX0_pointToNew 27 = .ok (.sipush 3048, 3) := by decide +kernel
theorem dX0_pointToNew_30 : decode cX0_pointToNew 30 = .ok (.iload_n 3, 1) := by decide +kernel
theorem dX0_pointToNew_31 : decode cX0_pointToNew 31 = .ok (.iadd, 1) := by decide +kernel
theorem dX0_pointToNew_32 : decode cX0_pointToNew 32 = .ok (.invokevirtual 58, 3) := by decide +kernel
theorem dX0_pointToNew_35 : decode cX0_pointToNew 35 = .ok (.return_, 1) := by decide +kernel
theorem dX10_append_0 : decode cX10_append 0 = .ok (.bipush 24, 2) := by decide +kernel
theorem dX10_append_2 : decode cX10_append 2 = .ok (.istore_n 2, 1) := by decide +kernel
theorem dX10_append_3 : decode cX10_append 3 = .ok (.iload_n 2, 1) := by decide +kernel
theorem dX10_append_4 : decode cX10_append 4 = .ok (.ifCond .lt 45, 3) := by decide +kernel
theorem dX10_append_7 : decode cX10_append 7 = .ok (.aload_n 0, 1) := by decide +kernel
theorem dX10_append_8 : decode cX10_append 8 = .ok (.getfield 15, 3) := by decide +kernel
theorem dX10_append_11 : decode cX10_append 11 = .ok (.sipush 1600, 3) := by decide +kernel
theorem dX10_append_14 : decode cX10_append 14 = .ok (.if_icmp .ge 35, 3) := by decide +kernel
theorem dX10_append_17 : decode cX10_append 17 = .ok (.aload_n 0, 1) := by decide +kernel
theorem dX10_append_18 : decode cX10_append 18 = .ok (.getfield 9, 3) := by decide +kernel
theorem dX10_append_21 : decode cX10_append 21 = .ok (.aload_n 0, 1) := by decide +kernel
theorem dX10_append_22 : decode cX10_append 22 = .ok (.getfield 15, 3) := by decide +kernel
theorem dX10_append_25 : decode cX10_append 25 = .ok (.iload_n 1, 1) := by decide +kernel
theorem dX10_append_26 : decode cX10_append 26 = .ok (.iload_n 2, 1) := by decide +kernel
theorem dX10_append_27 : decode cX10_append 27 = .ok (.ishr, 1) := by decide +kernel
theorem dX10_append_28 : decode cX10_append 28 = .ok (.sipush 255, 3) := by decide +kernel
theorem dX10_append_31 : decode cX10_append 31 = .ok (.iand, 1) := by decide +kernel
theorem dX10_append_32 : decode cX10_append 32 = .ok (.iastore, 1) := by decide +kernel
theorem dX10_append_33 : decode cX10_append 33 = .ok (.aload_n 0, 1) := by decide +kernel
theorem dX10_append_34 : decode cX10_append 34 = .ok (.dup, 1) := by decide +kernel
theorem dX10_append_35 : decode cX10_append 35 = .ok (.getfield 15, 3) := by decide +kernel
theorem dX10_append_38 : decode cX10_append 38 = .ok (.iconst 1, 1) := by decide +kernel
theorem dX10_append_39 : decode cX10_append 39 = .ok (.iadd, 1) := by decide +kernel
theorem dX10_append_40 : decode cX10_append 40 = .ok (.putfield 15, 3) := by decide +kernel
theorem dX10_append_43 : decode cX10_append 43 = .ok (.iinc 2 (-8), 3) := by decide +kernel
theorem dX10_append_46 : decode cX10_append 46 = .ok (.goto (-43), 3) := by decide +kernel
theorem dX10_append_49 : decode cX10_append 49 = .ok (.return_, 1) := by decide +kernel
theorem dX10_init_0 : decode cX10_init 0 = .ok (.aload_n 0, 1) := by decide +kernel
theorem dX10_init_1 : decode cX10_init 1 = .ok (.invokespecial 3, 3) := by decide +kernel
theorem dX10_init_4 : decode cX10_init 4 = .ok (.aload_n 0, 1) := by decide +kernel
theorem dX10_init_5 : decode cX10_init 5 = .ok (.sipush 1600, 3) := by decide +kernel
theorem dX10_init_8 : decode cX10_init 8 = .ok (.newarray .int, 2) := by decide +kernel
theorem dX10_init_10 : decode cX10_init 10 = .ok (.putfield 9, 3) := by decide +kernel
theorem dX10_init_13 : decode cX10_init 13 = .ok (.aload_n 0, 1) := by decide +kernel
theorem dX10_init_14 : decode cX10_init 14 = .ok (.iconst 0, 1) := by decide +kernel
theorem dX10_init_15 : decode cX10_init 15 = .ok (.putfield 15, 3) := by decide +kernel
theorem dX10_init_18 : decode cX10_init 18 = .ok (.aload_n 0, 1) := by decide +kernel
theorem dX10_init_19 : decode cX10_init 19 = .ok (.iconst 0, 1) := by decide +kernel
theorem dX10_init_20 : decode cX10_init 20 = .ok (.putfield 19, 3) := by decide +kernel
theorem dX10_init_23 : decode cX10_init 23 = .ok (.aload_n 0, 1) := by decide +kernel
theorem dX10_init_24 : decode cX10_init 24 = .ok (.iconst 0, 1) := by decide +kernel
theorem dX10_init_25 : decode cX10_init 25 = .ok (.putfield 22, 3) := by decide +kernel
theorem dX10_init_28 : decode cX10_init 28 = .ok (.aload_n 0, 1) := by decide +kernel
theorem dX10_init_29 : decode cX10_init 29 = .ok (.iconst (-1), 1) := by decide +kernel
theorem dX10_init_30 : decode cX10_init 30 = .ok (.putfield 25, 3) := by decide +kernel
theorem dX10_init_33 : decode cX10_init 33 = .ok (.aload_n 0, 1) := by decide +kernel
theorem dX10_init_34 : decode cX10_init 34 = .ok (.iconst (-1), 1) := by decide +kernel
theorem dX10_init_35 : decode cX10_init 35 = .ok (.putfield 28, 3) := by decide +kernel
theorem dX10_init_38 : decode cX10_init 38 = .ok (.aload_n 0, 1) := by decide +kernel
theorem dX10_init_39 : decode cX10_init 39 = .ok (.lconst 0, 1) := by decide +kernel
theorem dX10_init_40 : decode cX10_init 40 = .ok (.putfield 31, 3) := by decide +kernel
theorem dX10_init_43 : decode cX10_init 43 = .ok (.aload_n 0, 1) := by decide +kernel
theorem dX10_init_44 : decode cX10_init 44 = .ok (.iconst 0, 1) := by decide +kernel
theorem dX10_init_45 : decode cX10_init 45 = .ok (.putfield 35, 3) := by decide +kernel
theorem dX10_init_48 : decode cX10_init 48 = .ok (.aload_n 0, 1) := by decide +kernel
theorem dX10_init_49 : decode cX10_init 49 = .ok (.iconst 0, 1) := by decide +kernel
theorem dX10_init_50 : decode cX10_init 50 = .ok (.putfield 38, 3) := by decide +kernel
theorem dX10_init_53 : decode cX10_init 53 = .ok (.aload_n 0, 1) := by decide +kernel
theorem dX10_init_54 : decode cX10_init 54 = .ok (.iconst (-1), 1) := by decide +kernel
theorem dX10_init_55 : decode cX10_init 55 = .ok (.putfield 41, 3) := by decide +kernel
theorem dX10_init_58 : decode cX10_init 58 = .ok (.return_, 1) := by decide +kernel
theorem dX10_isDigit_0 : decode cX10_isDigit 0 = .ok (.iload_n 0, 1) := by decide +kernel
theorem dX10_isDigit_1 : decode cX10_isDigit 1 = .ok (.bipush 48, 2) := by decide +kernel
theorem dX10_isDigit_3 : decode cX10_isDigit 3 = .ok (.if_icmp .lt 13, 3) := by decide +kernel
theorem dX10_isDigit_6 : decode cX10_isDigit 6 = .ok (.iload_n 0, 1) := by decide +kernel
theorem dX10_isDigit_7 : decode cX10_isDigit 7 = .ok (.bipush 57, 2) := by decide +kernel
theorem dX10_isDigit_9 : decode cX10_isDigit 9 = .ok (.if_icmp .gt 7, 3) := by decide +kernel
theorem dX10_isDigit_12 : decode cX10_isDigit 12 = .ok (.iconst 1, 1) := by decide +kernel
theorem dX10_isDigit_13 : decode cX10_isDigit 13 = .ok (.goto 4, 3) := by decide +kernel
theorem dX10_isDigit_16 : decode cX10_isDigit 16 = .ok (.iconst 0, 1) := by decide +kernel
theorem dX10_isDigit_17 : decode cX10_isDigit 17 = .ok (.ireturn, 1) := by decide +kernel
theorem dX10_isLetter_0 : decode cX10_isLetter 0 = .ok (.iload_n 0, 1) := by decide +kernel
theorem dX10_isLetter_1 : decode cX10_isLetter 1 = .ok (.bipush 97, 2) := by decide +kernel
theorem dX10_isLetter_3 : decode cX10_isLetter 3 = .ok (.if_icmp .lt 9, 3) := by decide +kernel
theorem dX10_isLetter_6 : decode cX10_isLetter 6 = .ok (.iload_n 0, 1) := by decide +kernel
theorem dX10_isLetter_7 : decode cX10_isLetter 7 = .ok (.bipush 122, 2) := by decide +kernel
theorem dX10_isLetter_9 : decode cX10_isLetter 9 = .ok (.if_icmp .le 15, 3) := by decide +kernel
theorem dX10_isLetter_12 : decode cX10_isLetter 12 = .ok (.iload_n 0, 1) := by decide +kernel
theorem dX10_isLetter_13 : decode cX10_isLetter 13 = .ok (.bipush 65, 2) := by decide +kernel
theorem dX10_isLetter_15 : decode cX10_isLetter 15 = .ok (.if_icmp .lt 13, 3) := by decide +kernel
theorem dX10_isLetter_18 : decode cX10_isLetter 18 = .ok (.iload_n 0, 1) := by decide +kernel
theorem dX10_isLetter_19 : decode cX10_isLetter 19 = .ok (.bipush 90, 2) := by decide +kernel
theorem dX10_isLetter_21 : decode cX10_isLetter 21 = .ok (.if_icmp .gt 7, 3) := by decide +kernel
theorem dX10_isLetter_24 : decode cX10_isLetter 24 = .ok (.iconst 1, 1) := by decide +kernel
theorem dX10_isLetter_25 : decode cX10_isLetter 25 = .ok (.goto 4, 3) := by decide +kernel
theorem dX10_isLetter_28 : decode cX10_isLetter 28 = .ok (.iconst 0, 1) := by decide +kernel
theorem dX10_isLetter_29 : decode cX10_isLetter 29 = .ok (.ireturn, 1) := by decide +kernel
theorem dX10_isName_0 : decode cX10_isName 0 = .ok (.aload_n 0, 1) := by decide +kernel
theorem dX10_isName_1 : decode cX10_isName 1 = .ok (.getfield 28, 3) := by decide +kernel
theorem dX10_isName_4 : decode cX10_isName 4 = .ok (.iconst (-1), 1) := by decide +kernel
theorem dX10_isName_5 : decode cX10_isName 5 = .ok (.if_icmp .eq 13, 3) := by decide +kernel
theorem dX10_isName_8 : decode cX10_isName 8 = .ok (.aload_n 0, 1) := by decide +kernel
theorem dX10_isName_9 : decode cX10_isName 9 = .ok (.iconst 1, 1) := by decide +kernel
theorem dX10_isName_10 : decode cX10_isName 10 = .ok (.aload_n 0, 1) := by decide +kernel
theorem dX10_isName_11 : decode cX10_isName 11 = .ok (.getfield 22, 3) := by decide +kernel
theorem dX10_isName_14 : decode cX10_isName 14 = .ok (.invokevirtual 48, 3) := by decide +kernel
theorem dX10_isName_17 : decode cX10_isName 17 = .ok (.ireturn, 1) := by decide +kernel
theorem dX10_isName_18 : decode cX10_isName 18 = .ok (.aload_n 0, 1) := by decide +kernel
theorem dX10_isName_19 : decode cX10_isName 19 = .ok (.getfield 25, 3) := by decide +kernel
theorem dX10_isName_22 : decode cX10_isName 22 = .ok (.aload_n 0, 1) := by decide +kernel
theorem dX10_isName_23 : decode cX10_isName 23 = .ok (.getfield 22, 3) := by decide +kernel
theorem dX10_isName_26 : decode cX10_isName 26 = .ok (.isub, 1) := by decide +kernel
theorem dX10_isName_27 : decode cX10_isName 27 = .ok (.bipush 6, 2) := by decide +kernel
theorem dX10_isName_29 : decode cX10_isName 29 = .ok (.if_icmp .le 16, 3) := by decide +kernel
theorem dX10_isName_32 : decode cX10_isName 32 = .ok (.aload_n 0, 1) := by decide +kernel
theorem dX10_isName_33 : decode cX10_isName 33 = .ok (.iconst 1, 1) := by decide +kernel
theorem dX10_isName_34 : decode cX10_isName 34 = .ok (.aload_n 0, 1) := by decide +kernel
theorem dX10_isName_35 : decode cX10_isName 35 = .ok (.getfield 22, 3) := by decide +kernel
theorem dX10_isName_38 : decode cX10_isName 38 = .ok (.bipush 6, 2) := by decide +kernel
theorem dX10_isName_40 : decode cX10_isName 40 = .ok (.iadd, 1) := by decide +kernel
theorem dX10_isName_41 : decode cX10_isName 41 = .ok (.invokevirtual 48, 3) := by decide +kernel
theorem dX10_isName_44 : decode cX10_isName 44 = .ok (.ireturn, 1) := by decide +kernel
theorem dX10_isName_45 : decode cX10_isName 45 = .ok (.aload_n 0, 1) := by decide +kernel
theorem dX10_isName_46 : decode cX10_isName 46 = .ok (.lconst 0, 1) := by decide +kernel
theorem dX10_isName_47 : decode cX10_isName 47 = .ok (.putfield 31, 3) := by decide +kernel
theorem dX10_isName_50 : decode cX10_isName 50 = .ok (.aload_n 0, 1) := by decide +kernel
theorem dX10_isName_51 : decode cX10_isName 51 = .ok (.getfield 22, 3) := by decide +kernel
theorem dX10_isName_54 : decode cX10_isName 54 = .ok (.istore_n 1, 1) := by decide +kernel
theorem dX10_isName_55 : decode cX10_isName 55 = .ok (.iload_n 1, 1) := by decide +kernel
theorem dX10_isName_56 : decode cX10_isName 56 = .ok (.aload_n 0, 1) := by decide +kernel
theorem dX10_isName_57 : decode cX10_isName 57 = .ok (.getfield 25, 3) := by decide +kernel
theorem dX10_isName_60 : decode cX10_isName 60 = .ok (.if_icmp .ge 29, 3) := by decide +kernel
theorem dX10_isName_63 : decode cX10_isName 63 = .ok (.aload_n 0, 1) := by decide +kernel
theorem dX10_isName_64 : decode cX10_isName 64 = .ok (.aload_n 0, 1) := by decide +kernel
theorem dX10_isName_65 : decode cX10_isName 65 = .ok (.getfield 31, 3) := by decide +kernel
theorem dX10_isName_68 : decode cX10_isName 68 = .ok (.ldc2_w 59, 3) := by decide +kernel
theorem dX10_isName_71 : decode cX10_isName 71 = .ok (.lmul, 1) := by decide +kernel
theorem dX10_isName_72 : decode cX10_isName 72 = .ok (.aload_n 0, 1) := by decide +kernel
theorem dX10_isName_73 : decode cX10_isName 73 = .ok (.getfield 9, 3) := by decide +kernel
theorem dX10_isName_76 : decode cX10_isName 76 = .ok (.iload_n 1, 1) := by decide +kernel
theorem dX10_isName_77 : decode cX10_isName 77 = .ok (.iaload, 1) := by decide +kernel
theorem dX10_isName_78 : decode cX10_isName 78 = .ok (.i2l, 1) := by decide +kernel
theorem dX10_isName_79 : decode cX10_isName 79 = .ok (.ladd, 1) := by decide +kernel
theorem dX10_isName_80 : decode cX10_isName 80 = .ok (.putfield 31, 3) := by decide +kernel
theorem dX10_isName_83 : decode cX10_isName 83 = .ok (.iinc 1 1, 3) := by decide +kernel
theorem dX10_isName_86 : decode cX10_isName 86 = .ok (.goto (-31), 3) := by decide +kernel
theorem dX10_isName_89 : decode cX10_isName 89 = .ok (.iconst 1, 1) := by decide +kernel
theorem dX10_isName_90 : decode cX10_isName 90 = .ok (.ireturn, 1) := by decide +kernel
theorem dX10_needsSign_0 : decode cX10_needsSign 0 = .ok (.aload_n 0, 1) := by decide +kernel
theorem dX10_needsSign_1 : decode cX10_needsSign 1 = .ok (.invokevirtual 44, 3) := by decide +kernel
theorem dX10_needsSign_4 : decode cX10_needsSign 4 = .ok (.iload_n 1, 1) := by decide +kernel
theorem dX10_needsSign_5 : decode cX10_needsSign 5 = .ok (.if_icmp .eq 13, 3) := by decide +kernel
theorem dX10_needsSign_8 : decode cX10_needsSign 8 = .ok (.aload_n 0, 1) := by decide +kernel
theorem dX10_needsSign_9 : decode cX10_needsSign 9 = .ok (.iconst 1, 1) := by decide +kernel
theorem dX10_needsSign_10 : decode cX10_needsSign 10 = .ok (.aload_n 0, 1) := by decide +kernel
theorem dX10_needsSign_11 : decode cX10_needsSign 11 = .ok (.getfield 19, 3) := by decide +kernel
theorem dX10_needsSign_14 : decode cX10_needsSign 14 = .ok (.invokevirtual 48, 3) := by decide +kernel
theorem dX10_needsSign_17 : decode cX10_needsSign 17 = .ok (.ireturn, 1) := by decide +kernel
theorem dX10_needsSign_18 : decode cX10_needsSign 18 = .ok (.aload_n 0, 1) := by decide +kernel
theorem dX10_needsSign_19 : decode cX10_needsSign 19 = .ok (.dup, 1) := by decide +kernel
theorem dX10_needsSign_20 : decode cX10_needsSign 20 = .ok (.getfield 19, 3) := by decide +kernel
theorem dX10_needsSign_23 : decode cX10_needsSign 23 = .ok (.iconst 1, 1) := by decide +kernel
theorem dX10_needsSign_24 : decode cX10_needsSign 24 = .ok (.iadd, 1) := by decide +kernel
theorem dX10_needsSign_25 : decode cX10_needsSign 25 = .ok (.putfield 19, 3) := by decide +kernel
theorem dX10_needsSign_28 : decode cX10_needsSign 28 = .ok (.iconst 1, 1) := by decide +kernel
theorem dX10_needsSign_29 : decode cX10_needsSign 29 = .ok (.ireturn, 1) := by decide +kernel
theorem dX10_peek_0 : decode cX10_peek 0 = .ok (.aload_n 0, 1) := by decide +kernel
theorem dX10_peek_1 : decode cX10_peek 1 = .ok (.getfield 19, 3) := by decide +kernel
theorem dX10_peek_4 : decode cX10_peek 4 = .ok (.aload_n 0, 1) := by decide +kernel
theorem dX10_peek_5 : decode cX10_peek 5 = .ok (.getfield 15, 3) := by decide +kernel
theorem dX10_peek_8 : decode cX10_peek 8 = .ok (.if_icmp .ge 44, 3) := by decide +kernel
theorem dX10_peek_11 : decode cX10_peek 11 = .ok (.aload_n 0, 1) := by decide +kernel
theorem dX10_peek_12 : decode cX10_peek 12 = .ok (.getfield 9, 3) := by decide +kernel
theorem dX10_peek_15 : decode cX10_peek 15 = .ok (.aload_n 0, 1) := by decide +kernel
theorem dX10_peek_16 : decode cX10_peek 16 = .ok (.getfield 19, 3) := by decide +kernel
theorem dX10_peek_19 : decode cX10_peek 19 = .ok (.iaload, 1) := by decide +kernel
theorem dX10_peek_20 : decode cX10_peek 20 = .ok (.bipush 32, 2) := by decide +kernel
theorem dX10_peek_22 : decode cX10_peek 22 = .ok (.if_icmp .eq 17, 3) := by decide +kernel
theorem dX10_peek_25 : decode cX10_peek 25 = .ok (.aload_n 0, 1) := by decide +kernel
theorem dX10_peek_26 : decode cX10_peek 26 = .ok (.getfield 9, 3) := by decide +kernel
theorem dX10_peek_29 : decode cX10_peek 29 = .ok (.aload_n 0, 1) := by decide +kernel
theorem dX10_peek_30 : decode cX10_peek 30 = .ok (.getfield 19, 3) := by decide +kernel
theorem dX10_peek_33 : decode cX10_peek 33 = .ok (.iaload, 1) := by decide +kernel
theorem dX10_peek_34 : decode cX10_peek 34 = .ok (.bipush 10, 2) := by decide +kernel
theorem dX10_peek_36 : decode cX10_peek 36 = .ok (.if_icmp .ne 16, 3) := by decide +kernel
theorem dX10_peek_39 : decode cX10_peek 39 = .ok (.aload_n 0, 1) := by decide +kernel
theorem dX10_peek_40 : decode cX10_peek 40 = .ok (.dup, 1) := by decide +kernel
theorem dX10_peek_41 : decode cX10_peek 41 = .ok (.getfield 19, 3) := by decide +kernel
theorem dX10_peek_44 : decode cX10_peek 44 = .ok (.iconst 1, 1) := by decide +kernel
theorem dX10_peek_45 : decode cX10_peek 45 = .ok (.iadd, 1) := by decide +kernel
theorem dX10_peek_46 : decode cX10_peek 46 = .ok (.putfield 19, 3) := by decide +kernel
theorem dX10_peek_49 : decode cX10_peek 49 = .ok (.goto (-49), 3) := by decide +kernel
theorem dX10_peek_52 : decode cX10_peek 52 = .ok (.aload_n 0, 1) := by decide +kernel
theorem dX10_peek_53 : decode cX10_peek 53 = .ok (.getfield 19, 3) := by decide +kernel
theorem dX10_peek_56 : decode cX10_peek 56 = .ok (.aload_n 0, 1) := by decide +kernel
theorem dX10_peek_57 : decode cX10_peek 57 = .ok (.getfield 15, 3) := by decide +kernel
theorem dX10_peek_60 : decode cX10_peek 60 = .ok (.if_icmp .ge 15, 3) := by decide +kernel
theorem dX10_peek_63 : decode cX10_peek 63 = .ok (.aload_n 0, 1) := by decide +kernel
theorem dX10_peek_64 : decode cX10_peek 64 = .ok (.getfield 9, 3) := by decide +kernel
theorem dX10_peek_67 : decode cX10_peek 67 = .ok (.aload_n 0, 1) := by decide +kernel
theorem dX10_peek_68 : decode cX10_peek 68 = .ok (.getfield 19, 3) := by decide +kernel
theorem dX10_peek_71 : decode cX10_peek 71 = .ok (.iaload, 1) := by decide +kernel
theorem dX10_peek_72 : decode cX10_peek 72 = .ok (.goto 4, 3) := by decide +kernel
theorem dX10_peek_75 : decode cX10_peek 75 = .ok (.iconst (-1), 1) := by decide +kernel
theorem dX10_peek_76 : decode cX10_peek 76 = .ok (.ireturn, 1) := by decide +kernel
theorem dX10_register_0 : decode cX10_register 0 = .ok (.aload_n 0, 1) := by decide +kernel
theorem dX10_register_1 : decode cX10_register 1 = .ok (.getfield 9, 3) := by decide +kernel
theorem dX10_register_4 : decode cX10_register 4 = .ok (.aload_n 0, 1) := by decide +kernel
theorem dX10_register_5 : decode cX10_register 5 = .ok (.getfield 22, 3) := by decide +kernel
theorem dX10_register_8 : decode cX10_register 8 = .ok (.iaload, 1) := by decide +kernel
theorem dX10_register_9 : decode cX10_register 9 = .ok (.bipush 97, 2) := by decide +kernel
theorem dX10_register_11 : decode cX10_register 11 = .ok (.isub, 1) := by decide +kernel
theorem dX10_register_12 : decode cX10_register 12 = .ok (.istore_n 1, 1) := by decide +kernel
theorem dX10_register_13 : decode cX10_register 13 = .ok (.aload_n 0, 1) := by decide +kernel
theorem dX10_register_14 : decode cX10_register 14 = .ok (.getfield 25, 3) := by decide +kernel
theorem dX10_register_17 : decode cX10_register 17 = .ok (.aload_n 0, 1) := by decide +kernel
theorem dX10_register_18 : decode cX10_register 18 = .ok (.getfield 22, 3) := by decide +kernel
theorem dX10_register_21 : decode cX10_register 21 = .ok (.isub, 1) := by decide +kernel
theorem dX10_register_22 : decode cX10_register 22 = .ok (.iconst 1, 1) := by decide +kernel
theorem dX10_register_23 : decode cX10_register 23 = .ok (.if_icmp .ne 17, 3) := by decide +kernel
theorem dX10_register_26 : decode cX10_register 26 = .ok (.iload_n 1, 1) := by decide +kernel
theorem dX10_register_27 : decode cX10_register 27 = .ok (.ifCond .lt 13, 3) := by decide +kernel
theorem dX10_register_30 : decode cX10_register 30 = .ok (.iload_n 1, 1) := by decide +kernel
theorem dX10_register_31 : decode cX10_register 31 = .ok (.bipush 8, 2) := by decide +kernel
theorem dX10_register_33 : decode cX10_register 33 = .ok (.if_icmp .ge 7, 3) := by decide +kernel
theorem dX10_register_36 : decode cX10_register 36 = .ok (.iload_n 1, 1) := by decide +kernel
theorem dX10_register_37 : decode cX10_register 37 = .ok (.goto 4, 3) := by decide +kernel
theorem dX10_register_40 : decode cX10_register 40 = .ok (.iconst (-1), 1) := by decide +kernel
theorem dX10_register_41 : decode cX10_register 41 = .ok (.ireturn, 1) := by decide +kernel
theorem dX10_rewind_0 : decode cX10_rewind 0 = .ok (.aload_n 0, 1) := by decide +kernel
theorem dX10_rewind_1 : decode cX10_rewind 1 = .ok (.iconst 0, 1) := by decide +kernel
theorem dX10_rewind_2 : decode cX10_rewind 2 = .ok (.putfield 19, 3) := by decide +kernel
theorem dX10_rewind_5 : decode cX10_rewind 5 = .ok (.aload_n 0, 1) := by decide +kernel
theorem dX10_rewind_6 : decode cX10_rewind 6 = .ok (.iconst (-1), 1) := by decide +kernel
theorem dX10_rewind_7 : decode cX10_rewind 7 = .ok (.putfield 25, 3) := by decide +kernel
theorem dX10_rewind_10 : decode cX10_rewind 10 = .ok (.aload_n 0, 1) := by decide +kernel
theorem dX10_rewind_11 : decode cX10_rewind 11 = .ok (.iconst 0, 1) := by decide +kernel
theorem dX10_rewind_12 : decode cX10_rewind 12 = .ok (.putfield 38, 3) := by decide +kernel
theorem dX10_rewind_15 : decode cX10_rewind 15 = .ok (.aload_n 0, 1) := by decide +kernel
theorem dX10_rewind_16 : decode cX10_rewind 16 = .ok (.iconst (-1), 1) := by decide +kernel
theorem dX10_rewind_17 : decode cX10_rewind 17 = .ok (.putfield 41, 3) := by decide +kernel
theorem dX10_rewind_20 : decode cX10_rewind 20 = .ok (.return_, 1) := by decide +kernel
theorem dX10_takesNumber_0 : decode cX10_takesNumber 0 = .ok (.aload_n 0, 1) := by decide +kernel
theorem dX10_takesNumber_1 : decode cX10_takesNumber 1 = .ok (.invokevirtual 44, 3) := by decide +kernel
theorem dX10_takesNumber_4 : decode cX10_takesNumber 4 = .ok (.invokestatic 61, 3) := by decide +kernel
theorem dX10_takesNumber_7 : decode cX10_takesNumber 7 = .ok (.ifCond .eq 14, 3) := by decide +kernel
theorem dX10_takesNumber_10 : decode cX10_takesNumber 10 = .ok (.aload_n 0, 1) := by decide +kernel
theorem dX10_takesNumber_11 : decode cX10_takesNumber 11 = .ok (.getfield 19, 3) := by decide +kernel
theorem dX10_takesNumber_14 : decode cX10_takesNumber 14 = .ok (.aload_n 0, 1) := by decide +kernel
theorem dX10_takesNumber_15 : decode cX10_takesNumber 15 = .ok (.getfield 25, 3) := by decide +kernel
theorem dX10_takesNumber_18 : decode cX10_takesNumber 18 = .ok (.if_icmp .ne 13, 3) := by decide +kernel
theorem dX10_takesNumber_21 : decode cX10_takesNumber 21 = .ok (.aload_n 0, 1) := by decide +kernel
theorem dX10_takesNumber_22 : decode cX10_takesNumber 22 = .ok (.iconst 1, 1) := by decide +kernel
theorem dX10_takesNumber_23 : decode cX10_takesNumber 23 = .ok (.aload_n 0, 1) := by decide +kernel
theorem dX10_takesNumber_24 : decode cX10_takesNumber 24 = .ok (.getfield 19, 3) := by decide +kernel
theorem dX10_takesNumber_27 : decode cX10_takesNumber 27 = .ok (.invokevirtual 48, 3) := by decide +kernel
theorem dX10_takesNumber_30 : decode cX10_takesNumber 30 = .ok (.ireturn, 1) := by decide +kernel
theorem dX10_takesNumber_31 : decode cX10_takesNumber 31 = .ok (.aload_n 0, 1) := by decide +kernel
theorem dX10_takesNumber_32 : decode cX10_takesNumber 32 = .ok (.aload_n 0, 1) := by decide +kernel
theorem dX10_takesNumber_33 : decode cX10_takesNumber 33 = .ok (.getfield 19, 3) := by decide +kernel
theorem dX10_takesNumber_36 : decode cX10_takesNumber 36 = .ok (.putfield 22, 3) := by decide +kernel
theorem dX10_takesNumber_39 : decode cX10_takesNumber 39 = .ok (.aload_n 0, 1) := by decide +kernel
theorem dX10_takesNumber_40 : decode cX10_takesNumber 40 = .ok (.iconst 0, 1) := by decide +kernel
theorem dX10_takesNumber_41 : decode cX10_takesNumber 41 = .ok (.putfield 35, 3) := by decide +kernel
theorem dX10_takesNumber_44 : decode cX10_takesNumber 44 = .ok (.aload_n 0, 1) := by decide +kernel
theorem dX10_takesNumber_45 : decode cX10_takesNumber 45 = .ok (.getfield 19, 3) := by decide +kernel
theorem dX10_takesNumber_48 : decode cX10_takesNumber 48 = .ok (.aload_n 0, 1) := by decide +kernel
theorem dX10_takesNumber_49 : decode cX10_takesNumber 49 = .ok (.getfield 15, 3) := by decide +kernel
theorem dX10_takesNumber_52 : decode cX10_takesNumber 52 = .ok (.if_icmp .ge 68, 3) := by decide +kernel
theorem dX10_takesNumber_55 : decode cX10_takesNumber 55 = .ok (.aload_n 0, 1) := by decide +kernel
theorem dX10_takesNumber_56 : decode cX10_takesNumber 56 = .ok (.getfield 19, 3) := by decide +kernel
theorem dX10_takesNumber_59 : decode cX10_takesNumber 59 = .ok (.aload_n 0, 1) := by decide +kernel
theorem dX10_takesNumber_60 : decode cX10_takesNumber 60 = .ok (.getfield 22, 3) := by decide +kernel
theorem dX10_takesNumber_63 : decode cX10_takesNumber 63 = .ok (.iconst 3, 1) := by decide +kernel
theorem dX10_takesNumber_64 : decode cX10_takesNumber 64 = .ok (.iadd, 1) := by decide +kernel
theorem dX10_takesNumber_65 : decode cX10_takesNumber 65 = .ok (.if_icmp .ge 55, 3) := by decide +kernel
theorem dX10_takesNumber_68 : decode cX10_takesNumber 68 = .ok (.aload_n 0, 1) := by decide +kernel
theorem dX10_takesNumber_69 : decode cX10_takesNumber 69 = .ok (.getfield 9, 3) := by decide +kernel
theorem dX10_takesNumber_72 : decode cX10_takesNumber 72 = .ok (.aload_n 0, 1) := by decide +kernel
theorem dX10_takesNumber_73 : decode cX10_takesNumber 73 = .ok (.getfield 19, 3) := by decide +kernel
theorem dX10_takesNumber_76 : decode cX10_takesNumber 76 = .ok (.iaload, 1) := by decide +kernel
theorem dX10_takesNumber_77 : decode cX10_takesNumber 77 = .ok (.invokestatic 61, 3) := by decide +kernel
theorem dX10_takesNumber_80 : decode cX10_takesNumber 80 = .ok (.ifCond .eq 40, 3) := by decide +kernel
theorem dX10_takesNumber_83 : decode cX10_takesNumber 83 = .ok (.aload_n 0, 1) := by decide +kernel
theorem dX10_takesNumber_84 : decode cX10_takesNumber 84 = .ok (.aload_n 0, 1) := by decide +kernel
theorem dX10_takesNumber_85 : decode cX10_takesNumber 85 = .ok (.getfield 35, 3) := by decide +kernel
theorem dX10_takesNumber_88 : decode cX10_takesNumber 88 = .ok (.bipush 10, 2) := by decide +kernel
theorem dX10_takesNumber_90 : decode cX10_takesNumber 90 = .ok (.imul, 1) := by decide +kernel
theorem dX10_takesNumber_91 : decode cX10_takesNumber 91 = .ok (.aload_n 0, 1) := by decide +kernel
theorem dX10_takesNumber_92 : decode cX10_takesNumber 92 = .ok (.getfield 9, 3) := by decide +kernel
theorem dX10_takesNumber_95 : decode cX10_takesNumber 95 = .ok (.aload_n 0, 1) := by decide +kernel
theorem dX10_takesNumber_96 : decode cX10_takesNumber 96 = .ok (.getfield 19, 3) := by decide +kernel
theorem dX10_takesNumber_99 : decode cX10_takesNumber 99 = .ok (.iaload, 1) := by decide +kernel
theorem dX10_takesNumber_100 : decode cX10_takesNumber 100 = .ok (.iadd, 1) := by decide +kernel
theorem dX10_takesNumber_101 : decode cX10_takesNumber 101 = .ok (.bipush 48, 2) := by decide +kernel
theorem dX10_takesNumber_103 : decode cX10_takesNumber 103 = .ok (.isub, 1) := by decide +kernel
theorem dX10_takesNumber_104 : decode cX10_takesNumber 104 = .ok (.putfield 35, 3) := by decide +kernel
theorem dX10_takesNumber_107 : decode cX10_takesNumber 107 = .ok (.aload_n 0, 1) := by decide +kernel
theorem dX10_takesNumber_108 : decode cX10_takesNumber 108 = .ok (.dup, 1) := by decide +kernel
theorem dX10_takesNumber_109 : decode cX10_takesNumber 109 = .ok (.getfield 19, 3) := by decide +kernel
theorem dX10_takesNumber_112 : decode cX10_takesNumber 112 = .ok (.iconst 1, 1) := by decide +kernel
theorem dX10_takesNumber_113 : decode cX10_takesNumber 113 = .ok (.iadd, 1) := by decide +kernel
theorem dX10_takesNumber_114 : decode cX10_takesNumber 114 = .ok (.putfield 19, 3) := by decide +kernel
theorem dX10_takesNumber_117 : decode cX10_takesNumber 117 = .ok (.goto (-73), 3) := by decide +kernel
theorem dX10_takesNumber_120 : decode cX10_takesNumber 120 = .ok (.aload_n 0, 1) := by decide +kernel
theorem dX10_takesNumber_121 : decode cX10_takesNumber 121 = .ok (.aload_n 0, 1) := by decide +kernel
theorem dX10_takesNumber_122 : decode cX10_takesNumber 122 = .ok (.getfield 19, 3) := by decide +kernel
theorem dX10_takesNumber_125 : decode cX10_takesNumber 125 = .ok (.putfield 25, 3) := by decide +kernel
theorem dX10_takesNumber_128 : decode cX10_takesNumber 128 = .ok (.aload_n 0, 1) := by decide +kernel
theorem dX10_takesNumber_129 : decode cX10_takesNumber 129 = .ok (.getfield 19, 3) := by decide +kernel
theorem dX10_takesNumber_132 : decode cX10_takesNumber 132 = .ok (.aload_n 0, 1) := by decide +kernel
theorem dX10_takesNumber_133 : decode cX10_takesNumber 133 = .ok (.getfield 15, 3) := by decide +kernel
theorem dX10_takesNumber_136 : decode cX10_takesNumber 136 = .ok (.if_icmp .ge 28, 3) := by decide +kernel
theorem dX10_takesNumber_139 : decode cX10_takesNumber 139 = .ok (.aload_n 0, 1) := by decide +kernel
theorem dX10_takesNumber_140 : decode cX10_takesNumber 140 = .ok (.getfield 9, 3) := by decide +kernel
theorem dX10_takesNumber_143 : decode cX10_takesNumber 143 = .ok (.aload_n 0, 1) := by decide +kernel
theorem dX10_takesNumber_144 : decode cX10_takesNumber 144 = .ok (.getfield 19, 3) := by decide +kernel
theorem dX10_takesNumber_147 : decode cX10_takesNumber 147 = .ok (.iaload, 1) := by decide +kernel
theorem dX10_takesNumber_148 : decode cX10_takesNumber 148 = .ok (.invokestatic 61, 3) := by decide +kernel
theorem dX10_takesNumber_151 : decode cX10_takesNumber 151 = .ok (.ifCond .eq 13, 3) := by decide +kernel
theorem dX10_takesNumber_154 : decode cX10_takesNumber 154 = .ok (.aload_n 0, 1) := by decide +kernel
theorem dX10_takesNumber_155 : decode cX10_takesNumber 155 = .ok (.iconst 1, 1) := by decide +kernel
theorem dX10_takesNumber_156 : decode cX10_takesNumber 156 = .ok (.aload_n 0, 1) := by decide +kernel
theorem dX10_takesNumber_157 : decode cX10_takesNumber 157 = .ok (.getfield 19, 3) := by decide +kernel
theorem dX10_takesNumber_160 : decode cX10_takesNumber 160 = .ok (.invokevirtual 48, 3) := by decide +kernel
theorem dX10_takesNumber_163 : decode cX10_takesNumber 163 = .ok (.ireturn, 1) := by decide +kernel
theorem dX10_takesNumber_164 : decode cX10_takesNumber 164 = .ok (.aload_n 0, 1) := by decide +kernel
theorem dX10_takesNumber_165 : decode cX10_takesNumber 165 = .ok (.getfield 35, 3) := by decide +kernel
theorem dX10_takesNumber_168 : decode cX10_takesNumber 168 = .ok (.iload_n 1, 1) := by decide +kernel
theorem dX10_takesNumber_169 : decode cX10_takesNumber 169 = .ok (.if_icmp .lt 11, 3) := by decide +kernel
theorem dX10_takesNumber_172 : decode cX10_takesNumber 172 = .ok (.aload_n 0, 1) := by decide +kernel
theorem dX10_takesNumber_173 : decode cX10_takesNumber 173 = .ok (.getfield 35, 3) := by decide +kernel
theorem dX10_takesNumber_176 : decode cX10_takesNumber 176 = .ok (.iload_n 2, 1) := by decide +kernel
theorem dX10_takesNumber_177 : decode cX10_takesNumber 177 = .ok (.if_icmp .le 15, 3) := by decide +kernel
theorem dX10_takesNumber_180 : decode cX10_takesNumber 180 = .ok (.aload_n 0, 1) := by decide +kernel
theorem dX10_takesNumber_181 : decode cX10_takesNumber 181 = .ok (.iconst 2, 1) := by decide +kernel
theorem dX10_takesNumber_182 : decode cX10_takesNumber 182 = .ok (.aload_n 0, 1) := by decide +kernel
theorem dX10_takesNumber_183 : decode cX10_takesNumber 183 = .ok (.getfield 22, 3) := by decide +kernel
theorem dX10_takesNumber_186 : decode cX10_takesNumber 186 = .ok (.invokevirtual 48, 3) := by decide +kernel
theorem dX10_takesNumber_189 : decode cX10_takesNumber 189 = .ok (.ifCond .eq 7, 3) := by decide +kernel
theorem dX10_takesNumber_192 : decode cX10_takesNumber 192 = .ok (.iconst 1, 1) := by decide +kernel
theorem dX10_takesNumber_193 : decode cX10_takesNumber 193 = .ok (.goto 4, 3) := by decide +kernel
theorem dX10_takesNumber_196 : decode cX10_takesNumber 196 = .ok (.iconst 0, 1) := by decide +kernel
theorem dX10_takesNumber_197 : decode cX10_takesNumber 197 = .ok (.ireturn, 1) := by decide +kernel
theorem dX10_takesSign_0 : decode cX10_takesSign 0 = .ok (.aload_n 0, 1) := by decide +kernel
theorem dX10_takesSign_1 : decode cX10_takesSign 1 = .ok (.invokevirtual 44, 3) := by decide +kernel
theorem dX10_takesSign_4 : decode cX10_takesSign 4 = .ok (.iload_n 1, 1) := by decide +kernel
theorem dX10_takesSign_5 : decode cX10_takesSign 5 = .ok (.if_icmp .eq 5, 3) := by decide +kernel
theorem dX10_takesSign_8 : decode cX10_takesSign 8 = .ok (.iconst 0, 1) := by decide +kernel
theorem dX10_takesSign_9 : decode cX10_takesSign 9 = .ok (.ireturn, 1) := by decide +kernel
theorem dX10_takesSign_10 : decode cX10_takesSign 10 = .ok (.aload_n 0, 1) := by decide +kernel
theorem dX10_takesSign_11 : decode cX10_takesSign 11 = .ok (.dup, 1) := by decide +kernel
theorem dX10_takesSign_12 : decode cX10_takesSign 12 = .ok (.getfield 19, 3) := by decide +kernel
theorem dX10_takesSign_15 : decode cX10_takesSign 15 = .ok (.iconst 1, 1) := by decide +kernel
theorem dX10_takesSign_16 : decode cX10_takesSign 16 = .ok (.iadd, 1) := by decide +kernel
theorem dX10_takesSign_17 : decode cX10_takesSign 17 = .ok (.putfield 19, 3) := by decide +kernel
theorem dX10_takesSign_20 : decode cX10_takesSign 20 = .ok (.iconst 1, 1) := by decide +kernel
theorem dX10_takesSign_21 : decode cX10_takesSign 21 = .ok (.ireturn, 1) := by decide +kernel
theorem dX10_takesWord_0 : decode cX10_takesWord 0 = .ok (.aload_n 0, 1) := by decide +kernel
theorem dX10_takesWord_1 : decode cX10_takesWord 1 = .ok (.invokevirtual 44, 3) := by decide +kernel
theorem dX10_takesWord_4 : decode cX10_takesWord 4 = .ok (.invokestatic 52, 3) := by decide +kernel
theorem dX10_takesWord_7 : decode cX10_takesWord 7 = .ok (.ifCond .eq 14, 3) := by decide +kernel
theorem dX10_takesWord_10 : decode cX10_takesWord 10 = .ok (.aload_n 0, 1) := by decide +kernel
theorem dX10_takesWord_11 : decode cX10_takesWord 11 = .ok (.getfield 19, 3) := by decide +kernel
theorem dX10_takesWord_14 : decode cX10_takesWord 14 = .ok (.aload_n 0, 1) := by decide +kernel
theorem dX10_takesWord_15 : decode cX10_takesWord 15 = .ok (.getfield 25, 3) := by decide +kernel
theorem dX10_takesWord_18 : decode cX10_takesWord 18 = .ok (.if_icmp .ne 13, 3) := by decide +kernel
theorem dX10_takesWord_21 : decode cX10_takesWord 21 = .ok (.aload_n 0, 1) := by decide +kernel
theorem dX10_takesWord_22 : decode cX10_takesWord 22 = .ok (.iconst 1, 1) := by decide +kernel
theorem dX10_takesWord_23 : decode cX10_takesWord 23 = .ok (.aload_n 0, 1) := by decide +kernel
theorem dX10_takesWord_24 : decode cX10_takesWord 24 = .ok (.getfield 19, 3) := by decide +kernel
theorem dX10_takesWord_27 : decode cX10_takesWord 27 = .ok (.invokevirtual 48, 3) := by decide +kernel
theorem dX10_takesWord_30 : decode cX10_takesWord 30 = .ok (.ireturn, 1) := by decide +kernel
theorem dX10_takesWord_31 : decode cX10_takesWord 31 = .ok (.aload_n 0, 1) := by decide +kernel
theorem dX10_takesWord_32 : decode cX10_takesWord 32 = .ok (.aload_n 0, 1) := by decide +kernel
theorem dX10_takesWord_33 : decode cX10_takesWord 33 = .ok (.getfield 19, 3) := by decide +kernel
theorem dX10_takesWord_36 : decode cX10_takesWord 36 = .ok (.putfield 22, 3) := by decide +kernel
theorem dX10_takesWord_39 : decode cX10_takesWord 39 = .ok (.aload_n 0, 1) := by decide +kernel
theorem dX10_takesWord_40 : decode cX10_takesWord 40 = .ok (.getfield 19, 3) := by decide +kernel
theorem dX10_takesWord_43 : decode cX10_takesWord 43 = .ok (.aload_n 0, 1) := by decide +kernel
theorem dX10_takesWord_44 : decode cX10_takesWord 44 = .ok (.getfield 15, 3) := by decide +kernel
theorem dX10_takesWord_47 : decode cX10_takesWord 47 = .ok (.if_icmp .ge 31, 3) := by decide +kernel
theorem dX10_takesWord_50 : decode cX10_takesWord 50 = .ok (.aload_n 0, 1) := by decide +kernel
theorem dX10_takesWord_51 : decode cX10_takesWord 51 = .ok (.getfield 9, 3) := by decide +kernel
theorem dX10_takesWord_54 : decode cX10_takesWord 54 = .ok (.aload_n 0, 1) := by decide +kernel
theorem dX10_takesWord_55 : decode cX10_takesWord 55 = .ok (.getfield 19, 3) := by decide +kernel
theorem dX10_takesWord_58 : decode cX10_takesWord 58 = .ok (.iaload, 1) := by decide +kernel
theorem dX10_takesWord_59 : decode cX10_takesWord 59 = .ok (.invokestatic 52, 3) := by decide +kernel
theorem dX10_takesWord_62 : decode cX10_takesWord 62 = .ok (.ifCond .eq 16, 3) := by decide +kernel
theorem dX10_takesWord_65 : decode cX10_takesWord 65 = .ok (.aload_n 0, 1) := by decide +kernel
theorem dX10_takesWord_66 : decode cX10_takesWord 66 = .ok (.dup, 1) := by decide +kernel
theorem dX10_takesWord_67 : decode cX10_takesWord 67 = .ok (.getfield 19, 3) := by decide +kernel
theorem dX10_takesWord_70 : decode cX10_takesWord 70 = .ok (.iconst 1, 1) := by decide +kernel
theorem dX10_takesWord_71 : decode cX10_takesWord 71 = .ok (.iadd, 1) := by decide +kernel
theorem dX10_takesWord_72 : decode cX10_takesWord 72 = .ok (.putfield 19, 3) := by decide +kernel
theorem dX10_takesWord_75 : decode cX10_takesWord 75 = .ok (.goto (-36), 3) := by decide +kernel
theorem dX10_takesWord_78 : decode cX10_takesWord 78 = .ok (.aload_n 0, 1) := by decide +kernel
theorem dX10_takesWord_79 : decode cX10_takesWord 79 = .ok (.aload_n 0, 1) := by decide +kernel
theorem dX10_takesWord_80 : decode cX10_takesWord 80 = .ok (.getfield 19, 3) := by decide +kernel
theorem dX10_takesWord_83 : decode cX10_takesWord 83 = .ok (.putfield 25, 3) := by decide +kernel
theorem dX10_takesWord_86 : decode cX10_takesWord 86 = .ok (.aload_n 0, 1) := by decide +kernel
theorem dX10_takesWord_87 : decode cX10_takesWord 87 = .ok (.aload_n 0, 1) := by decide +kernel
theorem dX10_takesWord_88 : decode cX10_takesWord 88 = .ok (.invokevirtual 56, 3) := by decide +kernel
theorem dX10_takesWord_91 : decode cX10_takesWord 91 = .ok (.putfield 28, 3) := by decide +kernel
theorem dX10_takesWord_94 : decode cX10_takesWord 94 = .ok (.iconst 1, 1) := by decide +kernel
theorem dX10_takesWord_95 : decode cX10_takesWord 95 = .ok (.ireturn, 1) := by decide +kernel
theorem dX10_whichOwnWord_0 : decode cX10_whichOwnWord 0 = .ok (.aload_n 0, 1) := by decide +kernel
theorem dX10_whichOwnWord_1 : decode cX10_whichOwnWord 1 = .ok (.getfield 25, 3) := by decide +kernel
theorem dX10_whichOwnWord_4 : decode cX10_whichOwnWord 4 = .ok (.aload_n 0, 1) := by decide +kernel
theorem dX10_whichOwnWord_5 : decode cX10_whichOwnWord 5 = .ok (.getfield 22, 3) := by decide +kernel
theorem dX10_whichOwnWord_8 : decode cX10_whichOwnWord 8 = .ok (.isub, 1) := by decide +kernel
theorem dX10_whichOwnWord_9 : decode cX10_whichOwnWord 9 = .ok (.istore_n 1, 1) := by decide +kernel
theorem dX10_whichOwnWord_10 : decode cX10_whichOwnWord 10 = .ok (.iconst 0, 1) := by decide +kernel
theorem dX10_whichOwnWord_11 : decode cX10_whichOwnWord 11 = .ok (.istore_n 2, 1) := by decide +kernel
theorem dX10_whichOwnWord_12 : decode cX10_whichOwnWord 12 = .ok (.iconst 0, 1) := by decide +kernel
theorem dX10_whichOwnWord_13 : decode cX10_whichOwnWord 13 = .ok (.istore_n 3, 1) := by decide +kernel
theorem dX10_whichOwnWord_14 : decode cX10_whichOwnWord 14 = .ok (.iconst 1, 1) := by decide +kernel
theorem dX10_whichOwnWord_15 : decode cX10_whichOwnWord 15 = .ok (.istore 4, 2) := by decide +kernel
theorem dX10_whichOwnWord_17 : decode cX10_whichOwnWord 17 = .ok (.iconst 0, 1) := by decide +kernel
theorem dX10_whichOwnWord_18 : decode cX10_whichOwnWord 18 = .ok (.istore 5, 2) := by decide +kernel
theorem dX10_whichOwnWord_20 : decode cX10_whichOwnWord 20 = .ok (.iload 5, 2) := by decide +kernel
theorem dX10_whichOwnWord_22 : decode cX10_whichOwnWord 22 = .ok (.ldc 64, 2) := by decide +kernel
theorem dX10_whichOwnWord_24 : decode cX10_whichOwnWord 24 = .ok (.invokevirtual 66, 3) := by decide +kernel
theorem dX10_whichOwnWord_27 : decode cX10_whichOwnWord 27 = .ok (.if_icmp .ge 84, 3) := by decide +kernel
theorem dX10_whichOwnWord_30 : decode cX10_whichOwnWord 30 = .ok (.ldc 64, 2) := by decide +kernel
theorem dX10_whichOwnWord_32 : decode cX10_whichOwnWord 32 = .ok (.iload 5, 2) := by decide +kernel
theorem dX10_whichOwnWord_34 : decode cX10_whichOwnWord 34 = .ok (.invokevirtual 70, 3) := by decide +kernel
theorem dX10_whichOwnWord_37 : decode cX10_whichOwnWord 37 = .ok (.istore 6, 2) := by decide +kernel
theorem dX10_whichOwnWord_39 : decode cX10_whichOwnWord 39 = .ok (.iload 6, 2) := by decide +kernel
theorem dX10_whichOwnWord_41 : decode cX10_whichOwnWord 41 = .ok (.bipush 32, 2) := by decide +kernel
theorem dX10_whichOwnWord_43 : decode cX10_whichOwnWord 43 = .ok (.if_icmp .ne 26, 3) := by decide +kernel
theorem dX10_whichOwnWord_46 : decode cX10_whichOwnWord 46 = .ok (.iload 4, 2) := by decide +kernel
theorem dX10_whichOwnWord_48 : decode cX10_whichOwnWord 48 = .ok (.ifCond .eq 10, 3) := by decide +kernel
theorem dX10_whichOwnWord_51 : decode cX10_whichOwnWord 51 = .ok (.iload_n 3, 1) := by decide +kernel
theorem dX10_whichOwnWord_52 : decode cX10_whichOwnWord 52 = .ok (.iload_n 1, 1) := by decide +kernel
theorem dX10_whichOwnWord_53 : decode cX10_whichOwnWord 53 = .ok (.if_icmp .ne 5, 3) := by decide +kernel
theorem dX10_whichOwnWord_56 : decode cX10_whichOwnWord 56 = .ok (.iload_n 2, 1) := by decide +kernel
theorem dX10_whichOwnWord_57 : decode cX10_whichOwnWord 57 = .ok (.ireturn, 1) := by decide +kernel
theorem dX10_whichOwnWord_58 : decode cX10_whichOwnWord 58 = .ok (.iinc 2 1, 3) := by decide +kernel
theorem dX10_whichOwnWord_61 : decode cX10_whichOwnWord 61 = .ok (.iconst 0, 1) := by decide +kernel
theorem dX10_whichOwnWord_62 : decode cX10_whichOwnWord 62 = .ok (.istore_n 3, 1) := by decide +kernel
theorem dX10_whichOwnWord_63 : decode cX10_whichOwnWord 63 = .ok (.iconst 1, 1) := by decide +kernel
theorem dX10_whichOwnWord_64 : decode cX10_whichOwnWord 64 = .ok (.istore 4, 2) := by decide +kernel
theorem dX10_whichOwnWord_66 : decode cX10_whichOwnWord 66 = .ok (.goto 39, 3) := by decide +kernel
theorem dX10_whichOwnWord_69 : decode cX10_whichOwnWord 69 = .ok (.iload 4, 2) := by decide +kernel
theorem dX10_whichOwnWord_71 : decode cX10_whichOwnWord 71 = .ok (.ifCond .eq 28, 3) := by decide +kernel
theorem dX10_whichOwnWord_74 : decode cX10_whichOwnWord 74 = .ok (.iload_n 3, 1) := by decide +kernel
theorem dX10_whichOwnWord_75 : decode cX10_whichOwnWord 75 = .ok (.iload_n 1, 1) := by decide +kernel
theorem dX10_whichOwnWord_76 : decode cX10_whichOwnWord 76 = .ok (.if_icmp .ge 23, 3) := by decide +kernel
theorem dX10_whichOwnWord_79 : decode cX10_whichOwnWord 79 = .ok (.aload_n 0, 1) := by decide +kernel
theorem dX10_whichOwnWord_80 : decode cX10_whichOwnWord 80 = .ok (.getfield 9, 3) := by decide +kernel
theorem dX10_whichOwnWord_83 : decode cX10_whichOwnWord 83 = .ok (.aload_n 0, 1) := by decide +kernel
theorem dX10_whichOwnWord_84 : decode cX10_whichOwnWord 84 = .ok (.getfield 22, 3) := by decide +kernel
theorem dX10_whichOwnWord_87 : decode cX10_whichOwnWord 87 = .ok (.iload_n 3, 1) := by decide +kernel
theorem dX10_whichOwnWord_88 : decode cX10_whichOwnWord 88 = .ok (.iadd, 1) := by decide +kernel
theorem dX10_whichOwnWord_89 : decode cX10_whichOwnWord 89 = .ok (.iaload, 1) := by decide +kernel
theorem dX10_whichOwnWord_90 : decode cX10_whichOwnWord 90 = .ok (.iload 6, 2) := by decide +kernel
theorem dX10_whichOwnWord_92 : decode cX10_whichOwnWord 92 = .ok (.if_icmp .ne 7, 3) := by decide +kernel
theorem dX10_whichOwnWord_95 : decode cX10_whichOwnWord 95 = .ok (.iconst 1, 1) := by decide +kernel
theorem dX10_whichOwnWord_96 : decode cX10_whichOwnWord 96 = .ok (.goto 4, 3) := by decide +kernel
theorem dX10_whichOwnWord_99 : decode cX10_whichOwnWord 99 = .ok (.iconst 0, 1) := by decide +kernel
theorem dX10_whichOwnWord_100 : decode cX10_whichOwnWord 100 = .ok (.istore 4, 2) := by decide +kernel
theorem dX10_whichOwnWord_102 : decode cX10_whichOwnWord 102 = .ok (.iinc 3 1, 3) := by decide +kernel
theorem dX10_whichOwnWord_105 : decode cX10_whichOwnWord 105 = .ok (.iinc 5 1, 3) := by decide +kernel
theorem dX10_whichOwnWord_108 : decode cX10_whichOwnWord 108 = .ok (.goto (-88), 3) := by decide +kernel
theorem dX10_whichOwnWord_111 : decode cX10_whichOwnWord 111 = .ok (.iconst (-1), 1) := by decide +kernel
theorem dX10_whichOwnWord_112 : decode cX10_whichOwnWord 112 = .ok (.ireturn, 1) := by decide +kernel
theorem dX10_wrong_0 : decode cX10_wrong 0 = .ok (.aload_n 0, 1) := by decide +kernel
theorem dX10_wrong_1 : decode cX10_wrong 1 = .ok (.iload_n 1, 1) := by decide +kernel
theorem dX10_wrong_2 : decode cX10_wrong 2 = .ok (.putfield 38, 3) := by decide +kernel
theorem dX10_wrong_5 : decode cX10_wrong 5 = .ok (.aload_n 0, 1) := by decide +kernel
theorem dX10_wrong_6 : decode cX10_wrong 6 = .ok (.iload_n 2, 1) := by decide +kernel
theorem dX10_wrong_7 : decode cX10_wrong 7 = .ok (.putfield 41, 3) := by decide +kernel
theorem dX10_wrong_10 : decode cX10_wrong 10 = .ok (.iconst 0, 1) := by decide +kernel
theorem dX10_wrong_11 : decode cX10_wrong 11 = .ok (.ireturn, 1) := by decide +kernel
theorem dX11_alike_0 : decode cX11_alike 0 = .ok (.aload_n 0, 1) := by decide +kernel
theorem dX11_alike_1 : decode cX11_alike 1 = .ok (.invokevirtual 224, 3) := by decide +kernel
theorem dX11_alike_4 : decode cX11_alike 4 = .ok (.ifCond .eq 11, 3) := by decide +kernel
theorem dX11_alike_7 : decode cX11_alike 7 = .ok (.aload_n 0, 1) := by decide +kernel
theorem dX11_alike_8 : decode cX11_alike 8 = .ok (.getfield 124, 3) := by decide +kernel
theorem dX11_alike_11 : decode cX11_alike 11 = .ok (.iconst (-1), 1) := by decide +kernel
theorem dX11_alike_12 : decode cX11_alike 12 = .ok (.if_icmp .ne 5, 3) := by decide +kernel
theorem dX11_alike_15 : decode cX11_alike 15 = .ok (.iconst (-1), 1) := by decide +kernel
theorem dX11_alike_16 : decode cX11_alike 16 = .ok (.ireturn, 1) := by decide +kernel
theorem dX11_alike_17 : decode cX11_alike 17 = .ok (.aload_n 0, 1) := by decide +kernel
theorem dX11_alike_18 : decode cX11_alike 18 = .ok (.getfield 41, 3) := by decide +kernel
theorem dX11_alike_21 : decode cX11_alike 21 = .ok (.aload_n 0, 1) := by decide +kernel
theorem dX11_alike_22 : decode cX11_alike 22 = .ok (.getfield 29, 3) := by decide +kernel
theorem dX11_alike_25 : decode cX11_alike 25 = .ok (.iconst (-1), 1) := by decide +kernel
theorem dX11_alike_26 : decode cX11_alike 26 = .ok (.iconst (-1), 1) := by decide +kernel
theorem dX11_alike_27 : decode cX11_alike 27 = .ok (.invokevirtual 277, 3) := by decide +kernel
theorem dX11_alike_30 : decode cX11_alike 30 = .ok (.aload_n 0, 1) := by decide +kernel
theorem dX11_alike_31 : decode cX11_alike 31 = .ok (.getfield 41, 3) := by decide +kernel
theorem dX11_alike_34 : decode cX11_alike 34 = .ok (.aload_n 0, 1) := by decide +kernel
theorem dX11_alike_35 : decode cX11_alike 35 = .ok (.getfield 29, 3) := by decide +kernel
theorem dX11_alike_38 : decode cX11_alike 38 = .ok (.aload_n 0, 1) := by decide +kernel
theorem dX11_alike_39 : decode cX11_alike 39 = .ok (.getfield 127, 3) := by decide +kernel
theorem dX11_alike_42 : decode cX11_alike 42 = .ok (.invokevirtual 316, 3) := by decide +kernel
theorem dX11_alike_45 : decode cX11_alike 45 = .ok (.aload_n 0, 1) := by decide +kernel
theorem dX11_alike_46 : decode cX11_alike 46 = .ok (.getfield 124, 3) := by decide +kernel
theorem dX11_alike_49 : decode cX11_alike 49 = .ok (.if_icmp .eq 5, 3) := by decide +kernel
theorem dX11_alike_52 : decode cX11_alike 52 = .ok (.iconst 0, 1) := by decide +kernel
theorem dX11_alike_53 : decode cX11_alike 53 = .ok (.ireturn, 1) := by decide +kernel
theorem dX11_alike_54 : decode cX11_alike 54 = .ok (.iconst 0, 1) := by decide +kernel
theorem dX11_alike_55 : decode cX11_alike 55 = .ok (.istore_n 1, 1) := by decide +kernel
theorem dX11_alike_56 : decode cX11_alike 56 = .ok (.iload_n 1, 1) := by decide +kernel
theorem dX11_alike_57 : decode cX11_alike 57 = .ok (.aload_n 0, 1) := by decide +kernel
theorem dX11_alike_58 : decode cX11_alike 58 = .ok (.getfield 124, 3) := by decide +kernel
theorem dX11_alike_61 : decode cX11_alike 61 = .ok (.if_icmp .ge 26, 3) := by decide +kernel
theorem dX11_alike_64 : decode cX11_alike 64 = .ok (.aload_n 0, 1) := by decide +kernel
theorem dX11_alike_65 : decode cX11_alike 65 = .ok (.getfield 127, 3) := by decide +kernel
theorem dX11_alike_68 : decode cX11_alike 68 = .ok (.iload_n 1, 1) := by decide +kernel
theorem dX11_alike_69 : decode cX11_alike 69 = .ok (.iaload, 1) := by decide +kernel
theorem dX11_alike_70 : decode cX11_alike 70 = .ok (.aload_n 0, 1) := by decide +kernel
theorem dX11_alike_71 : decode cX11_alike 71 = .ok (.getfield 121, 3) := by decide +kernel
theorem dX11_alike_74 : decode cX11_alike 74 = .ok (.iload_n 1, 1) := by decide +kernel
theorem dX11_alike_75 : decode cX11_alike 75 = .ok (.iaload, 1) := by decide +kernel
theorem dX11_alike_76 : decode cX11_alike 76 = .ok (.if_icmp .eq 5, 3) := by decide +kernel
theorem dX11_alike_79 : decode cX11_alike 79 = .ok (.iconst 0, 1) := by decide +kernel
theorem dX11_alike_80 : decode cX11_alike 80 = .ok (.ireturn, 1) := by decide +kernel
theorem dX11_alike_81 : decode cX11_alike 81 = .ok (.iinc 1 1, 3) := by decide +kernel
theorem dX11_alike_84 : decode cX11_alike 84 = .ok (.goto (-28), 3) := by decide +kernel
theorem dX11_alike_87 : decode cX11_alike 87 = .ok (.iconst 1, 1) := by decide +kernel
theorem dX11_alike_88 : decode cX11_alike 88 = .ok (.ireturn, 1) := by decide +kernel
theorem dX11_begin_0 : decode cX11_begin 0 = .ok (.aload_n 0, 1) := by decide +kernel
theorem dX11_begin_1 : decode cX11_begin 1 = .ok (.invokevirtual 224, 3) := by decide +kernel
theorem dX11_begin_4 : decode cX11_begin 4 = .ok (.ifCond .ne 9, 3) := by decide +kernel
theorem dX11_begin_7 : decode cX11_begin 7 = .ok (.aload_n 0, 1) := by decide +kernel
theorem dX11_begin_8 : decode cX11_begin 8 = .ok (.iconst 3, 1) := by decide +kernel
theorem dX11_begin_9 : decode cX11_begin 9 = .ok (.invokevirtual 133, 3) := by decide +kernel
theorem dX11_begin_12 : decode cX11_begin 12 = .ok (.ireturn, 1) := by decide +kernel
theorem dX11_begin_13 : decode cX11_begin 13 = .ok (.aload_n 0, 1) := by decide +kernel
theorem dX11_begin_14 : decode cX11_begin 14 = .ok (.invokevirtual 346, 3) := by decide +kernel
theorem dX11_begin_17 : decode cX11_begin 17 = .ok (.aload_n 0, 1) := by decide +kernel
theorem dX11_begin_18 : decode cX11_begin 18 = .ok (.getfield 50, 3) := by decide +kernel
theorem dX11_begin_21 : decode cX11_begin 21 = .ok (.aload_n 0, 1) := by decide +kernel
theorem dX11_begin_22 : decode cX11_begin 22 = .ok (.getfield 29, 3) := by decide +kernel
theorem dX11_begin_25 : decode cX11_begin 25 = .ok (.invokevirtual 243, 3) := by decide +kernel
theorem dX11_begin_28 : decode cX11_begin 28 = .ok (.aload_n 0, 1) := by decide +kernel
theorem dX11_begin_29 : decode cX11_begin 29 = .ok (.getfield 29, 3) := by decide +kernel
theorem dX11_begin_32 : decode cX11_begin 32 = .ok (.iconst 1, 1) := by decide +kernel
theorem dX11_begin_33 : decode cX11_begin 33 = .ok (.putfield 176, 3) := by decide +kernel
theorem dX11_begin_36 : decode cX11_begin 36 = .ok (.aload_n 0, 1) := by decide +kernel
theorem dX11_begin_37 : decode cX11_begin 37 = .ok (.getfield 50, 3) := by decide +kernel
theorem dX11_begin_40 : decode cX11_begin 40 = .ok (.aload_n 0, 1) := by decide +kernel
theorem dX11_begin_41 : decode cX11_begin 41 = .ok (.getfield 29, 3) := by decide +kernel
theorem dX11_begin_44 : decode cX11_begin 44 = .ok (.invokevirtual 218, 3) := by decide +kernel
theorem dX11_begin_47 : decode cX11_begin 47 = .ok (.ireturn, 1) := by decide +kernel
theorem dX11_best_0 : decode cX11_best 0 = .ok (.aload_n 0, 1) := by decide +kernel
theorem dX11_best_1 : decode cX11_best 1 = .ok (.invokevirtual 224, 3) := by decide +kernel
theorem dX11_best_4 : decode cX11_best 4 = .ok (.ifCond .eq 12, 3) := by decide +kernel
theorem dX11_best_7 : decode cX11_best 7 = .ok (.iload_n 1, 1) := by decide +kernel
theorem dX11_best_8 : decode cX11_best 8 = .ok (.ifCond .lt 8, 3) := by decide +kernel
theorem dX11_best_11 : decode cX11_best 11 = .ok (.iload_n 1, 1) := by decide +kernel
theorem dX11_best_12 : decode cX11_best 12 = .ok (.iconst 1, 1) := by decide +kernel
theorem dX11_best_13 : decode cX11_best 13 = .ok (.if_icmp .le 5, 3) := by decide +kernel
theorem dX11_best_16 : decode cX11_best 16 = .ok (.iconst (-1), 1) := by decide +kernel
theorem dX11_best_17 : decode cX11_best 17 = .ok (.ireturn, 1) := by decide +kernel
theorem dX11_best_18 : decode cX11_best 18 = .ok (.iconst 0, 1) := by decide +kernel
theorem dX11_best_19 : decode cX11_best 19 = .ok (.istore_n 2, 1) := by decide +kernel
theorem dX11_best_20 : decode cX11_best 20 = .ok (.iconst (-1), 1) := by decide +kernel
theorem dX11_best_21 : decode cX11_best 21 = .ok (.istore_n 3, 1) := by decide +kernel
theorem dX11_best_22 : decode cX11_best 22 = .ok (.iconst 0, 1) := by decide +kernel
theorem dX11_best_23 : decode cX11_best 23 = .ok (.istore 4, 2) := by decide +kernel
theorem dX11_best_25 : decode cX11_best 25 = .ok (.iload 4, 2) := by decide +kernel
theorem dX11_best_27 : decode cX11_best 27 = .ok (.bipush 8, 2) := by decide +kernel
theorem dX11_best_29 : decode cX11_best 29 = .ok (.if_icmp .ge 37, 3) := by decide +kernel
theorem dX11_best_32 : decode cX11_best 32 = .ok (.aload_n 0, 1) := by decide +kernel
theorem dX11_best_33 : decode cX11_best 33 = .ok (.getfield 41, 3) := by decide +kernel
theorem dX11_best_36 : decode cX11_best 36 = .ok (.aload_n 0, 1) := by decide +kernel
theorem dX11_best_37 : decode cX11_best 37 = .ok (.getfield 29, 3) := by decide +kernel
theorem dX11_best_40 : decode cX11_best 40 = .ok (.iload 4, 2) := by decide +kernel
theorem dX11_best_42 : decode cX11_best 42 = .ok (.iconst (-1), 1) := by decide +kernel
theorem dX11_best_43 : decode cX11_best 43 = .ok (.invokevirtual 308, 3) := by decide +kernel
theorem dX11_best_46 : decode cX11_best 46 = .ok (.istore 5, 2) := by decide +kernel
theorem dX11_best_48 : decode cX11_best 48 = .ok (.iload 5, 2) := by decide +kernel
theorem dX11_best_50 : decode cX11_best 50 = .ok (.iload_n 3, 1) := by decide +kernel
theorem dX11_best_51 : decode cX11_best 51 = .ok (.if_icmp .le 9, 3) := by decide +kernel
theorem dX11_best_54 : decode cX11_best 54 = .ok (.iload 5, 2) := by decide +kernel
theorem dX11_best_56 : decode cX11_best 56 = .ok (.istore_n 3, 1) := by decide +kernel
theorem dX11_best_57 : decode cX11_best 57 = .ok (.iload 4, 2) := by decide +kernel
theorem dX11_best_59 : decode cX11_best 59 = .ok (.istore_n 2, 1) := by decide +kernel
theorem dX11_best_60 : decode cX11_best 60 = .ok (.iinc 4 1, 3) := by decide +kernel
theorem dX11_best_63 : decode cX11_best 63 = .ok (.goto (-38), 3) := by decide +kernel
theorem dX11_best_66 : decode cX11_best 66 = .ok (.iload_n 1, 1) := by decide +kernel
theorem dX11_best_67 : decode cX11_best 67 = .ok (.ifCond .ne 7, 3) := by decide +kernel
theorem dX11_best_70 : decode cX11_best 70 = .ok (.iload_n 2, 1) := by decide +kernel
theorem dX11_best_71 : decode cX11_best 71 = .ok (.goto 4, 3) := by decide +kernel
theorem dX11_best_74 : decode cX11_best 74 = .ok (.iload_n 3, 1) := by decide +kernel
theorem dX11_best_75 : decode cX11_best 75 = .ok (.ireturn, 1) := by decide +kernel
theorem dX11_block_0 : decode cX11_block 0 = .ok (.aload_n 0, 1) := by decide +kernel
theorem dX11_block_1 : decode cX11_block 1 = .ok (.invokevirtual 224, 3) := by decide +kernel
theorem dX11_block_4 : decode cX11_block 4 = .ok (.ifCond .ne 5, 3) := by decide +kernel
theorem dX11_block_7 : decode cX11_block 7 = .ok (.iconst (-1), 1) := by decide +kernel
theorem dX11_block_8 : decode cX11_block 8 = .ok (.ireturn, 1) := by decide +kernel
theorem dX11_block_9 : decode cX11_block 9 = .ok (.aload_n 0, 1) := by decide +kernel
theorem dX11_block_10 : decode cX11_block 10 = .ok (.getfield 50, 3) := by decide +kernel
theorem dX11_block_13 : decode cX11_block 13 = .ok (.aload_n 0, 1) := by decide +kernel
theorem dX11_block_14 : decode cX11_block 14 = .ok (.getfield 29, 3) := by decide +kernel
theorem dX11_block_17 : decode cX11_block 17 = .ok (.invokevirtual 243, 3) := by decide +kernel
theorem dX11_block_20 : decode cX11_block 20 = .ok (.iload_n 1, 1) := by decide +kernel
theorem dX11_block_21 : decode cX11_block 21 = .ok (.ifCond .lt 14, 3) := by decide +kernel
theorem dX11_block_24 : decode cX11_block 24 = .ok (.iload_n 1, 1) := by decide +kernel
theorem dX11_block_25 : decode cX11_block 25 = .ok (.aload_n 0, 1) := by decide +kernel
theorem dX11_block_26 : decode cX11_block 26 = .ok (.getfield 29, 3) := by decide +kernel
theorem dX11_block_29 : decode cX11_block 29 = .ok (.getfield 258, 3) := by decide +kernel
theorem dX11_block_32 : decode cX11_block 32 = .ok (.if_icmp .lt 5, 3) := by decide +kernel
theorem dX11_block_35 : decode cX11_block 35 = .ok (.iconst (-1), 1) := by decide +kernel
theorem dX11_block_36 : decode cX11_block 36 = .ok (.ireturn, 1) := by decide +kernel
theorem dX11_block_37 : decode cX11_block 37 = .ok (.aload_n 0, 1) := by decide +kernel
theorem dX11_block_38 : decode cX11_block 38 = .ok (.getfield 50, 3) := by decide +kernel
theorem dX11_block_41 : decode cX11_block 41 = .ok (.aload_n 0, 1) := by decide +kernel
theorem dX11_block_42 : decode cX11_block 42 = .ok (.getfield 29, 3) := by decide +kernel
theorem dX11_block_45 : decode cX11_block 45 = .ok (.aload_n 0, 1) := by decide +kernel
theorem dX11_block_46 : decode cX11_block 46 = .ok (.getfield 29, 3) := by decide +kernel
theorem dX11_block_49 : decode cX11_block 49 = .ok (.getfield 258, 3) := by decide +kernel
theorem dX11_block_52 : decode cX11_block 52 = .ok (.iconst 1, 1) := by decide +kernel
theorem dX11_block_53 : decode cX11_block 53 = .ok (.isub, 1) := by decide +kernel
theorem dX11_block_54 : decode cX11_block 54 = .ok (.iload_n 1, 1) := by decide +kernel
theorem dX11_block_55 : decode cX11_block 55 = .ok (.isub, 1) := by decide +kernel
theorem dX11_block_56 : decode cX11_block 56 = .ok (.invokevirtual 261, 3) := by decide +kernel
theorem dX11_block_59 : decode cX11_block 59 = .ok (.istore_n 3, 1) := by decide +kernel
theorem dX11_block_60 : decode cX11_block 60 = .ok (.iload_n 2, 1) := by decide +kernel
theorem dX11_block_61 : decode cX11_block 61 = .ok (.tableswitch 65 0 2 #[27, 37, 52], 27) := by decide +kernel
theorem dX11_block_88 : decode cX11_block 88 = .ok (.aload_n 0, 1) := by decide +kernel
theorem dX11_block_89 : decode cX11_block 89 = .ok (.getfield 29, 3) := by decide +kernel
theorem dX11_block_92 : decode cX11_block 92 = .ok (.getfield 255, 3) := by decide +kernel
theorem dX11_block_95 : decode cX11_block 95 = .ok (.iload_n 3, 1) := by decide +kernel
theorem dX11_block_96 : decode cX11_block 96 = .ok (.iaload, 1) := by decide +kernel
theorem dX11_block_97 : decode cX11_block 97 = .ok (.ireturn, 1) := by decide +kernel
theorem dX11_block_98 : decode cX11_block 98 = .ok (.aload_n 0, 1) := by decide +kernel
theorem dX11_block_99 : decode cX11_block 99 = .ok (.getfield 50, 3) := by decide +kernel
theorem dX11_block_102 : decode cX11_block 102 = .ok (.aload_n 0, 1) := by decide +kernel
theorem dX11_block_103 : decode cX11_block 103 = .ok (.getfield 29, 3) := by decide +kernel
theorem dX11_block_106 : decode cX11_block 106 = .ok (.iload_n 3, 1) := by decide +kernel
theorem dX11_block_107 : decode cX11_block 107 = .ok (.invokevirtual 264, 3) := by decide +kernel
theorem dX11_block_110 : decode cX11_block 110 = .ok (.iload_n 3, 1) := by decide +kernel
theorem dX11_block_111 : decode cX11_block 111 = .ok (.isub, 1) := by decide +kernel
theorem dX11_block_112 : decode cX11_block 112 = .ok (.ireturn, 1) := by decide +kernel
theorem dX11_block_113 : decode cX11_block 113 = .ok (.aload_n 0, 1) := by decide +kernel
theorem dX11_block_114 : decode cX11_block 114 = .ok (.getfield 50, 3) := by decide +kernel
theorem dX11_block_117 : decode cX11_block 117 = .ok (.aload_n 0, 1) := by decide +kernel
theorem dX11_block_118 : decode cX11_block 118 = .ok (.getfield 29, 3) := by decide +kernel
theorem dX11_block_121 : decode cX11_block 121 = .ok (.iload_n 3, 1) := by decide +kernel
theorem dX11_block_122 : decode cX11_block 122 = .ok (.invokevirtual 267, 3) := by decide +kernel
theorem dX11_block_125 : decode cX11_block 125 = .ok (.ireturn, 1) := by decide +kernel
theorem dX11_block_126 : decode cX11_block 126 = .ok (.iconst (-1), 1) := by decide +kernel
theorem dX11_block_127 : decode cX11_block 127 = .ok (.ireturn, 1) := by decide +kernel
theorem dX11_cell_0 : decode cX11_cell 0 = .ok (.aload_n 0, 1) := by decide +kernel
theorem dX11_cell_1 : decode cX11_cell 1 = .ok (.invokevirtual 224, 3) := by decide +kernel
theorem dX11_cell_4 : decode cX11_cell 4 = .ok (.ifCond .eq 18, 3) := by decide +kernel
theorem dX11_cell_7 : decode cX11_cell 7 = .ok (.aload_n 0, 1) := by decide +kernel
theorem dX11_cell_8 : decode cX11_cell 8 = .ok (.getfield 19, 3) := by decide +kernel
theorem dX11_cell_11 : decode cX11_cell 11 = .ok (.aload_n 0, 1) := by decide +kernel
theorem dX11_cell_12 : decode cX11_cell 12 = .ok (.getfield 29, 3) := by decide +kernel
theorem dX11_cell_15 : decode cX11_cell 15 = .ok (.iload_n 1, 1) := by decide +kernel
theorem dX11_cell_16 : decode cX11_cell 16 = .ok (.invokevirtual 227, 3) := by decide +kernel
theorem dX11_cell_19 : decode cX11_cell 19 = .ok (.goto 4, 3) := by decide +kernel
theorem dX11_cell_22 : decode cX11_cell 22 = .ok (.iconst (-1), 1) := by decide +kernel
theorem dX11_cell_23 : decode cX11_cell 23 = .ok (.istore_n 3, 1) := by decide +kernel
theorem dX11_cell_24 : decode cX11_cell 24 = .ok (.iload_n 3, 1) := by decide +kernel
theorem dX11_cell_25 : decode cX11_cell 25 = .ok (.iconst (-1), 1) := by decide +kernel
theorem dX11_cell_26 : decode cX11_cell 26 = .ok (.if_icmp .ne 5, 3) := by decide +kernel
theorem dX11_cell_29 : decode cX11_cell 29 = .ok (.iconst (-1), 1) := by decide +kernel
theorem dX11_cell_30 : decode cX11_cell 30 = .ok (.ireturn, 1) := by decide +kernel
theorem dX11_cell_31 : decode cX11_cell 31 = .ok (.aload_n 0, 1) := by decide +kernel
theorem dX11_cell_32 : decode cX11_cell 32 = .ok (.getfield 29, 3) := by decide +kernel
theorem dX11_cell_35 : decode cX11_cell 35 = .ok (.iload_n 3, 1) := by decide +kernel
theorem dX11_cell_36 : decode cX11_cell 36 = .ok (.invokevirtual 200, 3) := by decide +kernel
theorem dX11_cell_39 : decode cX11_cell 39 = .ok (.istore 4, 2) := by decide +kernel
theorem dX11_cell_41 : decode cX11_cell 41 = .ok (.iload_n 2, 1) := by decide +kernel
theorem dX11_cell_42 : decode cX11_cell 42 = .ok (.tableswitch 62 0 3 #[30, 32, 38, 48], 30) := by decide +kernel
theorem dX11_cell_72 : decode cX11_cell 72 = .ok (.iload_n 3, 1) := by decide +kernel
theorem dX11_cell_73 : decode cX11_cell 73 = .ok (.ireturn, 1) := by decide +kernel
theorem dX11_cell_74 : decode cX11_cell 74 = .ok (.iload 4, 2) := by decide +kernel
theorem dX11_cell_76 : decode cX11_cell 76 = .ok (.invokestatic 206, 3) := by decide +kernel
theorem dX11_cell_79 : decode cX11_cell 79 = .ok (.ireturn, 1) := by decide +kernel
theorem dX11_cell_80 : decode cX11_cell 80 = .ok (.aload_n 0, 1) := by decide +kernel
theorem dX11_cell_81 : decode cX11_cell 81 = .ok (.getfield 19, 3) := by decide +kernel
theorem dX11_cell_84 : decode cX11_cell 84 = .ok (.iload 4, 2) := by decide +kernel
theorem dX11_cell_86 : decode cX11_cell 86 = .ok (.invokevirtual 231, 3) := by decide +kernel
theorem dX11_cell_89 : decode cX11_cell 89 = .ok (.ireturn, 1) := by decide +kernel
theorem dX11_cell_90 : decode cX11_cell 90 = .ok (.aload_n 0, 1) := by decide +kernel
theorem dX11_cell_91 : decode cX11_cell 91 = .ok (.iload_n 3, 1) := by decide +kernel
theorem dX11_cell_92 : decode cX11_cell 92 = .ok (.invokevirtual 234, 3) := by decide +kernel
theorem dX11_cell_95 : decode cX11_cell 95 = .ok (.ifCond .eq 7, 3) := by decide +kernel
theorem dX11_cell_98 : decode cX11_cell 98 = .ok (.iconst 1, 1) := by decide +kernel
theorem dX11_cell_99 : decode cX11_cell 99 = .ok (.goto 4, 3) := by decide +kernel
theorem dX11_cell_102 : decode cX11_cell 102 = .ok (.iconst 0, 1) := by decide +kernel
theorem dX11_cell_103 : decode cX11_cell 103 = .ok (.ireturn, 1) := by decide +kernel
theorem dX11_cell_104 : decode cX11_cell 104 = .ok (.iconst (-1), 1) := by decide +kernel
theorem dX11_cell_105 : decode cX11_cell 105 = .ok (.ireturn, 1) := by decide +kernel
theorem dX11_cellOf_0 : decode cX11_cellOf 0 = .ok (.aload_n 0, 1) := by decide +kernel
theorem dX11_cellOf_1 : decode cX11_cellOf 1 = .ok (.iload_n 1, 1) := by decide +kernel
theorem dX11_cellOf_2 : decode cX11_cellOf 2 = .ok (.invokevirtual 237, 3) := by decide +kernel
theorem dX11_cellOf_5 : decode cX11_cellOf 5 = .ok (.ifCond .eq 14, 3) := by decide +kernel
theorem dX11_cellOf_8 : decode cX11_cellOf 8 = .ok (.aload_n 0, 1) := by decide +kernel
theorem dX11_cellOf_9 : decode cX11_cellOf 9 = .ok (.getfield 29, 3) := by decide +kernel
theorem dX11_cellOf_12 : decode cX11_cellOf 12 = .ok (.iload_n 1, 1) := by decide +kernel
theorem dX11_cellOf_13 : decode cX11_cellOf 13 = .ok (.invokevirtual 240, 3) := by decide +kernel
theorem dX11_cellOf_16 : decode cX11_cellOf 16 = .ok (.goto 4, 3) := by decide +kernel
theorem dX11_cellOf_19 : decode cX11_cellOf 19 = .ok (.iconst (-1), 1) := by decide +kernel
theorem dX11_cellOf_20 : decode cX11_cellOf 20 = .ok (.ireturn, 1) := by decide +kernel
theorem dX11_chain_0 : decode cX11_chain 0 = .ok (.iload_n 2, 1) := by decide +kernel
theorem dX11_chain_1 : decode cX11_chain 1 = .ok (.ifCond .lt 16, 3) := by decide +kernel
theorem dX11_chain_4 : decode cX11_chain 4 = .ok (.iload_n 2, 1) := by decide +kernel
theorem dX11_chain_5 : decode cX11_chain 5 = .ok (.iconst 1, 1) := by decide +kernel
theorem dX11_chain_6 : decode cX11_chain 6 = .ok (.if_icmp .gt 11, 3) := by decide +kernel
theorem dX11_chain_9 : decode cX11_chain 9 = .ok (.aload_n 0, 1) := by decide +kernel
theorem dX11_chain_10 : decode cX11_chain 10 = .ok (.iload_n 1, 1) := by decide +kernel
theorem dX11_chain_11 : decode cX11_chain 11 = .ok (.invokevirtual 234, 3) := by decide +kernel
theorem dX11_chain_14 : decode cX11_chain 14 = .ok (.ifCond .ne 5, 3) := by decide +kernel
theorem dX11_chain_17 : decode cX11_chain 17 = .ok (.iconst (-1), 1) := by decide +kernel
theorem dX11_chain_18 : decode cX11_chain 18 = .ok (.ireturn, 1) := by decide +kernel
theorem dX11_chain_19 : decode cX11_chain 19 = .ok (.aload_n 0, 1) := by decide +kernel
theorem dX11_chain_20 : decode cX11_chain 20 = .ok (.getfield 41, 3) := by decide +kernel
theorem dX11_chain_23 : decode cX11_chain 23 = .ok (.aload_n 0, 1) := by decide +kernel
theorem dX11_chain_24 : decode cX11_chain 24 = .ok (.getfield 29, 3) := by decide +kernel
theorem dX11_chain_27 : decode cX11_chain 27 = .ok (.iload_n 2, 1) := by decide +kernel
theorem dX11_chain_28 : decode cX11_chain 28 = .ok (.invokevirtual 270, 3) := by decide +kernel
theorem dX11_chain_31 : decode cX11_chain 31 = .ok (.aload_n 0, 1) := by decide +kernel
theorem dX11_chain_32 : decode cX11_chain 32 = .ok (.getfield 41, 3) := by decide +kernel
theorem dX11_chain_35 : decode cX11_chain 35 = .ok (.getfield 274, 3) := by decide +kernel
theorem dX11_chain_38 : decode cX11_chain 38 = .ok (.iload_n 1, 1) := by decide +kernel
theorem dX11_chain_39 : decode cX11_chain 39 = .ok (.iaload, 1) := by decide +kernel
theorem dX11_chain_40 : decode cX11_chain 40 = .ok (.ireturn, 1) := by decide +kernel
theorem dX11_chance_0 : decode cX11_chance 0 = .ok (.aload_n 0, 1) := by decide +kernel
theorem dX11_chance_1 : decode cX11_chance 1 = .ok (.invokevirtual 224, 3) := by decide +kernel
theorem dX11_chance_4 : decode cX11_chance 4 = .ok (.ifCond .eq 24, 3) := by decide +kernel
theorem dX11_chance_7 : decode cX11_chance 7 = .ok (.iload_n 1, 1) := by decide +kernel
theorem dX11_chance_8 : decode cX11_chance 8 = .ok (.iconst 1, 1) := by decide +kernel
theorem dX11_chance_9 : decode cX11_chance 9 = .ok (.if_icmp .lt 19, 3) := by decide +kernel
theorem dX11_chance_12 : decode cX11_chance 12 = .ok (.iload_n 1, 1) := by decide +kernel
theorem dX11_chance_13 : decode cX11_chance 13 = .ok (.bipush 50, 2) := by decide +kernel
theorem dX11_chance_15 : decode cX11_chance 15 = .ok (.if_icmp .gt 13, 3) := by decide +kernel
theorem dX11_chance_18 : decode cX11_chance 18 = .ok (.aload_n 0, 1) := by decide +kernel
theorem dX11_chance_19 : decode cX11_chance 19 = .ok (.getfield 19, 3) := by decide +kernel
theorem dX11_chance_22 : decode cX11_chance 22 = .ok (.getfield 187, 3) := by decide +kernel
theorem dX11_chance_25 : decode cX11_chance 25 = .ok (.ifCond .ne 9, 3) := by decide +kernel
theorem dX11_chance_28 : decode cX11_chance 28 = .ok (.aload_n 0, 1) := by decide +kernel
theorem dX11_chance_29 : decode cX11_chance 29 = .ok (.iconst 4, 1) := by decide +kernel
theorem dX11_chance_30 : decode cX11_chance 30 = .ok (.invokevirtual 133, 3) := by decide +kernel
theorem dX11_chance_33 : decode cX11_chance 33 = .ok (.ireturn, 1) := by decide +kernel
theorem dX11_chance_34 : decode cX11_chance 34 = .ok (.aload_n 0, 1) := by decide +kernel
theorem dX11_chance_35 : decode cX11_chance 35 = .ok (.invokevirtual 346, 3) := by decide +kernel
theorem dX11_chance_38 : decode cX11_chance 38 = .ok (.aload_n 0, 1) := by decide +kernel
theorem dX11_chance_39 : decode cX11_chance 39 = .ok (.getfield 29, 3) := by decide +kernel
theorem dX11_chance_42 : decode cX11_chance 42 = .ok (.getfield 193, 3) := by decide +kernel
theorem dX11_chance_45 : decode cX11_chance 45 = .ok (.istore_n 2, 1) := by decide +kernel
theorem dX11_chance_46 : decode cX11_chance 46 = .ok (.iconst 0, 1) := by decide +kernel
theorem dX11_chance_47 : decode cX11_chance 47 = .ok (.istore_n 3, 1) := by decide +kernel
theorem dX11_chance_48 : decode cX11_chance 48 = .ok (.iload_n 3, 1) := by decide +kernel
theorem dX11_chance_49 : decode cX11_chance 49 = .ok (.iload_n 1, 1) := by decide +kernel
theorem dX11_chance_50 : decode cX11_chance 50 = .ok (.if_icmp .ge 20, 3) := by decide +kernel
theorem dX11_chance_53 : decode cX11_chance 53 = .ok (.aload_n 0, 1) := by decide +kernel
theorem dX11_chance_54 : decode cX11_chance 54 = .ok (.getfield 86, 3) := by decide +kernel
theorem dX11_chance_57 : decode cX11_chance 57 = .ok (.aload_n 0, 1) := by decide +kernel
theorem dX11_chance_58 : decode cX11_chance 58 = .ok (.getfield 29, 3) := by decide +kernel
theorem dX11_chance_61 : decode cX11_chance 61 = .ok (.invokevirtual 365, 3) := by decide +kernel
theorem dX11_chance_64 : decode cX11_chance 64 = .ok (.iinc 3 1, 3) := by decide +kernel
theorem dX11_chance_67 : decode cX11_chance 67 = .ok (.goto (-19), 3) := by decide +kernel
theorem dX11_chance_70 : decode cX11_chance 70 = .ok (.aload_n 0, 1) := by decide +kernel
theorem dX11_chance_71 : decode cX11_chance 71 = .ok (.getfield 29, 3) := by decide +kernel
theorem dX11_chance_74 : decode cX11_chance 74 = .ok (.getfield 193, 3) := by decide +kernel
theorem dX11_chance_77 : decode cX11_chance 77 = .ok (.iload_n 2, 1) := by decide +kernel
theorem dX11_chance_78 : decode cX11_chance 78 = .ok (.isub, 1) := by decide +kernel
theorem dX11_chance_79 : decode cX11_chance 79 = .ok (.ireturn, 1) := by decide +kernel
theorem dX11_collect_0 : decode cX11_collect 0 = .ok (.aload_n 0, 1) := by decide +kernel
theorem dX11_collect_1 : decode cX11_collect 1 = .ok (.invokevirtual 224, 3) := by decide +kernel
theorem dX11_collect_4 : decode cX11_collect 4 = .ok (.ifCond .ne 9, 3) := by decide +kernel
theorem dX11_collect_7 : decode cX11_collect 7 = .ok (.aload_n 0, 1) := by decide +kernel
theorem dX11_collect_8 : decode cX11_collect 8 = .ok (.iconst 3, 1) := by decide +kernel
theorem dX11_collect_9 : decode cX11_collect 9 = .ok (.invokevirtual 133, 3) := by decide +kernel
theorem dX11_collect_12 : decode cX11_collect 12 = .ok (.ireturn, 1) := by decide +kernel
theorem dX11_collect_13 : decode cX11_collect 13 = .ok (.aload_n 0, 1) := by decide +kernel
theorem dX11_collect_14 : decode cX11_collect 14 = .ok (.invokevirtual 346, 3) := by decide +kernel
theorem dX11_collect_17 : decode cX11_collect 17 = .ok (.aload_n 0, 1) := by decide +kernel
theorem dX11_collect_18 : decode cX11_collect 18 = .ok (.getfield 50, 3) := by decide +kernel
theorem dX11_collect_21 : decode cX11_collect 21 = .ok (.aload_n 0, 1) := by decide +kernel
theorem dX11_collect_22 : decode cX11_collect 22 = .ok (.getfield 29, 3) := by decide +kernel
theorem dX11_collect_25 : decode cX11_collect 25 = .ok (.invokevirtual 359, 3) := by decide +kernel
theorem dX11_collect_28 : decode cX11_collect 28 = .ok (.aload_n 0, 1) := by decide +kernel
theorem dX11_collect_29 : decode cX11_collect 29 = .ok (.getfield 29, 3) := by decide +kernel
theorem dX11_collect_32 : decode cX11_collect 32 = .ok (.getfield 173, 3) := by decide +kernel
theorem dX11_collect_35 : decode cX11_collect 35 = .ok (.ireturn, 1) := by decide +kernel
theorem dX11_comes_0 : decode cX11_comes 0 = .ok (.aload_n 0, 1) := by decide +kernel
theorem dX11_comes_1 : decode cX11_comes 1 = .ok (.iload_n 1, 1) := by decide +kernel
theorem dX11_comes_2 : decode cX11_comes 2 = .ok (.invokevirtual 249, 3) := by decide +kernel
theorem dX11_comes_5 : decode cX11_comes 5 = .ok (.ifCond .ne 5, 3) := by decide +kernel
theorem dX11_comes_8 : decode cX11_comes 8 = .ok (.iconst (-1), 1) := by decide +kernel
theorem dX11_comes_9 : decode cX11_comes 9 = .ok (.ireturn, 1) := by decide +kernel
theorem dX11_comes_10 : decode cX11_comes 10 = .ok (.aload_n 0, 1) := by decide +kernel
theorem dX11_comes_11 : decode cX11_comes 11 = .ok (.getfield 50, 3) := by decide +kernel
theorem dX11_comes_14 : decode cX11_comes 14 = .ok (.aload_n 0, 1) := by decide +kernel
theorem dX11_comes_15 : decode cX11_comes 15 = .ok (.getfield 29, 3) := by decide +kernel
theorem dX11_comes_18 : decode cX11_comes 18 = .ok (.invokevirtual 243, 3) := by decide +kernel
theorem dX11_comes_21 : decode cX11_comes 21 = .ok (.aload_n 0, 1) := by decide +kernel
theorem dX11_comes_22 : decode cX11_comes 22 = .ok (.getfield 29, 3) := by decide +kernel
theorem dX11_comes_25 : decode cX11_comes 25 = .ok (.getfield 170, 3) := by decide +kernel
theorem dX11_comes_28 : decode cX11_comes 28 = .ok (.aload_n 0, 1) := by decide +kernel
theorem dX11_comes_29 : decode cX11_comes 29 = .ok (.getfield 29, 3) := by decide +kernel
theorem dX11_comes_32 : decode cX11_comes 32 = .ok (.getfield 252, 3) := by decide +kernel
theorem dX11_comes_35 : decode cX11_comes 35 = .ok (.isub, 1) := by decide +kernel
theorem dX11_comes_36 : decode cX11_comes 36 = .ok (.istore_n 2, 1) := by decide +kernel
theorem dX11_comes_37 : decode cX11_comes 37 = .ok (.iload_n 1, 1) := by decide +kernel
theorem dX11_comes_38 : decode cX11_comes 38 = .ok (.iload_n 2, 1) := by decide +kernel
theorem dX11_comes_39 : decode cX11_comes 39 = .ok (.if_icmp .ge 7, 3) := by decide +kernel
theorem dX11_comes_42 : decode cX11_comes 42 = .ok (.iconst (-1), 1) := by decide +kernel
theorem dX11_comes_43 : decode cX11_comes 43 = .ok (.goto 14, 3) := by decide +kernel
theorem dX11_comes_46 : decode cX11_comes 46 = .ok (.aload_n 0, 1) := by decide +kernel
theorem dX11_comes_47 : decode cX11_comes 47 = .ok (.getfield 29, 3) := by decide +kernel
theorem dX11_comes_50 : decode cX11_comes 50 = .ok (.getfield 255, 3) := by decide +kernel
theorem dX11_comes_53 : decode cX11_comes 53 = .ok (.iload_n 1, 1) := by decide +kernel
theorem dX11_comes_54 : decode cX11_comes 54 = .ok (.iload_n 2, 1) := by decide +kernel
theorem dX11_comes_55 : decode cX11_comes 55 = .ok (.isub, 1) := by decide +kernel
theorem dX11_comes_56 : decode cX11_comes 56 = .ok (.iaload, 1) := by decide +kernel
theorem dX11_comes_57 : decode cX11_comes 57 = .ok (.ireturn, 1) := by decide +kernel
theorem dX11_deny_0 : decode cX11_deny 0 = .ok (.aload_n 0, 1) := by decide +kernel
theorem dX11_deny_1 : decode cX11_deny 1 = .ok (.getfield 106, 3) := by decide +kernel
theorem dX11_deny_4 : decode cX11_deny 4 = .ok (.iload_n 1, 1) := by decide +kernel
theorem dX11_deny_5 : decode cX11_deny 5 = .ok (.dup2, 1) := by decide +kernel
theorem dX11_deny_6 : decode cX11_deny 6 = .ok (.iaload, 1) := by decide +kernel
theorem dX11_deny_7 : decode cX11_deny 7 = .ok (.iconst 1, 1) := by decide +kernel
theorem dX11_deny_8 : decode cX11_deny 8 = .ok (.iadd, 1) := by decide +kernel
theorem dX11_deny_9 : decode cX11_deny 9 = .ok (.iastore, 1) := by decide +kernel
theorem dX11_deny_10 : decode cX11_deny 10 = .ok (.iconst 0, 1) := by decide +kernel
theorem dX11_deny_11 : decode cX11_deny 11 = .ok (.ireturn, 1) := by decide +kernel
theorem dX11_end_0 : decode cX11_end 0 = .ok (.iload_n 1, 1) := by decide +kernel
theorem dX11_end_1 : decode cX11_end 1 = .ok (.ifCond .lt 14, 3) := by decide +kernel
theorem dX11_end_4 : decode cX11_end 4 = .ok (.iload_n 1, 1) := by decide +kernel
theorem dX11_end_5 : decode cX11_end 5 = .ok (.aload_n 0, 1) := by decide +kernel
theorem dX11_end_6 : decode cX11_end 6 = .ok (.getfield 12, 3) := by decide +kernel
theorem dX11_end_9 : decode cX11_end 9 = .ok (.getfield 130, 3) := by decide +kernel
theorem dX11_end_12 : decode cX11_end 12 = .ok (.if_icmp .le 9, 3) := by decide +kernel
theorem dX11_end_15 : decode cX11_end 15 = .ok (.aload_n 0, 1) := by decide +kernel
theorem dX11_end_16 : decode cX11_end 16 = .ok (.iconst 0, 1) := by decide +kernel
theorem dX11_end_17 : decode cX11_end 17 = .ok (.invokevirtual 141, 3) := by decide +kernel
theorem dX11_end_20 : decode cX11_end 20 = .ok (.ireturn, 1) := by decide +kernel
theorem dX11_end_21 : decode cX11_end 21 = .ok (.aload_n 0, 1) := by decide +kernel
theorem dX11_end_22 : decode cX11_end 22 = .ok (.getfield 12, 3) := by decide +kernel
theorem dX11_end_25 : decode cX11_end 25 = .ok (.iload_n 1, 1) := by decide +kernel
theorem dX11_end_26 : decode cX11_end 26 = .ok (.putfield 130, 3) := by decide +kernel
theorem dX11_end_29 : decode cX11_end 29 = .ok (.iconst 1, 1) := by decide +kernel
theorem dX11_end_30 : decode cX11_end 30 = .ok (.ireturn, 1) := by decide +kernel
theorem dX11_failed_0 : decode cX11_failed 0 = .ok (.iload_n 1, 1) := by decide +kernel
theorem dX11_failed_1 : decode cX11_failed 1 = .ok (.ifCond .ne 13, 3) := by decide +kernel
theorem dX11_failed_4 : decode cX11_failed 4 = .ok (.aload_n 0, 1) := by decide +kernel
theorem dX11_failed_5 : decode cX11_failed 5 = .ok (.getfield 77, 3) := by decide +kernel
theorem dX11_failed_8 : decode cX11_failed 8 = .ok (.getfield 353, 3) := by decide +kernel
theorem dX11_failed_11 : decode cX11_failed 11 = .ok (.goto 19, 3) := by decide +kernel
theorem dX11_failed_14 : decode cX11_failed 14 = .ok (.iload_n 1, 1) := by decide +kernel
theorem dX11_failed_15 : decode cX11_failed 15 = .ok (.iconst 1, 1) := by decide +kernel
theorem dX11_failed_16 : decode cX11_failed 16 = .ok (.if_icmp .ne 13, 3) := by decide +kernel
theorem dX11_failed_19 : decode cX11_failed 19 = .ok (.aload_n 0, 1) := by decide +kernel
theorem dX11_failed_20 : decode cX11_failed 20 = .ok (.getfield 77, 3) := by decide +kernel
theorem dX11_failed_23 : decode cX11_failed 23 = .ok (.getfield 356, 3) := by decide +kernel
theorem dX11_failed_26 : decode cX11_failed 26 = .ok (.goto 4, 3) := by decide +kernel
theorem dX11_failed_29 : decode cX11_failed 29 = .ok (.iconst (-1), 1) := by decide +kernel
theorem dX11_failed_30 : decode cX11_failed 30 = .ok (.ireturn, 1) := by decide +kernel
theorem dX11_far_0 : decode cX11_far 0 = .ok (.aload_n 0, 1) := by decide +kernel
theorem dX11_far_1 : decode cX11_far 1 = .ok (.iload_n 1, 1) := by decide +kernel
theorem dX11_far_2 : decode cX11_far 2 = .ok (.invokevirtual 234, 3) := by decide +kernel
theorem dX11_far_5 : decode cX11_far 5 = .ok (.ifCond .eq 22, 3) := by decide +kernel
theorem dX11_far_8 : decode cX11_far 8 = .ok (.aload_n 0, 1) := by decide +kernel
theorem dX11_far_9 : decode cX11_far 9 = .ok (.getfield 41, 3) := by decide +kernel
theorem dX11_far_12 : decode cX11_far 12 = .ok (.getfield 299, 3) := by decide +kernel
theorem dX11_far_15 : decode cX11_far 15 = .ok (.aload_n 0, 1) := by decide +kernel
theorem dX11_far_16 : decode cX11_far 16 = .ok (.getfield 41, 3) := by decide +kernel
theorem dX11_far_19 : decode cX11_far 19 = .ok (.iload_n 1, 1) := by decide +kernel
theorem dX11_far_20 : decode cX11_far 20 = .ok (.invokevirtual 302, 3) := by decide +kernel
theorem dX11_far_23 : decode cX11_far 23 = .ok (.iaload, 1) := by decide +kernel
theorem dX11_far_24 : decode cX11_far 24 = .ok (.goto 4, 3) := by decide +kernel
theorem dX11_far_27 : decode cX11_far 27 = .ok (.iconst (-1), 1) := by decide +kernel
theorem dX11_far_28 : decode cX11_far 28 = .ok (.ireturn, 1) := by decide +kernel
theorem dX11_fault_0 : decode cX11_fault 0 = .ok (.iload_n 1, 1) := by decide +kernel
theorem dX11_fault_1 : decode cX11_fault 1 = .ok (.ifCond .ne 13, 3) := by decide +kernel
theorem dX11_fault_4 : decode cX11_fault 4 = .ok (.aload_n 0, 1) := by decide +kernel
theorem dX11_fault_5 : decode cX11_fault 5 = .ok (.getfield 12, 3) := by decide +kernel
theorem dX11_fault_8 : decode cX11_fault 8 = .ok (.getfield 164, 3) := by decide +kernel
theorem dX11_fault_11 : decode cX11_fault 11 = .ok (.goto 19, 3) := by decide +kernel
theorem dX11_fault_14 : decode cX11_fault 14 = .ok (.iload_n 1, 1) := by decide +kernel
theorem dX11_fault_15 : decode cX11_fault 15 = .ok (.iconst 1, 1) := by decide +kernel
theorem dX11_fault_16 : decode cX11_fault 16 = .ok (.if_icmp .ne 13, 3) := by decide +kernel
theorem dX11_fault_19 : decode cX11_fault 19 = .ok (.aload_n 0, 1) := by decide +kernel
theorem dX11_fault_20 : decode cX11_fault 20 = .ok (.getfield 12, 3) := by decide +kernel
theorem dX11_fault_23 : decode cX11_fault 23 = .ok (.getfield 167, 3) := by decide +kernel
theorem dX11_fault_26 : decode cX11_fault 26 = .ok (.goto 4, 3) := by decide +kernel
theorem dX11_fault_29 : decode cX11_fault 29 = .ok (.iconst (-1), 1) := by decide +kernel
theorem dX11_fault_30 : decode cX11_fault 30 = .ok (.ireturn, 1) := by decide +kernel
theorem dX11_feed_0 : decode cX11_feed 0 = .ok (.aload_n 0, 1) := by decide +kernel
theorem dX11_feed_1 : decode cX11_feed 1 = .ok (.getfield 12, 3) := by decide +kernel
theorem dX11_feed_4 : decode cX11_feed 4 = .ok (.getfield 130, 3) := by decide +kernel
theorem dX11_feed_7 : decode cX11_feed 7 = .ok (.bipush 20, 2) := by decide +kernel
theorem dX11_feed_9 : decode cX11_feed 9 = .ok (.iadd, 1) := by decide +kernel
theorem dX11_feed_10 : decode cX11_feed 10 = .ok (.sipush 1600, 3) := by decide +kernel
theorem dX11_feed_13 : decode cX11_feed 13 = .ok (.if_icmp .le 9, 3) := by decide +kernel
theorem dX11_feed_16 : decode cX11_feed 16 = .ok (.aload_n 0, 1) := by decide +kernel
theorem dX11_feed_17 : decode cX11_feed 17 = .ok (.iconst 0, 1) := by decide +kernel
theorem dX11_feed_18 : decode cX11_feed 18 = .ok (.invokevirtual 133, 3) := by decide +kernel
theorem dX11_feed_21 : decode cX11_feed 21 = .ok (.ireturn, 1) := by decide +kernel
theorem dX11_feed_22 : decode cX11_feed 22 = .ok (.aload_n 0, 1) := by decide +kernel
theorem dX11_feed_23 : decode cX11_feed 23 = .ok (.getfield 12, 3) := by decide +kernel
theorem dX11_feed_26 : decode cX11_feed 26 = .ok (.iload_n 1, 1) := by decide +kernel
theorem dX11_feed_27 : decode cX11_feed 27 = .ok (.invokevirtual 137, 3) := by decide +kernel
theorem dX11_feed_30 : decode cX11_feed 30 = .ok (.aload_n 0, 1) := by decide +kernel
theorem dX11_feed_31 : decode cX11_feed 31 = .ok (.getfield 12, 3) := by decide +kernel
theorem dX11_feed_34 : decode cX11_feed 34 = .ok (.iload_n 2, 1) := by decide +kernel
theorem dX11_feed_35 : decode cX11_feed 35 = .ok (.invokevirtual 137, 3) := by decide +kernel
theorem dX11_feed_38 : decode cX11_feed 38 = .ok (.aload_n 0, 1) := by decide +kernel
theorem dX11_feed_39 : decode cX11_feed 39 = .ok (.getfield 12, 3) := by decide +kernel
theorem dX11_feed_42 : decode cX11_feed 42 = .ok (.iload_n 3, 1) := by decide +kernel
theorem dX11_feed_43 : decode cX11_feed 43 = .ok (.invokevirtual 137, 3) := by decide +kernel
theorem dX11_feed_46 : decode cX11_feed 46 = .ok (.aload_n 0, 1) := by decide +kernel
theorem dX11_feed_47 : decode cX11_feed 47 = .ok (.getfield 12, 3) := by decide +kernel
theorem dX11_feed_50 : decode cX11_feed 50 = .ok (.iload 4, 2) := by decide +kernel
theorem dX11_feed_52 : decode cX11_feed 52 = .ok (.invokevirtual 137, 3) := by decide +kernel
theorem dX11_feed_55 : decode cX11_feed 55 = .ok (.aload_n 0, 1) := by decide +kernel
theorem dX11_feed_56 : decode cX11_feed 56 = .ok (.getfield 12, 3) := by decide +kernel
theorem dX11_feed_59 : decode cX11_feed 59 = .ok (.iload 5, 2) := by decide +kernel
theorem dX11_feed_61 : decode cX11_feed 61 = .ok (.invokevirtual 137, 3) := by decide +kernel
theorem dX11_feed_64 : decode cX11_feed 64 = .ok (.aload_n 0, 1) := by decide +kernel
theorem dX11_feed_65 : decode cX11_feed 65 = .ok (.getfield 12, 3) := by decide +kernel
theorem dX11_feed_68 : decode cX11_feed 68 = .ok (.getfield 130, 3) := by decide +kernel
theorem dX11_feed_71 : decode cX11_feed 71 = .ok (.ireturn, 1) := by decide +kernel
theorem dX11_found_0 : decode cX11_found 0 = .ok (.aload_n 0, 1) := by decide +kernel
theorem dX11_found_1 : decode cX11_found 1 = .ok (.invokevirtual 224, 3) := by decide +kernel
theorem dX11_found_4 : decode cX11_found 4 = .ok (.ifCond .ne 5, 3) := by decide +kernel
theorem dX11_found_7 : decode cX11_found 7 = .ok (.iconst (-1), 1) := by decide +kernel
theorem dX11_found_8 : decode cX11_found 8 = .ok (.ireturn, 1) := by decide +kernel
theorem dX11_found_9 : decode cX11_found 9 = .ok (.aload_n 0, 1) := by decide +kernel
theorem dX11_found_10 : decode cX11_found 10 = .ok (.getfield 41, 3) := by decide +kernel
theorem dX11_found_13 : decode cX11_found 13 = .ok (.aload_n 0, 1) := by decide +kernel
theorem dX11_found_14 : decode cX11_found 14 = .ok (.getfield 29, 3) := by decide +kernel
theorem dX11_found_17 : decode cX11_found 17 = .ok (.iconst (-1), 1) := by decide +kernel
theorem dX11_found_18 : decode cX11_found 18 = .ok (.iconst (-1), 1) := by decide +kernel
theorem dX11_found_19 : decode cX11_found 19 = .ok (.invokevirtual 277, 3) := by decide +kernel
theorem dX11_found_22 : decode cX11_found 22 = .ok (.iload_n 1, 1) := by decide +kernel
theorem dX11_found_23 : decode cX11_found 23 = .ok (.iconst (-1), 1) := by decide +kernel
theorem dX11_found_24 : decode cX11_found 24 = .ok (.if_icmp .ne 11, 3) := by decide +kernel
theorem dX11_found_27 : decode cX11_found 27 = .ok (.aload_n 0, 1) := by decide +kernel
theorem dX11_found_28 : decode cX11_found 28 = .ok (.getfield 41, 3) := by decide +kernel
theorem dX11_found_31 : decode cX11_found 31 = .ok (.getfield 312, 3) := by decide +kernel
theorem dX11_found_34 : decode cX11_found 34 = .ok (.ireturn, 1) := by decide +kernel
theorem dX11_found_35 : decode cX11_found 35 = .ok (.iload_n 1, 1) := by decide +kernel
theorem dX11_found_36 : decode cX11_found 36 = .ok (.ifCond .lt 14, 3) := by decide +kernel
theorem dX11_found_39 : decode cX11_found 39 = .ok (.iload_n 1, 1) := by decide +kernel
theorem dX11_found_40 : decode cX11_found 40 = .ok (.aload_n 0, 1) := by decide +kernel
theorem dX11_found_41 : decode cX11_found 41 = .ok (.getfield 41, 3) := by decide +kernel
theorem dX11_found_44 : decode cX11_found 44 = .ok (.getfield 312, 3) := by decide +kernel
theorem dX11_found_47 : decode cX11_found 47 = .ok (.if_icmp .lt 7, 3) := by decide +kernel
theorem dX11_found_50 : decode cX11_found 50 = .ok (.iconst (-1), 1) := by decide +kernel
theorem dX11_found_51 : decode cX11_found 51 = .ok (.goto 12, 3) := by decide +kernel
theorem dX11_found_54 : decode cX11_found 54 = .ok (.aload_n 0, 1) := by decide +kernel
theorem dX11_found_55 : decode cX11_found 55 = .ok (.getfield 41, 3) := by decide +kernel
theorem dX11_found_58 : decode cX11_found 58 = .ok (.getfield 313, 3) := by decide +kernel
theorem dX11_found_61 : decode cX11_found 61 = .ok (.iload_n 1, 1) := by decide +kernel
theorem dX11_found_62 : decode cX11_found 62 = .ok (.iaload, 1) := by decide +kernel
theorem dX11_found_63 : decode cX11_found 63 = .ok (.ireturn, 1) := by decide +kernel
theorem dX11_goes_0 : decode cX11_goes 0 = .ok (.aload_n 0, 1) := by decide +kernel
theorem dX11_goes_1 : decode cX11_goes 1 = .ok (.iload_n 1, 1) := by decide +kernel
theorem dX11_goes_2 : decode cX11_goes 2 = .ok (.invokevirtual 237, 3) := by decide +kernel
theorem dX11_goes_5 : decode cX11_goes 5 = .ok (.ifCond .ne 5, 3) := by decide +kernel
theorem dX11_goes_8 : decode cX11_goes 8 = .ok (.iconst (-1), 1) := by decide +kernel
theorem dX11_goes_9 : decode cX11_goes 9 = .ok (.ireturn, 1) := by decide +kernel
theorem dX11_goes_10 : decode cX11_goes 10 = .ok (.aload_n 0, 1) := by decide +kernel
theorem dX11_goes_11 : decode cX11_goes 11 = .ok (.getfield 50, 3) := by decide +kernel
theorem dX11_goes_14 : decode cX11_goes 14 = .ok (.aload_n 0, 1) := by decide +kernel
theorem dX11_goes_15 : decode cX11_goes 15 = .ok (.getfield 29, 3) := by decide +kernel
theorem dX11_goes_18 : decode cX11_goes 18 = .ok (.invokevirtual 243, 3) := by decide +kernel
theorem dX11_goes_21 : decode cX11_goes 21 = .ok (.aload_n 0, 1) := by decide +kernel
theorem dX11_goes_22 : decode cX11_goes 22 = .ok (.getfield 50, 3) := by decide +kernel
theorem dX11_goes_25 : decode cX11_goes 25 = .ok (.aload_n 0, 1) := by decide +kernel
theorem dX11_goes_26 : decode cX11_goes 26 = .ok (.getfield 29, 3) := by decide +kernel
theorem dX11_goes_29 : decode cX11_goes 29 = .ok (.iload_n 1, 1) := by decide +kernel
theorem dX11_goes_30 : decode cX11_goes 30 = .ok (.invokevirtual 246, 3) := by decide +kernel
theorem dX11_goes_33 : decode cX11_goes 33 = .ok (.ireturn, 1) := by decide +kernel
theorem dX11_has_0 : decode cX11_has 0 = .ok (.iload_n 1, 1) := by decide +kernel
theorem dX11_has_1 : decode cX11_has 1 = .ok (.tableswitch 162 0 9 #[55, 63, 71, 103, 111, 119, 127, 135, 143, 148], 55) := by decide +kernel
theorem dX11_has_56 : decode cX11_has 56 = .ok (.aload_n 0, 1) := by decide +kernel
theorem dX11_has_57 : decode cX11_has 57 = .ok (.getfield 29, 3) := by decide +kernel
theorem dX11_has_60 : decode cX11_has 60 = .ok (.getfield 170, 3) := by decide +kernel
theorem dX11_has_63 : decode cX11_has 63 = .ok (.ireturn, 1) := by decide +kernel
theorem dX11_has_64 : decode cX11_has 64 = .ok (.aload_n 0, 1) := by decide +kernel
theorem dX11_has_65 : decode cX11_has 65 = .ok (.getfield 29, 3) := by decide +kernel
theorem dX11_has_68 : decode cX11_has 68 = .ok (.getfield 173, 3) := by decide +kernel
theorem dX11_has_71 : decode cX11_has 71 = .ok (.ireturn, 1) := by decide +kernel
theorem dX11_has_72 : decode cX11_has 72 = .ok (.aload_n 0, 1) := by decide +kernel
theorem dX11_has_73 : decode cX11_has 73 = .ok (.getfield 29, 3) := by decide +kernel
theorem dX11_has_76 : decode cX11_has 76 = .ok (.getfield 176, 3) := by decide +kernel
theorem dX11_has_79 : decode cX11_has 79 = .ok (.ifCond .eq 13, 3) := by decide +kernel
theorem dX11_has_82 : decode cX11_has 82 = .ok (.aload_n 0, 1) := by decide +kernel
theorem dX11_has_83 : decode cX11_has 83 = .ok (.getfield 29, 3) := by decide +kernel
theorem dX11_has_86 : decode cX11_has 86 = .ok (.getfield 180, 3) := by decide +kernel
theorem dX11_has_89 : decode cX11_has 89 = .ok (.goto 14, 3) := by decide +kernel
theorem dX11_has_92 : decode cX11_has 92 = .ok (.aload_n 0, 1) := by decide +kernel
theorem dX11_has_93 : decode cX11_has 93 = .ok (.getfield 19, 3) := by decide +kernel
theorem dX11_has_96 : decode cX11_has 96 = .ok (.aload_n 0, 1) := by decide +kernel
theorem dX11_has_97 : decode cX11_has 97 = .ok (.getfield 29, 3) := by decide +kernel
theorem dX11_has_100 : decode cX11_has 100 = .ok (.invokevirtual 183, 3) := by decide +kernel
theorem dX11_has_103 : decode cX11_has 103 = .ok (.ireturn, 1) := by decide +kernel
theorem dX11_has_104 : decode cX11_has 104 = .ok (.aload_n 0, 1) := by decide +kernel
theorem dX11_has_105 : decode cX11_has 105 = .ok (.getfield 19, 3) := by decide +kernel
theorem dX11_has_108 : decode cX11_has 108 = .ok (.getfield 187, 3) := by decide +kernel
theorem dX11_has_111 : decode cX11_has 111 = .ok (.ireturn, 1) := by decide +kernel
theorem dX11_has_112 : decode cX11_has 112 = .ok (.aload_n 0, 1) := by decide +kernel
theorem dX11_has_113 : decode cX11_has 113 = .ok (.getfield 29, 3) := by decide +kernel
theorem dX11_has_116 : decode cX11_has 116 = .ok (.getfield 190, 3) := by decide +kernel
theorem dX11_has_119 : decode cX11_has 119 = .ok (.ireturn, 1) := by decide +kernel
theorem dX11_has_120 : decode cX11_has 120 = .ok (.aload_n 0, 1) := by decide +kernel
theorem dX11_has_121 : decode cX11_has 121 = .ok (.getfield 29, 3) := by decide +kernel
theorem dX11_has_124 : decode cX11_has 124 = .ok (.getfield 193, 3) := by decide +kernel
theorem dX11_has_127 : decode cX11_has 127 = .ok (.ireturn, 1) := by decide +kernel
theorem dX11_has_128 : decode cX11_has 128 = .ok (.aload_n 0, 1) := by decide +kernel
theorem dX11_has_129 : decode cX11_has 129 = .ok (.getfield 29, 3) := by decide +kernel
theorem dX11_has_132 : decode cX11_has 132 = .ok (.getfield 196, 3) := by decide +kernel
theorem dX11_has_135 : decode cX11_has 135 = .ok (.ireturn, 1) := by decide +kernel
theorem dX11_has_136 : decode cX11_has 136 = .ok (.aload_n 0, 1) := by decide +kernel
theorem dX11_has_137 : decode cX11_has 137 = .ok (.getfield 95, 3) := by decide +kernel
theorem dX11_has_140 : decode cX11_has 140 = .ok (.getfield 158, 3) := by decide +kernel
theorem dX11_has_143 : decode cX11_has 143 = .ok (.ireturn, 1) := by decide +kernel
theorem dX11_has_144 : decode cX11_has 144 = .ok (.aload_n 0, 1) := by decide +kernel
theorem dX11_has_145 : decode cX11_has 145 = .ok (.getfield 114, 3) := by decide +kernel
theorem dX11_has_148 : decode cX11_has 148 = .ok (.ireturn, 1) := by decide +kernel
theorem dX11_has_149 : decode cX11_has 149 = .ok (.aload_n 0, 1) := by decide +kernel
theorem dX11_has_150 : decode cX11_has 150 = .ok (.getfield 124, 3) := by decide +kernel
theorem dX11_has_153 : decode cX11_has 153 = .ok (.iconst (-1), 1) := by decide +kernel
theorem dX11_has_154 : decode cX11_has 154 = .ok (.if_icmp .ne 7, 3) := by decide +kernel
theorem dX11_has_157 : decode cX11_has 157 = .ok (.iconst 0, 1) := by decide +kernel
theorem dX11_has_158 : decode cX11_has 158 = .ok (.goto 4, 3) := by decide +kernel
theorem dX11_has_161 : decode cX11_has 161 = .ok (.iconst 1, 1) := by decide +kernel
theorem dX11_has_162 : decode cX11_has 162 = .ok (.ireturn, 1) := by decide +kernel
theorem dX11_has_163 : decode cX11_has 163 = .ok (.iconst (-1), 1) := by decide +kernel
theorem dX11_has_164 : decode cX11_has 164 = .ok (.ireturn, 1) := by decide +kernel
theorem dX11_heap_0 : decode cX11_heap 0 = .ok (.aload_n 0, 1) := by decide +kernel
theorem dX11_heap_1 : decode cX11_heap 1 = .ok (.getfield 59, 3) := by decide +kernel
theorem dX11_heap_4 : decode cX11_heap 4 = .ok (.invokevirtual 145, 3) := by decide +kernel
theorem dX11_heap_7 : decode cX11_heap 7 = .ok (.istore_n 1, 1) := by decide +kernel
theorem dX11_heap_8 : decode cX11_heap 8 = .ok (.aload_n 0, 1) := by decide +kernel
theorem dX11_heap_9 : decode cX11_heap 9 = .ok (.getfield 12, 3) := by decide +kernel
theorem dX11_heap_12 : decode cX11_heap 12 = .ok (.iconst 0, 1) := by decide +kernel
theorem dX11_heap_13 : decode cX11_heap 13 = .ok (.putfield 130, 3) := by decide +kernel
theorem dX11_heap_16 : decode cX11_heap 16 = .ok (.iload_n 1, 1) := by decide +kernel
theorem dX11_heap_17 : decode cX11_heap 17 = .ok (.ifCond .ne 9, 3) := by decide +kernel
theorem dX11_heap_20 : decode cX11_heap 20 = .ok (.aload_n 0, 1) := by decide +kernel
theorem dX11_heap_21 : decode cX11_heap 21 = .ok (.iconst 1, 1) := by decide +kernel
theorem dX11_heap_22 : decode cX11_heap 22 = .ok (.invokevirtual 133, 3) := by decide +kernel
theorem dX11_heap_25 : decode cX11_heap 25 = .ok (.ireturn, 1) := by decide +kernel
theorem dX11_heap_26 : decode cX11_heap 26 = .ok (.aload_n 0, 1) := by decide +kernel
theorem dX11_heap_27 : decode cX11_heap 27 = .ok (.getfield 19, 3) := by decide +kernel
theorem dX11_heap_30 : decode cX11_heap 30 = .ok (.aload_n 0, 1) := by decide +kernel
theorem dX11_heap_31 : decode cX11_heap 31 = .ok (.getfield 23, 3) := by decide +kernel
theorem dX11_heap_34 : decode cX11_heap 34 = .ok (.invokevirtual 149, 3) := by decide +kernel
theorem dX11_heap_37 : decode cX11_heap 37 = .ok (.aload_n 0, 1) := by decide +kernel
theorem dX11_heap_38 : decode cX11_heap 38 = .ok (.getfield 29, 3) := by decide +kernel
theorem dX11_heap_41 : decode cX11_heap 41 = .ok (.aload_n 0, 1) := by decide +kernel
theorem dX11_heap_42 : decode cX11_heap 42 = .ok (.getfield 33, 3) := by decide +kernel
theorem dX11_heap_45 : decode cX11_heap 45 = .ok (.invokevirtual 152, 3) := by decide +kernel
theorem dX11_heap_48 : decode cX11_heap 48 = .ok (.aload_n 0, 1) := by decide +kernel
theorem dX11_heap_49 : decode cX11_heap 49 = .ok (.getfield 77, 3) := by decide +kernel
theorem dX11_heap_52 : decode cX11_heap 52 = .ok (.invokevirtual 155, 3) := by decide +kernel
theorem dX11_heap_55 : decode cX11_heap 55 = .ok (.aload_n 0, 1) := by decide +kernel
theorem dX11_heap_56 : decode cX11_heap 56 = .ok (.getfield 95, 3) := by decide +kernel
theorem dX11_heap_59 : decode cX11_heap 59 = .ok (.iconst 0, 1) := by decide +kernel
theorem dX11_heap_60 : decode cX11_heap 60 = .ok (.putfield 158, 3) := by decide +kernel
theorem dX11_heap_63 : decode cX11_heap 63 = .ok (.aload_n 0, 1) := by decide +kernel
theorem dX11_heap_64 : decode cX11_heap 64 = .ok (.iconst (-1), 1) := by decide +kernel
theorem dX11_heap_65 : decode cX11_heap 65 = .ok (.putfield 124, 3) := by decide +kernel
theorem dX11_heap_68 : decode cX11_heap 68 = .ok (.aload_n 0, 1) := by decide +kernel
theorem dX11_heap_69 : decode cX11_heap 69 = .ok (.iconst 0, 1) := by decide +kernel
theorem dX11_heap_70 : decode cX11_heap 70 = .ok (.putfield 114, 3) := by decide +kernel
theorem dX11_heap_73 : decode cX11_heap 73 = .ok (.aload_n 0, 1) := by decide +kernel
theorem dX11_heap_74 : decode cX11_heap 74 = .ok (.getfield 59, 3) := by decide +kernel
theorem dX11_heap_77 : decode cX11_heap 77 = .ok (.getfield 161, 3) := by decide +kernel
theorem dX11_heap_80 : decode cX11_heap 80 = .ok (.ireturn, 1) := by decide +kernel
theorem dX11_image_0 : decode cX11_image 0 = .ok (.aload_n 0, 1) := by decide +kernel
theorem dX11_image_1 : decode cX11_image 1 = .ok (.invokevirtual 224, 3) := by decide +kernel
theorem dX11_image_4 : decode cX11_image 4 = .ok (.ifCond .ne 5, 3) := by decide +kernel
theorem dX11_image_7 : decode cX11_image 7 = .ok (.iconst (-1), 1) := by decide +kernel
theorem dX11_image_8 : decode cX11_image 8 = .ok (.ireturn, 1) := by decide +kernel
theorem dX11_image_9 : decode cX11_image 9 = .ok (.aload_n 0, 1) := by decide +kernel
theorem dX11_image_10 : decode cX11_image 10 = .ok (.getfield 102, 3) := by decide +kernel
theorem dX11_image_13 : decode cX11_image 13 = .ok (.aload_n 0, 1) := by decide +kernel
theorem dX11_image_14 : decode cX11_image 14 = .ok (.getfield 29, 3) := by decide +kernel
theorem dX11_image_17 : decode cX11_image 17 = .ok (.invokevirtual 372, 3) := by decide +kernel
theorem dX11_image_20 : decode cX11_image 20 = .ok (.aload_n 0, 1) := by decide +kernel
theorem dX11_image_21 : decode cX11_image 21 = .ok (.getfield 102, 3) := by decide +kernel
theorem dX11_image_24 : decode cX11_image 24 = .ok (.getfield 375, 3) := by decide +kernel
theorem dX11_image_27 : decode cX11_image 27 = .ok (.ireturn, 1) := by decide +kernel
theorem dX11_inCell_0 : decode cX11_inCell 0 = .ok (.aload_n 0, 1) := by decide +kernel
theorem dX11_inCell_1 : decode cX11_inCell 1 = .ok (.iload_n 1, 1) := by decide +kernel
theorem dX11_inCell_2 : decode cX11_inCell 2 = .ok (.invokevirtual 249, 3) := by decide +kernel
theorem dX11_inCell_5 : decode cX11_inCell 5 = .ok (.ifCond .eq 18, 3) := by decide +kernel
theorem dX11_inCell_8 : decode cX11_inCell 8 = .ok (.iload_n 1, 1) := by decide +kernel
theorem dX11_inCell_9 : decode cX11_inCell 9 = .ok (.aload_n 0, 1) := by decide +kernel
theorem dX11_inCell_10 : decode cX11_inCell 10 = .ok (.getfield 29, 3) := by decide +kernel
theorem dX11_inCell_13 : decode cX11_inCell 13 = .ok (.getfield 173, 3) := by decide +kernel
theorem dX11_inCell_16 : decode cX11_inCell 16 = .ok (.if_icmp .lt 7, 3) := by decide +kernel
theorem dX11_inCell_19 : decode cX11_inCell 19 = .ok (.iconst 1, 1) := by decide +kernel
theorem dX11_inCell_20 : decode cX11_inCell 20 = .ok (.goto 4, 3) := by decide +kernel
theorem dX11_inCell_23 : decode cX11_inCell 23 = .ok (.iconst 0, 1) := by decide +kernel
theorem dX11_inCell_24 : decode cX11_inCell 24 = .ok (.ireturn, 1) := by decide +kernel
theorem dX11_inHeap_0 : decode cX11_inHeap 0 = .ok (.aload_n 0, 1) := by decide +kernel
theorem dX11_inHeap_1 : decode cX11_inHeap 1 = .ok (.invokevirtual 224, 3) := by decide +kernel
theorem dX11_inHeap_4 : decode cX11_inHeap 4 = .ok (.ifCond .eq 22, 3) := by decide +kernel
theorem dX11_inHeap_7 : decode cX11_inHeap 7 = .ok (.iload_n 1, 1) := by decide +kernel
theorem dX11_inHeap_8 : decode cX11_inHeap 8 = .ok (.ifCond .lt 18, 3) := by decide +kernel
theorem dX11_inHeap_11 : decode cX11_inHeap 11 = .ok (.iload_n 1, 1) := by decide +kernel
theorem dX11_inHeap_12 : decode cX11_inHeap 12 = .ok (.aload_n 0, 1) := by decide +kernel
theorem dX11_inHeap_13 : decode cX11_inHeap 13 = .ok (.getfield 29, 3) := by decide +kernel
theorem dX11_inHeap_16 : decode cX11_inHeap 16 = .ok (.getfield 170, 3) := by decide +kernel
theorem dX11_inHeap_19 : decode cX11_inHeap 19 = .ok (.if_icmp .ge 7, 3) := by decide +kernel
theorem dX11_inHeap_22 : decode cX11_inHeap 22 = .ok (.iconst 1, 1) := by decide +kernel
theorem dX11_inHeap_23 : decode cX11_inHeap 23 = .ok (.goto 4, 3) := by decide +kernel
theorem dX11_inHeap_26 : decode cX11_inHeap 26 = .ok (.iconst 0, 1) := by decide +kernel
theorem dX11_inHeap_27 : decode cX11_inHeap 27 = .ok (.ireturn, 1) := by decide +kernel
theorem dX11_init_0 : decode cX11_init 0 = .ok (.aload_n 0, 1) := by decide +kernel
theorem dX11_init_1 : decode cX11_init 1 = .ok (.invokespecial 3, 3) := by decide +kernel
theorem dX11_init_4 : decode cX11_init 4 = .ok (.aload_n 0, 1) := by decide +kernel
theorem dX11_init_5 : decode cX11_init 5 = .ok (.new 9, 3) := by decide +kernel
theorem dX11_init_8 : decode cX11_init 8 = .ok (.dup, 1) := by decide +kernel
theorem dX11_init_9 : decode cX11_init 9 = .ok (.invokespecial 11, 3) := by decide +kernel
theorem dX11_init_12 : decode cX11_init 12 = .ok (.putfield 12, 3) := by decide +kernel
theorem dX11_init_15 : decode cX11_init 15 = .ok (.aload_n 0, 1) := by decide +kernel
theorem dX11_init_16 : decode cX11_init 16 = .ok (.new 16, 3) := by decide +kernel
theorem dX11_init_19 : decode cX11_init 19 = .ok (.dup, 1) := by decide +kernel
theorem dX11_init_20 : decode cX11_init 20 = .ok (.invokespecial 18, 3) := by decide +kernel
theorem dX11_init_23 : decode cX11_init 23 = .ok (.putfield 19, 3) := by decide +kernel
theorem dX11_init_26 : decode cX11_init 26 = .ok (.aload_n 0, 1) := by decide +kernel
theorem dX11_init_27 : decode cX11_init 27 = .ok (.new 16, 3) := by decide +kernel
theorem dX11_init_30 : decode cX11_init 30 = .ok (.dup, 1) := by decide +kernel
theorem dX11_init_31 : decode cX11_init 31 = .ok (.invokespecial 18, 3) := by decide +kernel
theorem dX11_init_34 : decode cX11_init 34 = .ok (.putfield 23, 3) := by decide +kernel
theorem dX11_init_37 : decode cX11_init 37 = .ok (.aload_n 0, 1) := by decide +kernel
theorem dX11_init_38 : decode cX11_init 38 = .ok (.new 26, 3) := by decide +kernel
theorem dX11_init_41 : decode cX11_init 41 = .ok (.dup, 1) := by decide +kernel
theorem dX11_init_42 : decode cX11_init 42 = .ok (.invokespecial 28, 3) := by decide +kernel
theorem dX11_init_45 : decode cX11_init 45 = .ok (.putfield 29, 3) := by decide +kernel
theorem dX11_init_48 : decode cX11_init 48 = .ok (.aload_n 0, 1) := by decide +kernel
theorem dX11_init_49 : decode cX11_init 49 = .ok (.new 26, 3) := by decide +kernel
theorem dX11_init_52 : decode cX11_init 52 = .ok (.dup, 1) := by decide +kernel
theorem dX11_init_53 : decode cX11_init 53 = .ok (.invokespecial 28, 3) := by decide +kernel
theorem dX11_init_56 : decode cX11_init 56 = .ok (.putfield 33, 3) := by decide +kernel
theorem dX11_init_59 : decode cX11_init 59 = .ok (.aload_n 0, 1) := by decide +kernel
theorem dX11_init_60 : decode cX11_init 60 = .ok (.new 36, 3) := by decide +kernel
theorem dX11_init_63 : decode cX11_init 63 = .ok (.dup, 1) := by decide +kernel
theorem dX11_init_64 : decode cX11_init 64 = .ok (.aload_n 0, 1) := by decide +kernel
theorem dX11_init_65 : decode cX11_init 65 = .ok (.getfield 19, 3) := by decide +kernel
theorem dX11_init_68 : decode cX11_init 68 = .ok (.invokespecial 38, 3) := by decide +kernel
theorem dX11_init_71 : decode cX11_init 71 = .ok (.putfield 41, 3) := by decide +kernel
theorem dX11_init_74 : decode cX11_init 74 = .ok (.aload_n 0, 1) := by decide +kernel
theorem dX11_init_75 : decode cX11_init 75 = .ok (.new 45, 3) := by decide +kernel
theorem dX11_init_78 : decode cX11_init 78 = .ok (.dup, 1) := by decide +kernel
theorem dX11_init_79 : decode cX11_init 79 = .ok (.aload_n 0, 1) := by decide +kernel
theorem dX11_init_80 : decode cX11_init 80 = .ok (.getfield 19, 3) := by decide +kernel
theorem dX11_init_83 : decode cX11_init 83 = .ok (.aload_n 0, 1) := by decide +kernel
theorem dX11_init_84 : decode cX11_init 84 = .ok (.getfield 41, 3) := by decide +kernel
theorem dX11_init_87 : decode cX11_init 87 = .ok (.invokespecial 47, 3) := by decide +kernel
theorem dX11_init_90 : decode cX11_init 90 = .ok (.putfield 50, 3) := by decide +kernel
theorem dX11_init_93 : decode cX11_init 93 = .ok (.aload_n 0, 1) := by decide +kernel
theorem dX11_init_94 : decode cX11_init 94 = .ok (.new 54, 3) := by decide +kernel
theorem dX11_init_97 : decode cX11_init 97 = .ok (.dup, 1) := by decide +kernel
theorem dX11_init_98 : decode cX11_init 98 = .ok (.aload_n 0, 1) := by decide +kernel
theorem dX11_init_99 : decode cX11_init 99 = .ok (.getfield 12, 3) := by decide +kernel
theorem dX11_init_102 : decode cX11_init 102 = .ok (.aload_n 0, 1) := by decide +kernel
theorem dX11_init_103 : decode cX11_init 103 = .ok (.getfield 23, 3) := by decide +kernel
theorem dX11_init_106 : decode cX11_init 106 = .ok (.aload_n 0, 1) := by decide +kernel
theorem dX11_init_107 : decode cX11_init 107 = .ok (.getfield 33, 3) := by decide +kernel
theorem dX11_init_110 : decode cX11_init 110 = .ok (.invokespecial 56, 3) := by decide +kernel
theorem dX11_init_113 : decode cX11_init 113 = .ok (.putfield 59, 3) := by decide +kernel
theorem dX11_init_116 : decode cX11_init 116 = .ok (.aload_n 0, 1) := by decide +kernel
theorem dX11_init_117 : decode cX11_init 117 = .ok (.new 63, 3) := by decide +kernel
theorem dX11_init_120 : decode cX11_init 120 = .ok (.dup, 1) := by decide +kernel
theorem dX11_init_121 : decode cX11_init 121 = .ok (.aload_n 0, 1) := by decide +kernel
theorem dX11_init_122 : decode cX11_init 122 = .ok (.getfield 12, 3) := by decide +kernel
theorem dX11_init_125 : decode cX11_init 125 = .ok (.aload_n 0, 1) := by decide +kernel
theorem dX11_init_126 : decode cX11_init 126 = .ok (.getfield 19, 3) := by decide +kernel
theorem dX11_init_129 : decode cX11_init 129 = .ok (.invokespecial 65, 3) := by decide +kernel
theorem dX11_init_132 : decode cX11_init 132 = .ok (.putfield 68, 3) := by decide +kernel
theorem dX11_init_135 : decode cX11_init 135 = .ok (.aload_n 0, 1) := by decide +kernel
theorem dX11_init_136 : decode cX11_init 136 = .ok (.new 72, 3) := by decide +kernel
theorem dX11_init_139 : decode cX11_init 139 = .ok (.dup, 1) := by decide +kernel
theorem dX11_init_140 : decode cX11_init 140 = .ok (.aload_n 0, 1) := by decide +kernel
theorem dX11_init_141 : decode cX11_init 141 = .ok (.getfield 29, 3) := by decide +kernel
theorem dX11_init_144 : decode cX11_init 144 = .ok (.aload_n 0, 1) := by decide +kernel
theorem dX11_init_145 : decode cX11_init 145 = .ok (.getfield 19, 3) := by decide +kernel
theorem dX11_init_148 : decode cX11_init 148 = .ok (.aload_n 0, 1) := by decide +kernel
theorem dX11_init_149 : decode cX11_init 149 = .ok (.getfield 50, 3) := by decide +kernel
theorem dX11_init_152 : decode cX11_init 152 = .ok (.aload_n 0, 1) := by decide +kernel
theorem dX11_init_153 : decode cX11_init 153 = .ok (.getfield 68, 3) := by decide +kernel
theorem dX11_init_156 : decode cX11_init 156 = .ok (.invokespecial 74, 3) := by decide +kernel
theorem dX11_init_159 : decode cX11_init 159 = .ok (.putfield 77, 3) := by decide +kernel
theorem dX11_init_162 : decode cX11_init 162 = .ok (.aload_n 0, 1) := by decide +kernel
theorem dX11_init_163 : decode cX11_init 163 = .ok (.new 81, 3) := by decide +kernel
theorem dX11_init_166 : decode cX11_init 166 = .ok (.dup, 1) := by decide +kernel
theorem dX11_init_167 : decode cX11_init 167 = .ok (.aload_n 0, 1) := by decide +kernel
theorem dX11_init_168 : decode cX11_init 168 = .ok (.getfield 19, 3) := by decide +kernel
theorem dX11_init_171 : decode cX11_init 171 = .ok (.aload_n 0, 1) := by decide +kernel
theorem dX11_init_172 : decode cX11_init 172 = .ok (.getfield 50, 3) := by decide +kernel
theorem dX11_init_175 : decode cX11_init 175 = .ok (.invokespecial 83, 3) := by decide +kernel
theorem dX11_init_178 : decode cX11_init 178 = .ok (.putfield 86, 3) := by decide +kernel
theorem dX11_init_181 : decode cX11_init 181 = .ok (.aload_n 0, 1) := by decide +kernel
theorem dX11_init_182 : decode cX11_init 182 = .ok (.new 90, 3) := by decide +kernel
theorem dX11_init_185 : decode cX11_init 185 = .ok (.dup, 1) := by decide +kernel
theorem dX11_init_186 : decode cX11_init 186 = .ok (.aload_n 0, 1) := by decide +kernel
theorem dX11_init_187 : decode cX11_init 187 = .ok (.getfield 50, 3) := by decide +kernel
theorem dX11_init_190 : decode cX11_init 190 = .ok (.invokespecial 92, 3) := by decide +kernel
theorem dX11_init_193 : decode cX11_init 193 = .ok (.putfield 95, 3) := by decide +kernel
theorem dX11_init_196 : decode cX11_init 196 = .ok (.aload_n 0, 1) := by decide +kernel
theorem dX11_init_197 : decode cX11_init 197 = .ok (.new 99, 3) := by decide +kernel
theorem dX11_init_200 : decode cX11_init 200 = .ok (.dup, 1) := by decide +kernel
theorem dX11_init_201 : decode cX11_init 201 = .ok (.aload_n 0, 1) := by decide +kernel
theorem dX11_init_202 : decode cX11_init 202 = .ok (.getfield 19, 3) := by decide +kernel
theorem dX11_init_205 : decode cX11_init 205 = .ok (.invokespecial 101, 3) := by decide +kernel
theorem dX11_init_208 : decode cX11_init 208 = .ok (.putfield 102, 3) := by decide +kernel
theorem dX11_init_211 : decode cX11_init 211 = .ok (.aload_n 0, 1) := by decide +kernel
theorem dX11_init_212 : decode cX11_init 212 = .ok (.bipush 7, 2) := by decide +kernel
theorem dX11_init_214 : decode cX11_init 214 = .ok (.newarray .int, 2) := by decide +kernel
theorem dX11_init_216 : decode cX11_init 216 = .ok (.putfield 106, 3) := by decide +kernel
theorem dX11_init_219 : decode cX11_init 219 = .ok (.aload_n 0, 1) := by decide +kernel
theorem dX11_init_220 : decode cX11_init 220 = .ok (.bipush 20, 2) := by decide +kernel
theorem dX11_init_222 : decode cX11_init 222 = .ok (.anewarray 26, 3) := by decide +kernel
theorem dX11_init_225 : decode cX11_init 225 = .ok (.putfield 110, 3) := by decide +kernel
theorem dX11_init_228 : decode cX11_init 228 = .ok (.aload_n 0, 1) := by decide +kernel
theorem dX11_init_229 : decode cX11_init 229 = .ok (.iconst 0, 1) := by decide +kernel
theorem dX11_init_230 : decode cX11_init 230 = .ok (.putfield 114, 3) := by decide +kernel
theorem dX11_init_233 : decode cX11_init 233 = .ok (.aload_n 0, 1) := by decide +kernel
theorem dX11_init_234 : decode cX11_init 234 = .ok (.iconst 0, 1) := by decide +kernel
theorem dX11_init_235 : decode cX11_init 235 = .ok (.putfield 118, 3) := by decide +kernel
theorem dX11_init_238 : decode cX11_init 238 = .ok (.aload_n 0, 1) := by decide +kernel
theorem dX11_init_239 : decode cX11_init 239 = .ok (.sipush 168, 3) := by decide +kernel
theorem dX11_init_242 : decode cX11_init 242 = .ok (.newarray .int, 2) := by decide +kernel
theorem dX11_init_244 : decode cX11_init 244 = .ok (.putfield 121, 3) := by decide +kernel
theorem dX11_init_247 : decode cX11_init 247 = .ok (.aload_n 0, 1) := by decide +kernel
theorem dX11_init_248 : decode cX11_init 248 = .ok (.iconst (-1), 1) := by decide +kernel
theorem dX11_init_249 : decode cX11_init 249 = .ok (.putfield 124, 3) := by decide +kernel
theorem dX11_init_252 : decode cX11_init 252 = .ok (.aload_n 0, 1) := by decide +kernel
theorem dX11_init_253 : decode cX11_init 253 = .ok (.sipush 168, 3) := by decide +kernel
theorem dX11_init_256 : decode cX11_init 256 = .ok (.newarray .int, 2) := by decide +kernel
theorem dX11_init_258 : decode cX11_init 258 = .ok (.putfield 127, 3) := by decide +kernel
theorem dX11_init_261 : decode cX11_init 261 = .ok (.iconst 0, 1) := by decide +kernel
theorem dX11_init_262 : decode cX11_init 262 = .ok (.istore_n 1, 1) := by decide +kernel
theorem dX11_init_263 : decode cX11_init 263 = .ok (.iload_n 1, 1) := by decide +kernel
theorem dX11_init_264 : decode cX11_init 264 = .ok (.bipush 20, 2) := by decide +kernel
theorem dX11_init_266 : decode cX11_init 266 = .ok (.if_icmp .ge 22, 3) := by decide +kernel
theorem dX11_init_269 : decode cX11_init 269 = .ok (.aload_n 0, 1) := by decide +kernel
theorem dX11_init_270 : decode cX11_init 270 = .ok (.getfield 110, 3) := by decide +kernel
theorem dX11_init_273 : decode cX11_init 273 = .ok (.iload_n 1, 1) := by decide +kernel
theorem dX11_init_274 : decode cX11_init 274 = .ok (.new 26, 3) := by decide +kernel
theorem dX11_init_277 : decode cX11_init 277 = .ok (.dup, 1) := by decide +kernel
theorem dX11_init_278 : decode cX11_init 278 = .ok (.invokespecial 28, 3) := by decide +kernel
theorem dX11_init_281 : decode cX11_init 281 = .ok (.aastore, 1) := by decide +kernel
theorem dX11_init_282 : decode cX11_init 282 = .ok (.iinc 1 1, 3) := by decide +kernel
theorem dX11_init_285 : decode cX11_init 285 = .ok (.goto (-22), 3) := by decide +kernel
theorem dX11_init_288 : decode cX11_init 288 = .ok (.return_, 1) := by decide +kernel
theorem dX11_isLive_0 : decode cX11_isLive 0 = .ok (.aload_n 0, 1) := by decide +kernel
theorem dX11_isLive_1 : decode cX11_isLive 1 = .ok (.iload_n 1, 1) := by decide +kernel
theorem dX11_isLive_2 : decode cX11_isLive 2 = .ok (.invokevirtual 237, 3) := by decide +kernel
theorem dX11_isLive_5 : decode cX11_isLive 5 = .ok (.ifCond .ne 5, 3) := by decide +kernel
theorem dX11_isLive_8 : decode cX11_isLive 8 = .ok (.iconst 0, 1) := by decide +kernel
theorem dX11_isLive_9 : decode cX11_isLive 9 = .ok (.ireturn, 1) := by decide +kernel
theorem dX11_isLive_10 : decode cX11_isLive 10 = .ok (.aload_n 0, 1) := by decide +kernel
theorem dX11_isLive_11 : decode cX11_isLive 11 = .ok (.getfield 41, 3) := by decide +kernel
theorem dX11_isLive_14 : decode cX11_isLive 14 = .ok (.aload_n 0, 1) := by decide +kernel
theorem dX11_isLive_15 : decode cX11_isLive 15 = .ok (.getfield 29, 3) := by decide +kernel
theorem dX11_isLive_18 : decode cX11_isLive 18 = .ok (.iconst (-1), 1) := by decide +kernel
theorem dX11_isLive_19 : decode cX11_isLive 19 = .ok (.iconst (-1), 1) := by decide +kernel
theorem dX11_isLive_20 : decode cX11_isLive 20 = .ok (.invokevirtual 277, 3) := by decide +kernel
theorem dX11_isLive_23 : decode cX11_isLive 23 = .ok (.aload_n 0, 1) := by decide +kernel
theorem dX11_isLive_24 : decode cX11_isLive 24 = .ok (.getfield 41, 3) := by decide +kernel
theorem dX11_isLive_27 : decode cX11_isLive 27 = .ok (.iload_n 1, 1) := by decide +kernel
theorem dX11_isLive_28 : decode cX11_isLive 28 = .ok (.invokevirtual 281, 3) := by decide +kernel
theorem dX11_isLive_31 : decode cX11_isLive 31 = .ok (.ireturn, 1) := by decide +kernel
theorem dX11_keepForUndo_0 : decode cX11_keepForUndo 0 = .ok (.aload_n 0, 1) := by decide +kernel
theorem dX11_keepForUndo_1 : decode cX11_keepForUndo 1 = .ok (.getfield 110, 3) := by decide +kernel
theorem dX11_keepForUndo_4 : decode cX11_keepForUndo 4 = .ok (.aload_n 0, 1) := by decide +kernel
theorem dX11_keepForUndo_5 : decode cX11_keepForUndo 5 = .ok (.getfield 118, 3) := by decide +kernel
theorem dX11_keepForUndo_8 : decode cX11_keepForUndo 8 = .ok (.aaload, 1) := by decide +kernel
theorem dX11_keepForUndo_9 : decode cX11_keepForUndo 9 = .ok (.aload_n 0, 1) := by decide +kernel
theorem dX11_keepForUndo_10 : decode cX11_keepForUndo 10 = .ok (.getfield 29, 3) := by decide +kernel
theorem dX11_keepForUndo_13 : decode cX11_keepForUndo 13 = .ok (.invokevirtual 152, 3) := by decide +kernel
theorem dX11_keepForUndo_16 : decode cX11_keepForUndo 16 = .ok (.aload_n 0, 1) := by decide +kernel
theorem dX11_keepForUndo_17 : decode cX11_keepForUndo 17 = .ok (.aload_n 0, 1) := by decide +kernel
theorem dX11_keepForUndo_18 : decode cX11_keepForUndo 18 = .ok (.getfield 118, 3) := by decide +kernel
theorem dX11_keepForUndo_21 : decode cX11_keepForUndo 21 = .ok (.iconst 1, 1) := by decide +kernel
theorem dX11_keepForUndo_22 : decode cX11_keepForUndo 22 = .ok (.iadd, 1) := by decide +kernel
theorem dX11_keepForUndo_23 : decode cX11_keepForUndo 23 = .ok (.bipush 20, 2) := by decide +kernel
theorem dX11_keepForUndo_25 : decode cX11_keepForUndo 25 = .ok (.irem, 1) := by decide +kernel
theorem dX11_keepForUndo_26 : decode cX11_keepForUndo 26 = .ok (.putfield 118, 3) := by decide +kernel
theorem dX11_keepForUndo_29 : decode cX11_keepForUndo 29 = .ok (.aload_n 0, 1) := by decide +kernel
theorem dX11_keepForUndo_30 : decode cX11_keepForUndo 30 = .ok (.aload_n 0, 1) := by decide +kernel
theorem dX11_keepForUndo_31 : decode cX11_keepForUndo 31 = .ok (.getfield 114, 3) := by decide +kernel
theorem dX11_keepForUndo_34 : decode cX11_keepForUndo 34 = .ok (.iconst 1, 1) := by decide +kernel
theorem dX11_keepForUndo_35 : decode cX11_keepForUndo 35 = .ok (.iadd, 1) := by decide +kernel
theorem dX11_keepForUndo_36 : decode cX11_keepForUndo 36 = .ok (.bipush 20, 2) := by decide +kernel
theorem dX11_keepForUndo_38 : decode cX11_keepForUndo 38 = .ok (.invokestatic 383, 3) := by decide +kernel
theorem dX11_keepForUndo_41 : decode cX11_keepForUndo 41 = .ok (.putfield 114, 3) := by decide +kernel
theorem dX11_keepForUndo_44 : decode cX11_keepForUndo 44 = .ok (.return_, 1) := by decide +kernel
theorem dX11_keeps_0 : decode cX11_keeps 0 = .ok (.aload_n 0, 1) := by decide +kernel
theorem dX11_keeps_1 : decode cX11_keeps 1 = .ok (.invokevirtual 224, 3) := by decide +kernel
theorem dX11_keeps_4 : decode cX11_keeps 4 = .ok (.ifCond .eq 13, 3) := by decide +kernel
theorem dX11_keeps_7 : decode cX11_keeps 7 = .ok (.iload_n 1, 1) := by decide +kernel
theorem dX11_keeps_8 : decode cX11_keeps 8 = .ok (.ifCond .lt 9, 3) := by decide +kernel
theorem dX11_keeps_11 : decode cX11_keeps 11 = .ok (.iload_n 1, 1) := by decide +kernel
theorem dX11_keeps_12 : decode cX11_keeps 12 = .ok (.bipush 8, 2) := by decide +kernel
theorem dX11_keeps_14 : decode cX11_keeps 14 = .ok (.if_icmp .lt 5, 3) := by decide +kernel
theorem dX11_keeps_17 : decode cX11_keeps 17 = .ok (.iconst (-1), 1) := by decide +kernel
theorem dX11_keeps_18 : decode cX11_keeps 18 = .ok (.ireturn, 1) := by decide +kernel
theorem dX11_keeps_19 : decode cX11_keeps 19 = .ok (.aload_n 0, 1) := by decide +kernel
theorem dX11_keeps_20 : decode cX11_keeps 20 = .ok (.getfield 41, 3) := by decide +kernel
theorem dX11_keeps_23 : decode cX11_keeps 23 = .ok (.aload_n 0, 1) := by decide +kernel
theorem dX11_keeps_24 : decode cX11_keeps 24 = .ok (.getfield 29, 3) := by decide +kernel
theorem dX11_keeps_27 : decode cX11_keeps 27 = .ok (.iload_n 1, 1) := by decide +kernel
theorem dX11_keeps_28 : decode cX11_keeps 28 = .ok (.iconst (-1), 1) := by decide +kernel
theorem dX11_keeps_29 : decode cX11_keeps 29 = .ok (.invokevirtual 308, 3) := by decide +kernel
theorem dX11_keeps_32 : decode cX11_keeps 32 = .ok (.ireturn, 1) := by decide +kernel
theorem dX11_kept_0 : decode cX11_kept 0 = .ok (.iload_n 1, 1) := by decide +kernel
theorem dX11_kept_1 : decode cX11_kept 1 = .ok (.ifCond .lt 23, 3) := by decide +kernel
theorem dX11_kept_4 : decode cX11_kept 4 = .ok (.iload_n 1, 1) := by decide +kernel
theorem dX11_kept_5 : decode cX11_kept 5 = .ok (.aload_n 0, 1) := by decide +kernel
theorem dX11_kept_6 : decode cX11_kept 6 = .ok (.getfield 29, 3) := by decide +kernel
theorem dX11_kept_9 : decode cX11_kept 9 = .ok (.getfield 196, 3) := by decide +kernel
theorem dX11_kept_12 : decode cX11_kept 12 = .ok (.if_icmp .ge 12, 3) := by decide +kernel
theorem dX11_kept_15 : decode cX11_kept 15 = .ok (.iload_n 2, 1) := by decide +kernel
theorem dX11_kept_16 : decode cX11_kept 16 = .ok (.ifCond .lt 8, 3) := by decide +kernel
theorem dX11_kept_19 : decode cX11_kept 19 = .ok (.iload_n 2, 1) := by decide +kernel
theorem dX11_kept_20 : decode cX11_kept 20 = .ok (.iconst 4, 1) := by decide +kernel
theorem dX11_kept_21 : decode cX11_kept 21 = .ok (.if_icmp .lt 5, 3) := by decide +kernel
theorem dX11_kept_24 : decode cX11_kept 24 = .ok (.iconst (-1), 1) := by decide +kernel
theorem dX11_kept_25 : decode cX11_kept 25 = .ok (.ireturn, 1) := by decide +kernel
theorem dX11_kept_26 : decode cX11_kept 26 = .ok (.aload_n 0, 1) := by decide +kernel
theorem dX11_kept_27 : decode cX11_kept 27 = .ok (.getfield 29, 3) := by decide +kernel
theorem dX11_kept_30 : decode cX11_kept 30 = .ok (.getfield 221, 3) := by decide +kernel
theorem dX11_kept_33 : decode cX11_kept 33 = .ok (.iload_n 1, 1) := by decide +kernel
theorem dX11_kept_34 : decode cX11_kept 34 = .ok (.iconst 4, 1) := by decide +kernel
theorem dX11_kept_35 : decode cX11_kept 35 = .ok (.imul, 1) := by decide +kernel
theorem dX11_kept_36 : decode cX11_kept 36 = .ok (.iload_n 2, 1) := by decide +kernel
theorem dX11_kept_37 : decode cX11_kept 37 = .ok (.iadd, 1) := by decide +kernel
theorem dX11_kept_38 : decode cX11_kept 38 = .ok (.iaload, 1) := by decide +kernel
theorem dX11_kept_39 : decode cX11_kept 39 = .ok (.ireturn, 1) := by decide +kernel
theorem dX11_longest_0 : decode cX11_longest 0 = .ok (.iload_n 1, 1) := by decide +kernel
theorem dX11_longest_1 : decode cX11_longest 1 = .ok (.ifCond .lt 15, 3) := by decide +kernel
theorem dX11_longest_4 : decode cX11_longest 4 = .ok (.iload_n 1, 1) := by decide +kernel
theorem dX11_longest_5 : decode cX11_longest 5 = .ok (.iconst 1, 1) := by decide +kernel
theorem dX11_longest_6 : decode cX11_longest 6 = .ok (.if_icmp .gt 10, 3) := by decide +kernel
theorem dX11_longest_9 : decode cX11_longest 9 = .ok (.aload_n 0, 1) := by decide +kernel
theorem dX11_longest_10 : decode cX11_longest 10 = .ok (.invokevirtual 224, 3) := by decide +kernel
theorem dX11_longest_13 : decode cX11_longest 13 = .ok (.ifCond .ne 5, 3) := by decide +kernel
theorem dX11_longest_16 : decode cX11_longest 16 = .ok (.iconst (-1), 1) := by decide +kernel
theorem dX11_longest_17 : decode cX11_longest 17 = .ok (.ireturn, 1) := by decide +kernel
theorem dX11_longest_18 : decode cX11_longest 18 = .ok (.aload_n 0, 1) := by decide +kernel
theorem dX11_longest_19 : decode cX11_longest 19 = .ok (.getfield 41, 3) := by decide +kernel
theorem dX11_longest_22 : decode cX11_longest 22 = .ok (.aload_n 0, 1) := by decide +kernel
theorem dX11_longest_23 : decode cX11_longest 23 = .ok (.getfield 29, 3) := by decide +kernel
theorem dX11_longest_26 : decode cX11_longest 26 = .ok (.iconst (-1), 1) := by decide +kernel
theorem dX11_longest_27 : decode cX11_longest 27 = .ok (.iconst (-1), 1) := by decide +kernel
theorem dX11_longest_28 : decode cX11_longest 28 = .ok (.invokevirtual 277, 3) := by decide +kernel
theorem dX11_longest_31 : decode cX11_longest 31 = .ok (.aload_n 0, 1) := by decide +kernel
theorem dX11_longest_32 : decode cX11_longest 32 = .ok (.getfield 41, 3) := by decide +kernel
theorem dX11_longest_35 : decode cX11_longest 35 = .ok (.aload_n 0, 1) := by decide +kernel
theorem dX11_longest_36 : decode cX11_longest 36 = .ok (.getfield 29, 3) := by decide +kernel
theorem dX11_longest_39 : decode cX11_longest 39 = .ok (.iload_n 1, 1) := by decide +kernel
theorem dX11_longest_40 : decode cX11_longest 40 = .ok (.invokevirtual 270, 3) := by decide +kernel
theorem dX11_longest_43 : decode cX11_longest 43 = .ok (.iconst 0, 1) := by decide +kernel
theorem dX11_longest_44 : decode cX11_longest 44 = .ok (.istore_n 2, 1) := by decide +kernel
theorem dX11_longest_45 : decode cX11_longest 45 = .ok (.aload_n 0, 1) := by decide +kernel
theorem dX11_longest_46 : decode cX11_longest 46 = .ok (.getfield 29, 3) := by decide +kernel
theorem dX11_longest_49 : decode cX11_longest 49 = .ok (.getfield 173, 3) := by decide +kernel
theorem dX11_longest_52 : decode cX11_longest 52 = .ok (.istore_n 3, 1) := by decide +kernel
theorem dX11_longest_53 : decode cX11_longest 53 = .ok (.iload_n 3, 1) := by decide +kernel
theorem dX11_longest_54 : decode cX11_longest 54 = .ok (.aload_n 0, 1) := by decide +kernel
theorem dX11_longest_55 : decode cX11_longest 55 = .ok (.getfield 29, 3) := by decide +kernel
theorem dX11_longest_58 : decode cX11_longest 58 = .ok (.getfield 170, 3) := by decide +kernel
theorem dX11_longest_61 : decode cX11_longest 61 = .ok (.if_icmp .ge 34, 3) := by decide +kernel
theorem dX11_longest_64 : decode cX11_longest 64 = .ok (.aload_n 0, 1) := by decide +kernel
theorem dX11_longest_65 : decode cX11_longest 65 = .ok (.getfield 41, 3) := by decide +kernel
theorem dX11_longest_68 : decode cX11_longest 68 = .ok (.iload_n 3, 1) := by decide +kernel
theorem dX11_longest_69 : decode cX11_longest 69 = .ok (.invokevirtual 281, 3) := by decide +kernel
theorem dX11_longest_72 : decode cX11_longest 72 = .ok (.ifCond .eq 17, 3) := by decide +kernel
theorem dX11_longest_75 : decode cX11_longest 75 = .ok (.iload_n 2, 1) := by decide +kernel
theorem dX11_longest_76 : decode cX11_longest 76 = .ok (.aload_n 0, 1) := by decide +kernel
theorem dX11_longest_77 : decode cX11_longest 77 = .ok (.getfield 41, 3) := by decide +kernel
theorem dX11_longest_80 : decode cX11_longest 80 = .ok (.getfield 274, 3) := by decide +kernel
theorem dX11_longest_83 : decode cX11_longest 83 = .ok (.iload_n 3, 1) := by decide +kernel
theorem dX11_longest_84 : decode cX11_longest 84 = .ok (.iaload, 1) := by decide +kernel
theorem dX11_longest_85 : decode cX11_longest 85 = .ok (.invokestatic 284, 3) := by decide +kernel
theorem dX11_longest_88 : decode cX11_longest 88 = .ok (.istore_n 2, 1) := by decide +kernel
theorem dX11_longest_89 : decode cX11_longest 89 = .ok (.iinc 3 1, 3) := by decide +kernel
theorem dX11_longest_92 : decode cX11_longest 92 = .ok (.goto (-39), 3) := by decide +kernel
theorem dX11_longest_95 : decode cX11_longest 95 = .ok (.iload_n 2, 1) := by decide +kernel
theorem dX11_longest_96 : decode cX11_longest 96 = .ok (.ireturn, 1) := by decide +kernel
theorem dX11_method_0 : decode cX11_method 0 = .ok (.aload_n 0, 1) := by decide +kernel
theorem dX11_method_1 : decode cX11_method 1 = .ok (.invokevirtual 224, 3) := by decide +kernel
theorem dX11_method_4 : decode cX11_method 4 = .ok (.ifCond .eq 23, 3) := by decide +kernel
theorem dX11_method_7 : decode cX11_method 7 = .ok (.iload_n 1, 1) := by decide +kernel
theorem dX11_method_8 : decode cX11_method 8 = .ok (.ifCond .lt 19, 3) := by decide +kernel
theorem dX11_method_11 : decode cX11_method 11 = .ok (.iload_n 1, 1) := by decide +kernel
theorem dX11_method_12 : decode cX11_method 12 = .ok (.iconst 1, 1) := by decide +kernel
theorem dX11_method_13 : decode cX11_method 13 = .ok (.if_icmp .gt 14, 3) := by decide +kernel
theorem dX11_method_16 : decode cX11_method 16 = .ok (.iload_n 1, 1) := by decide +kernel
theorem dX11_method_17 : decode cX11_method 17 = .ok (.aload_n 0, 1) := by decide +kernel
theorem dX11_method_18 : decode cX11_method 18 = .ok (.getfield 29, 3) := by decide +kernel
theorem dX11_method_21 : decode cX11_method 21 = .ok (.getfield 190, 3) := by decide +kernel
theorem dX11_method_24 : decode cX11_method 24 = .ok (.if_icmp .ne 9, 3) := by decide +kernel
theorem dX11_method_27 : decode cX11_method 27 = .ok (.aload_n 0, 1) := by decide +kernel
theorem dX11_method_28 : decode cX11_method 28 = .ok (.iconst 3, 1) := by decide +kernel
theorem dX11_method_29 : decode cX11_method 29 = .ok (.invokevirtual 141, 3) := by decide +kernel
theorem dX11_method_32 : decode cX11_method 32 = .ok (.ireturn, 1) := by decide +kernel
theorem dX11_method_33 : decode cX11_method 33 = .ok (.aload_n 0, 1) := by decide +kernel
theorem dX11_method_34 : decode cX11_method 34 = .ok (.invokevirtual 346, 3) := by decide +kernel
theorem dX11_method_37 : decode cX11_method 37 = .ok (.aload_n 0, 1) := by decide +kernel
theorem dX11_method_38 : decode cX11_method 38 = .ok (.getfield 29, 3) := by decide +kernel
theorem dX11_method_41 : decode cX11_method 41 = .ok (.iload_n 1, 1) := by decide +kernel
theorem dX11_method_42 : decode cX11_method 42 = .ok (.putfield 190, 3) := by decide +kernel
theorem dX11_method_45 : decode cX11_method 45 = .ok (.iconst 1, 1) := by decide +kernel
theorem dX11_method_46 : decode cX11_method 46 = .ok (.ireturn, 1) := by decide +kernel
theorem dX11_numberOf_0 : decode cX11_numberOf 0 = .ok (.iload_n 0, 1) := by decide +kernel
theorem dX11_numberOf_1 : decode cX11_numberOf 1 = .ok (.sipush 2047, 3) := by decide +kernel
theorem dX11_numberOf_4 : decode cX11_numberOf 4 = .ok (.iand, 1) := by decide +kernel
theorem dX11_numberOf_5 : decode cX11_numberOf 5 = .ok (.sipush 1000, 3) := by decide +kernel
theorem dX11_numberOf_8 : decode cX11_numberOf 8 = .ok (.isub, 1) := by decide +kernel
theorem dX11_numberOf_9 : decode cX11_numberOf 9 = .ok (.ireturn, 1) := by decide +kernel
theorem dX11_octet_0 : decode cX11_octet 0 = .ok (.iload_n 1, 1) := by decide +kernel
theorem dX11_octet_1 : decode cX11_octet 1 = .ok (.ifCond .lt 14, 3) := by decide +kernel
theorem dX11_octet_4 : decode cX11_octet 4 = .ok (.iload_n 1, 1) := by decide +kernel
theorem dX11_octet_5 : decode cX11_octet 5 = .ok (.aload_n 0, 1) := by decide +kernel
theorem dX11_octet_6 : decode cX11_octet 6 = .ok (.getfield 102, 3) := by decide +kernel
theorem dX11_octet_9 : decode cX11_octet 9 = .ok (.getfield 375, 3) := by decide +kernel
theorem dX11_octet_12 : decode cX11_octet 12 = .ok (.if_icmp .lt 7, 3) := by decide +kernel
theorem dX11_octet_15 : decode cX11_octet 15 = .ok (.iconst (-1), 1) := by decide +kernel
theorem dX11_octet_16 : decode cX11_octet 16 = .ok (.goto 12, 3) := by decide +kernel
theorem dX11_octet_19 : decode cX11_octet 19 = .ok (.aload_n 0, 1) := by decide +kernel
theorem dX11_octet_20 : decode cX11_octet 20 = .ok (.getfield 102, 3) := by decide +kernel
theorem dX11_octet_23 : decode cX11_octet 23 = .ok (.getfield 376, 3) := by decide +kernel
theorem dX11_octet_26 : decode cX11_octet 26 = .ok (.iload_n 1, 1) := by decide +kernel
theorem dX11_octet_27 : decode cX11_octet 27 = .ok (.iaload, 1) := by decide +kernel
theorem dX11_octet_28 : decode cX11_octet 28 = .ok (.ireturn, 1) := by decide +kernel
theorem dX11_on_0 : decode cX11_on 0 = .ok (.aload_n 0, 1) := by decide +kernel
theorem dX11_on_1 : decode cX11_on 1 = .ok (.getfield 29, 3) := by decide +kernel
theorem dX11_on_4 : decode cX11_on 4 = .ok (.getfield 170, 3) := by decide +kernel
theorem dX11_on_7 : decode cX11_on 7 = .ok (.ifCond .le 32, 3) := by decide +kernel
theorem dX11_on_10 : decode cX11_on 10 = .ok (.aload_n 0, 1) := by decide +kernel
theorem dX11_on_11 : decode cX11_on 11 = .ok (.getfield 102, 3) := by decide +kernel
theorem dX11_on_14 : decode cX11_on 14 = .ok (.aload_n 0, 1) := by decide +kernel
theorem dX11_on_15 : decode cX11_on 15 = .ok (.getfield 33, 3) := by decide +kernel
theorem dX11_on_18 : decode cX11_on 18 = .ok (.aload_n 0, 1) := by decide +kernel
theorem dX11_on_19 : decode cX11_on 19 = .ok (.getfield 12, 3) := by decide +kernel
theorem dX11_on_22 : decode cX11_on 22 = .ok (.aload_n 0, 1) := by decide +kernel
theorem dX11_on_23 : decode cX11_on 23 = .ok (.getfield 29, 3) := by decide +kernel
theorem dX11_on_26 : decode cX11_on 26 = .ok (.getfield 170, 3) := by decide +kernel
theorem dX11_on_29 : decode cX11_on 29 = .ok (.invokevirtual 379, 3) := by decide +kernel
theorem dX11_on_32 : decode cX11_on 32 = .ok (.ifCond .eq 7, 3) := by decide +kernel
theorem dX11_on_35 : decode cX11_on 35 = .ok (.iconst 1, 1) := by decide +kernel
theorem dX11_on_36 : decode cX11_on 36 = .ok (.goto 4, 3) := by decide +kernel
theorem dX11_on_39 : decode cX11_on 39 = .ok (.iconst 0, 1) := by decide +kernel
theorem dX11_on_40 : decode cX11_on 40 = .ok (.istore_n 1, 1) := by decide +kernel
theorem dX11_on_41 : decode cX11_on 41 = .ok (.aload_n 0, 1) := by decide +kernel
theorem dX11_on_42 : decode cX11_on 42 = .ok (.getfield 12, 3) := by decide +kernel
theorem dX11_on_45 : decode cX11_on 45 = .ok (.iconst 0, 1) := by decide +kernel
theorem dX11_on_46 : decode cX11_on 46 = .ok (.putfield 130, 3) := by decide +kernel
theorem dX11_on_49 : decode cX11_on 49 = .ok (.iload_n 1, 1) := by decide +kernel
theorem dX11_on_50 : decode cX11_on 50 = .ok (.ifCond .ne 10, 3) := by decide +kernel
theorem dX11_on_53 : decode cX11_on 53 = .ok (.aload_n 0, 1) := by decide +kernel
theorem dX11_on_54 : decode cX11_on 54 = .ok (.bipush 6, 2) := by decide +kernel
theorem dX11_on_56 : decode cX11_on 56 = .ok (.invokevirtual 141, 3) := by decide +kernel
theorem dX11_on_59 : decode cX11_on 59 = .ok (.ireturn, 1) := by decide +kernel
theorem dX11_on_60 : decode cX11_on 60 = .ok (.aload_n 0, 1) := by decide +kernel
theorem dX11_on_61 : decode cX11_on 61 = .ok (.getfield 29, 3) := by decide +kernel
theorem dX11_on_64 : decode cX11_on 64 = .ok (.aload_n 0, 1) := by decide +kernel
theorem dX11_on_65 : decode cX11_on 65 = .ok (.getfield 33, 3) := by decide +kernel
theorem dX11_on_68 : decode cX11_on 68 = .ok (.invokevirtual 152, 3) := by decide +kernel
theorem dX11_on_71 : decode cX11_on 71 = .ok (.aload_n 0, 1) := by decide +kernel
theorem dX11_on_72 : decode cX11_on 72 = .ok (.iconst 0, 1) := by decide +kernel
theorem dX11_on_73 : decode cX11_on 73 = .ok (.putfield 114, 3) := by decide +kernel
theorem dX11_on_76 : decode cX11_on 76 = .ok (.iconst 1, 1) := by decide +kernel
theorem dX11_on_77 : decode cX11_on 77 = .ok (.ireturn, 1) := by decide +kernel
theorem dX11_pointsTo_0 : decode cX11_pointsTo 0 = .ok (.iload_n 0, 1) := by decide +kernel
theorem dX11_pointsTo_1 : decode cX11_pointsTo 1 = .ok (.sipush 3048, 3) := by decide +kernel
theorem dX11_pointsTo_4 : decode cX11_pointsTo 4 = .ok (.if_icmp .lt 18, 3) := by decide +kernel
theorem dX11_pointsTo_7 : decode cX11_pointsTo 7 = .ok (.iload_n 0, 1) := by decide +kernel
theorem dX11_pointsTo_8 : decode cX11_pointsTo 8 = .ok (.sipush 5096, 3) := by decide +kernel
theorem dX11_pointsTo_11 : decode cX11_pointsTo 11 = .ok (.if_icmp .ge 11, 3) := by decide +kernel
theorem dX11_pointsTo_14 : decode cX11_pointsTo 14 = .ok (.iload_n 0, 1) := by decide +kernel
theorem dX11_pointsTo_15 : decode cX11_pointsTo 15 = .ok (.sipush 3048, 3) := by decide +kernel
theorem dX11_pointsTo_18 : decode cX11_pointsTo 18 = .ok (.isub, 1) := by decide +kernel
theorem dX11_pointsTo_19 : decode cX11_pointsTo 19 = .ok (.goto 4, 3) := by decide +kernel
theorem dX11_pointsTo_22 : decode cX11_pointsTo 22 = .ok (.iconst (-1), 1) := by decide +kernel
theorem dX11_pointsTo_23 : decode cX11_pointsTo 23 = .ok (.ireturn, 1) := by decide +kernel
theorem dX11_ready_0 : decode cX11_ready 0 = .ok (.aload_n 0, 1) := by decide +kernel
theorem dX11_ready_1 : decode cX11_ready 1 = .ok (.getfield 29, 3) := by decide +kernel
theorem dX11_ready_4 : decode cX11_ready 4 = .ok (.getfield 170, 3) := by decide +kernel
theorem dX11_ready_7 : decode cX11_ready 7 = .ok (.ifCond .le 17, 3) := by decide +kernel
theorem dX11_ready_10 : decode cX11_ready 10 = .ok (.aload_n 0, 1) := by decide +kernel
theorem dX11_ready_11 : decode cX11_ready 11 = .ok (.getfield 29, 3) := by decide +kernel
theorem dX11_ready_14 : decode cX11_ready 14 = .ok (.getfield 176, 3) := by decide +kernel
theorem dX11_ready_17 : decode cX11_ready 17 = .ok (.ifCond .ne 7, 3) := by decide +kernel
theorem dX11_ready_20 : decode cX11_ready 20 = .ok (.iconst 1, 1) := by decide +kernel
theorem dX11_ready_21 : decode cX11_ready 21 = .ok (.goto 4, 3) := by decide +kernel
theorem dX11_ready_24 : decode cX11_ready 24 = .ok (.iconst 0, 1) := by decide +kernel
theorem dX11_ready_25 : decode cX11_ready 25 = .ok (.ireturn, 1) := by decide +kernel
theorem dX11_refuse_0 : decode cX11_refuse 0 = .ok (.aload_n 0, 1) := by decide +kernel
theorem dX11_refuse_1 : decode cX11_refuse 1 = .ok (.getfield 106, 3) := by decide +kernel
theorem dX11_refuse_4 : decode cX11_refuse 4 = .ok (.iload_n 1, 1) := by decide +kernel
theorem dX11_refuse_5 : decode cX11_refuse 5 = .ok (.dup2, 1) := by decide +kernel
theorem dX11_refuse_6 : decode cX11_refuse 6 = .ok (.iaload, 1) := by decide +kernel
theorem dX11_refuse_7 : decode cX11_refuse 7 = .ok (.iconst 1, 1) := by decide +kernel
theorem dX11_refuse_8 : decode cX11_refuse 8 = .ok (.iadd, 1) := by decide +kernel
theorem dX11_refuse_9 : decode cX11_refuse 9 = .ok (.iastore, 1) := by decide +kernel
theorem dX11_refuse_10 : decode cX11_refuse 10 = .ok (.iconst (-1), 1) := by decide +kernel
theorem dX11_refuse_11 : decode cX11_refuse 11 = .ok (.ireturn, 1) := by decide +kernel
theorem dX11_remember_0 : decode cX11_remember 0 = .ok (.aload_n 0, 1) := by decide +kernel
