theorem dX10_append_0 : decode cX10_append 0 = .ok (.bipush 24, 2) := by decide +kernel
theorem dX10_append_2 : decode cX10_append 2 = .ok (.istore_n 2, 1) := by decide +kernel
theorem dX10_append_3 : decode cX10_append 3 = .ok (.iload_n 2, 1) := by decide +kernel
theorem dX10_append_4 : decode cX10_append 4 = .ok (.ifCond .lt 45, 3) := by decide +kernel
theorem dX10_append_7 : decode cX10_append 7 = .ok (.aload_n 0, 1) := by decide +kernel
theorem dX10_append_8 : decode cX10_append 8 = .ok (.getfield 15, 3) := by decide +kernel
theorem dX10_append_11 : decode cX10_append 11 = .ok (.sipush 1600, 3) := by decide +kernel
theorem dX10_append_14 : decode cX10_append 14 = .ok (.if_icmp .ge 35, 3) := by decide +kernel
theorem dX10_append_17 : decode cX10_append 17 = .ok (.aload_n 0, 1) := by decide +kernel
theorem dX10_append_18 : decode cX10_append 18 = .ok (.getfield 9, 3) := by decide +kernel
theorem dX10_append_21 : decode cX10_append 21 = .ok (.aload_n 0, 1) := by decide +kernel
theorem dX10_append_22 : decode cX10_append 22 = .ok (.getfield 15, 3) := by decide +kernel
theorem dX10_append_25 : decode cX10_append 25 = .ok (.iload_n 1, 1) := by decide +kernel
theorem dX10_append_26 : decode cX10_append 26 = .ok (.iload_n 2, 1) := by decide +kernel
theorem dX10_append_27 : decode cX10_append 27 = .ok (.ishr, 1) := by decide +kernel
theorem dX10_append_28 : decode cX10_append 28 = .ok (.sipush 255, 3) := by decide +kernel
theorem dX10_append_31 : decode cX10_append 31 = .ok (.iand, 1) := by decide +kernel
theorem dX10_append_32 : decode cX10_append 32 = .ok (.iastore, 1) := by decide +kernel
theorem dX10_append_33 : decode cX10_append 33 = .ok (.aload_n 0, 1) := by decide +kernel
theorem dX10_append_34 : decode cX10_append 34 = .ok (.dup, 1) := by decide +kernel
theorem dX10_append_35 : decode cX10_append 35 = .ok (.getfield 15, 3) := by decide +kernel
theorem dX10_append_38 : decode cX10_append 38 = .ok (.iconst 1, 1) := by decide +kernel
theorem dX10_append_39 : decode cX10_append 39 = .ok (.iadd, 1) := by decide +kernel
theorem dX10_append_40 : decode cX10_append 40 = .ok (.putfield 15, 3) := by decide +kernel
theorem dX10_append_43 : decode cX10_append 43 = .ok (.iinc 2 (-8), 3) := by decide +kernel
theorem dX10_append_46 : decode cX10_append 46 = .ok (.goto (-43), 3) := by decide +kernel
theorem dX10_append_49 : decode cX10_append 49 = .ok (.return_, 1) := by decide +kernel
theorem dX10_isDigit_0 : decode cX10_isDigit 0 = .ok (.iload_n 0, 1) := by decide +kernel
theorem dX10_isDigit_1 : decode cX10_isDigit 1 = .ok (.bipush 48, 2) := by decide +kernel
theorem dX10_isDigit_3 : decode cX10_isDigit 3 = .ok (.if_icmp .lt 13, 3) := by decide +kernel
theorem dX10_isDigit_6 : decode cX10_isDigit 6 = .ok (.iload_n 0, 1) := by decide +kernel
theorem dX10_isDigit_7 : decode cX10_isDigit 7 = .ok (.bipush 57, 2) := by decide +kernel
theorem dX10_isDigit_9 : decode cX10_isDigit 9 = .ok (.if_icmp .gt 7, 3) := by decide +kernel
theorem dX10_isDigit_12 : decode cX10_isDigit 12 = .ok (.iconst 1, 1) := by decide +kernel
theorem dX10_isDigit_13 : decode cX10_isDigit 13 = .ok (.goto 4, 3) := by decide +kernel
theorem dX10_isDigit_16 : decode cX10_isDigit 16 = .ok (.iconst 0, 1) := by decide +kernel
theorem dX10_isDigit_17 : decode cX10_isDigit 17 = .ok (.ireturn, 1) := by decide +kernel
theorem dX10_isLetter_0 : decode cX10_isLetter 0 = .ok (.iload_n 0, 1) := by decide +kernel
theorem dX10_isLetter_1 : decode cX10_isLetter 1 = .ok (.bipush 97, 2) := by decide +kernel
theorem dX10_isLetter_3 : decode cX10_isLetter 3 = .ok (.if_icmp .lt 9, 3) := by decide +kernel
theorem dX10_isLetter_6 : decode cX10_isLetter 6 = .ok (.iload_n 0, 1) := by decide +kernel
theorem dX10_isLetter_7 : decode cX10_isLetter 7 = .ok (.bipush 122, 2) := by decide +kernel
theorem dX10_isLetter_9 : decode cX10_isLetter 9 = .ok (.if_icmp .le 15, 3) := by decide +kernel
theorem dX10_isLetter_12 : decode cX10_isLetter 12 = .ok (.iload_n 0, 1) := by decide +kernel
theorem dX10_isLetter_13 : decode cX10_isLetter 13 = .ok (.bipush 65, 2) := by decide +kernel
theorem dX10_isLetter_15 : decode cX10_isLetter 15 = .ok (.if_icmp .lt 13, 3) := by decide +kernel
theorem dX10_isLetter_18 : decode cX10_isLetter 18 = .ok (.iload_n 0, 1) := by decide +kernel
theorem dX10_isLetter_19 : decode cX10_isLetter 19 = .ok (.bipush 90, 2) := by decide +kernel
theorem dX10_isLetter_21 : decode cX10_isLetter 21 = .ok (.if_icmp .gt 7, 3) := by decide +kernel
theorem dX10_isLetter_24 : decode cX10_isLetter 24 = .ok (.iconst 1, 1) := by decide +kernel
theorem dX10_isLetter_25 : decode cX10_isLetter 25 = .ok (.goto 4, 3) := by decide +kernel
theorem dX10_isLetter_28 : decode cX10_isLetter 28 = .ok (.iconst 0, 1) := by decide +kernel
theorem dX10_isLetter_29 : decode cX10_isLetter 29 = .ok (.ireturn, 1) := by decide +kernel
theorem dX10_isName_0 : decode cX10_isName 0 = .ok (.aload_n 0, 1) := by decide +kernel
theorem dX10_isName_1 : decode cX10_isName 1 = .ok (.getfield 28, 3) := by decide +kernel
theorem dX10_isName_4 : decode cX10_isName 4 = .ok (.iconst (-1), 1) := by decide +kernel
theorem dX10_isName_5 : decode cX10_isName 5 = .ok (.if_icmp .eq 13, 3) := by decide +kernel
theorem dX10_isName_8 : decode cX10_isName 8 = .ok (.aload_n 0, 1) := by decide +kernel
theorem dX10_isName_9 : decode cX10_isName 9 = .ok (.iconst 1, 1) := by decide +kernel
theorem dX10_isName_10 : decode cX10_isName 10 = .ok (.aload_n 0, 1) := by decide +kernel
theorem dX10_isName_11 : decode cX10_isName 11 = .ok (.getfield 22, 3) := by decide +kernel
theorem dX10_isName_14 : decode cX10_isName 14 = .ok (.invokevirtual 48, 3) := by decide +kernel
theorem dX10_isName_17 : decode cX10_isName 17 = .ok (.ireturn, 1) := by decide +kernel
theorem dX10_isName_18 : decode cX10_isName 18 = .ok (.aload_n 0, 1) := by decide +kernel
theorem dX10_isName_19 : decode cX10_isName 19 = .ok (.getfield 25, 3) := by decide +kernel
theorem dX10_isName_22 : decode cX10_isName 22 = .ok (.aload_n 0, 1) := by decide +kernel
theorem dX10_isName_23 : decode cX10_isName 23 = .ok (.getfield 22, 3) := by decide +kernel
theorem dX10_isName_26 : decode cX10_isName 26 = .ok (.isub, 1) := by decide +kernel
theorem dX10_isName_27 : decode cX10_isName 27 = .ok (.bipush 6, 2) := by decide +kernel
theorem dX10_isName_29 : decode cX10_isName 29 = .ok (.if_icmp .le 16, 3) := by decide +kernel
theorem dX10_isName_32 : decode cX10_isName 32 = .ok (.aload_n 0, 1) := by decide +kernel
theorem dX10_isName_33 : decode cX10_isName 33 = .ok (.iconst 1, 1) := by decide +kernel
theorem dX10_isName_34 : decode cX10_isName 34 = .ok (.aload_n 0, 1) := by decide +kernel
theorem dX10_isName_35 : decode cX10_isName 35 = .ok (.getfield 22, 3) := by decide +kernel
theorem dX10_isName_38 : decode cX10_isName 38 = .ok (.bipush 6, 2) := by decide +kernel
theorem dX10_isName_40 : decode cX10_isName 40 = .ok (.iadd, 1) := by decide +kernel
theorem dX10_isName_41 : decode cX10_isName 41 = .ok (.invokevirtual 48, 3) := by decide +kernel
theorem dX10_isName_44 : decode cX10_isName 44 = .ok (.ireturn, 1) := by decide +kernel
theorem dX10_isName_45 : decode cX10_isName 45 = .ok (.aload_n 0, 1) := by decide +kernel
theorem dX10_isName_46 : decode cX10_isName 46 = .ok (.lconst 0, 1) := by decide +kernel
theorem dX10_isName_47 : decode cX10_isName 47 = .ok (.putfield 31, 3) := by decide +kernel
theorem dX10_isName_50 : decode cX10_isName 50 = .ok (.aload_n 0, 1) := by decide +kernel
theorem dX10_isName_51 : decode cX10_isName 51 = .ok (.getfield 22, 3) := by decide +kernel
theorem dX10_isName_54 : decode cX10_isName 54 = .ok (.istore_n 1, 1) := by decide +kernel
theorem dX10_isName_55 : decode cX10_isName 55 = .ok (.iload_n 1, 1) := by decide +kernel
theorem dX10_isName_56 : decode cX10_isName 56 = .ok (.aload_n 0, 1) := by decide +kernel
theorem dX10_isName_57 : decode cX10_isName 57 = .ok (.getfield 25, 3) := by decide +kernel
theorem dX10_isName_60 : decode cX10_isName 60 = .ok (.if_icmp .ge 29, 3) := by decide +kernel
theorem dX10_isName_63 : decode cX10_isName 63 = .ok (.aload_n 0, 1) := by decide +kernel
theorem dX10_isName_64 : decode cX10_isName 64 = .ok (.aload_n 0, 1) := by decide +kernel
theorem dX10_isName_65 : decode cX10_isName 65 = .ok (.getfield 31, 3) := by decide +kernel
theorem dX10_isName_68 : decode cX10_isName 68 = .ok (.ldc2_w 59, 3) := by decide +kernel
theorem dX10_isName_71 : decode cX10_isName 71 = .ok (.lmul, 1) := by decide +kernel
theorem dX10_isName_72 : decode cX10_isName 72 = .ok (.aload_n 0, 1) := by decide +kernel
theorem dX10_isName_73 : decode cX10_isName 73 = .ok (.getfield 9, 3) := by decide +kernel
theorem dX10_isName_76 : decode cX10_isName 76 = .ok (.iload_n 1, 1) := by decide +kernel
theorem dX10_isName_77 : decode cX10_isName 77 = .ok (.iaload, 1) := by decide +kernel
theorem dX10_isName_78 : decode cX10_isName 78 = .ok (.i2l, 1) := by decide +kernel
theorem dX10_isName_79 : decode cX10_isName 79 = .ok (.ladd, 1) := by decide +kernel
theorem dX10_isName_80 : decode cX10_isName 80 = .ok (.putfield 31, 3) := by decide +kernel
theorem dX10_isName_83 : decode cX10_isName 83 = .ok (.iinc 1 1, 3) := by decide +kernel
theorem dX10_isName_86 : decode cX10_isName 86 = .ok (.goto (-31), 3) := by decide +kernel
theorem dX10_isName_89 : decode cX10_isName 89 = .ok (.iconst 1, 1) := by decide +kernel
theorem dX10_isName_90 : decode cX10_isName 90 = .ok (.ireturn, 1) := by decide +kernel
theorem dX10_needsSign_0 : decode cX10_needsSign 0 = .ok (.aload_n 0, 1) := by decide +kernel
theorem dX10_needsSign_1 : decode cX10_needsSign 1 = .ok (.invokevirtual 44, 3) := by decide +kernel
theorem dX10_needsSign_4 : decode cX10_needsSign 4 = .ok (.iload_n 1, 1) := by decide +kernel
theorem dX10_needsSign_5 : decode cX10_needsSign 5 = .ok (.if_icmp .eq 13, 3) := by decide +kernel
theorem dX10_needsSign_8 : decode cX10_needsSign 8 = .ok (.aload_n 0, 1) := by decide +kernel
theorem dX10_needsSign_9 : decode cX10_needsSign 9 = .ok (.iconst 1, 1) := by decide +kernel
theorem dX10_needsSign_10 : decode cX10_needsSign 10 = .ok (.aload_n 0, 1) := by decide +kernel
theorem dX10_needsSign_11 : decode cX10_needsSign 11 = .ok (.getfield 19, 3) := by decide +kernel
theorem dX10_needsSign_14 : decode cX10_needsSign 14 = .ok (.invokevirtual 48, 3) := by decide +kernel
theorem dX10_needsSign_17 : decode cX10_needsSign 17 = .ok (.ireturn, 1) := by decide +kernel
theorem dX10_needsSign_18 : decode cX10_needsSign 18 = .ok (.aload_n 0, 1) := by decide +kernel
theorem dX10_needsSign_19 : decode cX10_needsSign 19 = .ok (.dup, 1) := by decide +kernel
theorem dX10_needsSign_20 : decode cX10_needsSign 20 = .ok (.getfield 19, 3) := by decide +kernel
theorem dX10_needsSign_23 : decode cX10_needsSign 23 = .ok (.iconst 1, 1) := by decide +kernel
theorem dX10_needsSign_24 : decode cX10_needsSign 24 = .ok (.iadd, 1) := by decide +kernel
theorem dX10_needsSign_25 : decode cX10_needsSign 25 = .ok (.putfield 19, 3) := by decide +kernel
theorem dX10_needsSign_28 : decode cX10_needsSign 28 = .ok (.iconst 1, 1) := by decide +kernel
theorem dX10_needsSign_29 : decode cX10_needsSign 29 = .ok (.ireturn, 1) := by decide +kernel
theorem dX10_peek_0 : decode cX10_peek 0 = .ok (.aload_n 0, 1) := by decide +kernel
theorem dX10_peek_1 : decode cX10_peek 1 = .ok (.getfield 19, 3) := by decide +kernel
theorem dX10_peek_4 : decode cX10_peek 4 = .ok (.aload_n 0, 1) := by decide +kernel
theorem dX10_peek_5 : decode cX10_peek 5 = .ok (.getfield 15, 3) := by decide +kernel
theorem dX10_peek_8 : decode cX10_peek 8 = .ok (.if_icmp .ge 44, 3) := by decide +kernel
theorem dX10_peek_11 : decode cX10_peek 11 = .ok (.aload_n 0, 1) := by decide +kernel
theorem dX10_peek_12 : decode cX10_peek 12 = .ok (.getfield 9, 3) := by decide +kernel
theorem dX10_peek_15 : decode cX10_peek 15 = .ok (.aload_n 0, 1) := by decide +kernel
theorem dX10_peek_16 : decode cX10_peek 16 = .ok (.getfield 19, 3) := by decide +kernel
theorem dX10_peek_19 : decode cX10_peek 19 = .ok (.iaload, 1) := by decide +kernel
theorem dX10_peek_20 : decode cX10_peek 20 = .ok (.bipush 32, 2) := by decide +kernel
theorem dX10_peek_22 : decode cX10_peek 22 = .ok (.if_icmp .eq 17, 3) := by decide +kernel
theorem dX10_peek_25 : decode cX10_peek 25 = .ok (.aload_n 0, 1) := by decide +kernel
theorem dX10_peek_26 : decode cX10_peek 26 = .ok (.getfield 9, 3) := by decide +kernel
theorem dX10_peek_29 : decode cX10_peek 29 = .ok (.aload_n 0, 1) := by decide +kernel
theorem dX10_peek_30 : decode cX10_peek 30 = .ok (.getfield 19, 3) := by decide +kernel
theorem dX10_peek_33 : decode cX10_peek 33 = .ok (.iaload, 1) := by decide +kernel
theorem dX10_peek_34 : decode cX10_peek 34 = .ok (.bipush 10, 2) := by decide +kernel
theorem dX10_peek_36 : decode cX10_peek 36 = .ok (.if_icmp .ne 16, 3) := by decide +kernel
theorem dX10_peek_39 : decode cX10_peek 39 = .ok (.aload_n 0, 1) := by decide +kernel
theorem dX10_peek_40 : decode cX10_peek 40 = .ok (.dup, 1) := by decide +kernel
theorem dX10_peek_41 : decode cX10_peek 41 = .ok (.getfield 19, 3) := by decide +kernel
theorem dX10_peek_44 : decode cX10_peek 44 = .ok (.iconst 1, 1) := by decide +kernel
theorem dX10_peek_45 : decode cX10_peek 45 = .ok (.iadd, 1) := by decide +kernel
theorem dX10_peek_46 : decode cX10_peek 46 = .ok (.putfield 19, 3) := by decide +kernel
theorem dX10_peek_49 : decode cX10_peek 49 = .ok (.goto (-49), 3) := by decide +kernel
theorem dX10_peek_52 : decode cX10_peek 52 = .ok (.aload_n 0, 1) := by decide +kernel
theorem dX10_peek_53 : decode cX10_peek 53 = .ok (.getfield 19, 3) := by decide +kernel
theorem dX10_peek_56 : decode cX10_peek 56 = .ok (.aload_n 0, 1) := by decide +kernel
theorem dX10_peek_57 : decode cX10_peek 57 = .ok (.getfield 15, 3) := by decide +kernel
theorem dX10_peek_60 : decode cX10_peek 60 = .ok (.if_icmp .ge 15, 3) := by decide +kernel
theorem dX10_peek_63 : decode cX10_peek 63 = .ok (.aload_n 0, 1) := by decide +kernel
theorem dX10_peek_64 : decode cX10_peek 64 = .ok (.getfield 9, 3) := by decide +kernel
theorem dX10_peek_67 : decode cX10_peek 67 = .ok (.aload_n 0, 1) := by decide +kernel
theorem dX10_peek_68 : decode cX10_peek 68 = .ok (.getfield 19, 3) := by decide +kernel
theorem dX10_peek_71 : decode cX10_peek 71 = .ok (.iaload, 1) := by decide +kernel
theorem dX10_peek_72 : decode cX10_peek 72 = .ok (.goto 4, 3) := by decide +kernel
theorem dX10_peek_75 : decode cX10_peek 75 = .ok (.iconst (-1), 1) := by decide +kernel
theorem dX10_peek_76 : decode cX10_peek 76 = .ok (.ireturn, 1) := by decide +kernel
theorem dX10_register_0 : decode cX10_register 0 = .ok (.aload_n 0, 1) := by decide +kernel
theorem dX10_register_1 : decode cX10_register 1 = .ok (.getfield 9, 3) := by decide +kernel
theorem dX10_register_4 : decode cX10_register 4 = .ok (.aload_n 0, 1) := by decide +kernel
theorem dX10_register_5 : decode cX10_register 5 = .ok (.getfield 22, 3) := by decide +kernel
theorem dX10_register_8 : decode cX10_register 8 = .ok (.iaload, 1) := by decide +kernel
theorem dX10_register_9 : decode cX10_register 9 = .ok (.bipush 97, 2) := by decide +kernel
theorem dX10_register_11 : decode cX10_register 11 = .ok (.isub, 1) := by decide +kernel
theorem dX10_register_12 : decode cX10_register 12 = .ok (.istore_n 1, 1) := by decide +kernel
theorem dX10_register_13 : decode cX10_register 13 = .ok (.aload_n 0, 1) := by decide +kernel
theorem dX10_register_14 : decode cX10_register 14 = .ok (.getfield 25, 3) := by decide +kernel
theorem dX10_register_17 : decode cX10_register 17 = .ok (.aload_n 0, 1) := by decide +kernel
theorem dX10_register_18 : decode cX10_register 18 = .ok (.getfield 22, 3) := by decide +kernel
theorem dX10_register_21 : decode cX10_register 21 = .ok (.isub, 1) := by decide +kernel
theorem dX10_register_22 : decode cX10_register 22 = .ok (.iconst 1, 1) := by decide +kernel
theorem dX10_register_23 : decode cX10_register 23 = .ok (.if_icmp .ne 17, 3) := by decide +kernel
theorem dX10_register_26 : decode cX10_register 26 = .ok (.iload_n 1, 1) := by decide +kernel
theorem dX10_register_27 : decode cX10_register 27 = .ok (.ifCond .lt 13, 3) := by decide +kernel
theorem dX10_register_30 : decode cX10_register 30 = .ok (.iload_n 1, 1) := by decide +kernel
theorem dX10_register_31 : decode cX10_register 31 = .ok (.bipush 8, 2) := by decide +kernel
theorem dX10_register_33 : decode cX10_register 33 = .ok (.if_icmp .ge 7, 3) := by decide +kernel
theorem dX10_register_36 : decode cX10_register 36 = .ok (.iload_n 1, 1) := by decide +kernel
theorem dX10_register_37 : decode cX10_register 37 = .ok (.goto 4, 3) := by decide +kernel
theorem dX10_register_40 : decode cX10_register 40 = .ok (.iconst (-1), 1) := by decide +kernel
theorem dX10_register_41 : decode cX10_register 41 = .ok (.ireturn, 1) := by decide +kernel
theorem dX10_rewind_0 : decode cX10_rewind 0 = .ok (.aload_n 0, 1) := by decide +kernel
theorem dX10_rewind_1 : decode cX10_rewind 1 = .ok (.iconst 0, 1) := by decide +kernel
theorem dX10_rewind_2 : decode cX10_rewind 2 = .ok (.putfield 19, 3) := by decide +kernel
theorem dX10_rewind_5 : decode cX10_rewind 5 = .ok (.aload_n 0, 1) := by decide +kernel
theorem dX10_rewind_6 : decode cX10_rewind 6 = .ok (.iconst (-1), 1) := by decide +kernel
theorem dX10_rewind_7 : decode cX10_rewind 7 = .ok (.putfield 25, 3) := by decide +kernel
theorem dX10_rewind_10 : decode cX10_rewind 10 = .ok (.aload_n 0, 1) := by decide +kernel
theorem dX10_rewind_11 : decode cX10_rewind 11 = .ok (.iconst 0, 1) := by decide +kernel
theorem dX10_rewind_12 : decode cX10_rewind 12 = .ok (.putfield 38, 3) := by decide +kernel
theorem dX10_rewind_15 : decode cX10_rewind 15 = .ok (.aload_n 0, 1) := by decide +kernel
theorem dX10_rewind_16 : decode cX10_rewind 16 = .ok (.iconst (-1), 1) := by decide +kernel
theorem dX10_rewind_17 : decode cX10_rewind 17 = .ok (.putfield 41, 3) := by decide +kernel
theorem dX10_rewind_20 : decode cX10_rewind 20 = .ok (.return_, 1) := by decide +kernel
theorem dX10_takesNumber_0 : decode cX10_takesNumber 0 = .ok (.aload_n 0, 1) := by decide +kernel
theorem dX10_takesNumber_1 : decode cX10_takesNumber 1 = .ok (.invokevirtual 44, 3) := by decide +kernel
theorem dX10_takesNumber_4 : decode cX10_takesNumber 4 = .ok (.invokestatic 61, 3) := by decide +kernel
theorem dX10_takesNumber_7 : decode cX10_takesNumber 7 = .ok (.ifCond .eq 14, 3) := by decide +kernel
theorem dX10_takesNumber_10 : decode cX10_takesNumber 10 = .ok (.aload_n 0, 1) := by decide +kernel
theorem dX10_takesNumber_11 : decode cX10_takesNumber 11 = .ok (.getfield 19, 3) := by decide +kernel
theorem dX10_takesNumber_14 : decode cX10_takesNumber 14 = .ok (.aload_n 0, 1) := by decide +kernel
theorem dX10_takesNumber_15 : decode cX10_takesNumber 15 = .ok (.getfield 25, 3) := by decide +kernel
theorem dX10_takesNumber_18 : decode cX10_takesNumber 18 = .ok (.if_icmp .ne 13, 3) := by decide +kernel
theorem dX10_takesNumber_21 : decode cX10_takesNumber 21 = .ok (.aload_n 0, 1) := by decide +kernel
theorem dX10_takesNumber_22 : decode cX10_takesNumber 22 = .ok (.iconst 1, 1) := by decide +kernel
theorem dX10_takesNumber_23 : decode cX10_takesNumber 23 = .ok (.aload_n 0, 1) := by decide +kernel
theorem dX10_takesNumber_24 : decode cX10_takesNumber 24 = .ok (.getfield 19, 3) := by decide +kernel
theorem dX10_takesNumber_27 : decode cX10_takesNumber 27 = .ok (.invokevirtual 48, 3) := by decide +kernel
theorem dX10_takesNumber_30 : decode cX10_takesNumber 30 = .ok (.ireturn, 1) := by decide +kernel
theorem dX10_takesNumber_31 : decode cX10_takesNumber 31 = .ok (.aload_n 0, 1) := by decide +kernel
theorem dX10_takesNumber_32 : decode cX10_takesNumber 32 = .ok (.aload_n 0, 1) := by decide +kernel
theorem dX10_takesNumber_33 : decode cX10_takesNumber 33 = .ok (.getfield 19, 3) := by decide +kernel
theorem dX10_takesNumber_36 : decode cX10_takesNumber 36 = .ok (.putfield 22, 3) := by decide +kernel
theorem dX10_takesNumber_39 : decode cX10_takesNumber 39 = .ok (.aload_n 0, 1) := by decide +kernel
theorem dX10_takesNumber_40 : decode cX10_takesNumber 40 = .ok (.iconst 0, 1) := by decide +kernel
theorem dX10_takesNumber_41 : decode cX10_takesNumber 41 = .ok (.putfield 35, 3) := by decide +kernel
theorem dX10_takesNumber_44 : decode cX10_takesNumber 44 = .ok (.aload_n 0, 1) := by decide +kernel
theorem dX10_takesNumber_45 : decode cX10_takesNumber 45 = .ok (.getfield 19, 3) := by decide +kernel
theorem dX10_takesNumber_48 : decode cX10_takesNumber 48 = .ok (.aload_n 0, 1) := by decide +kernel
theorem dX10_takesNumber_49 : decode cX10_takesNumber 49 = .ok (.getfield 15, 3) := by decide +kernel
theorem dX10_takesNumber_52 : decode cX10_takesNumber 52 = .ok (.if_icmp .ge 68, 3) := by decide +kernel
theorem dX10_takesNumber_55 : decode cX10_takesNumber 55 = .ok (.aload_n 0, 1) := by decide +kernel
theorem dX10_takesNumber_56 : decode cX10_takesNumber 56 = .ok (.getfield 19, 3) := by decide +kernel
theorem dX10_takesNumber_59 : decode cX10_takesNumber 59 = .ok (.aload_n 0, 1) := by decide +kernel
theorem dX10_takesNumber_60 : decode cX10_takesNumber 60 = .ok (.getfield 22, 3) := by decide +kernel
theorem dX10_takesNumber_63 : decode cX10_takesNumber 63 = .ok (.iconst 3, 1) := by decide +kernel
theorem dX10_takesNumber_64 : decode cX10_takesNumber 64 = .ok (.iadd, 1) := by decide +kernel
theorem dX10_takesNumber_65 : decode cX10_takesNumber 65 = .ok (.if_icmp .ge 55, 3) := by decide +kernel
theorem dX10_takesNumber_68 : decode cX10_takesNumber 68 = .ok (.aload_n 0, 1) := by decide +kernel
theorem dX10_takesNumber_69 : decode cX10_takesNumber 69 = .ok (.getfield 9, 3) := by decide +kernel
theorem dX10_takesNumber_72 : decode cX10_takesNumber 72 = .ok (.aload_n 0, 1) := by decide +kernel
theorem dX10_takesNumber_73 : decode cX10_takesNumber 73 = .ok (.getfield 19, 3) := by decide +kernel
theorem dX10_takesNumber_76 : decode cX10_takesNumber 76 = .ok (.iaload, 1) := by decide +kernel
theorem dX10_takesNumber_77 : decode cX10_takesNumber 77 = .ok (.invokestatic 61, 3) := by decide +kernel
theorem dX10_takesNumber_80 : decode cX10_takesNumber 80 = .ok (.ifCond .eq 40, 3) := by decide +kernel
theorem dX10_takesNumber_83 : decode cX10_takesNumber 83 = .ok (.aload_n 0, 1) := by decide +kernel
theorem dX10_takesNumber_84 : decode cX10_takesNumber 84 = .ok (.aload_n 0, 1) := by decide +kernel
theorem dX10_takesNumber_85 : decode cX10_takesNumber 85 = .ok (.getfield 35, 3) := by decide +kernel
theorem dX10_takesNumber_88 : decode cX10_takesNumber 88 = .ok (.bipush 10, 2) := by decide +kernel
theorem dX10_takesNumber_90 : decode cX10_takesNumber 90 = .ok (.imul, 1) := by decide +kernel
theorem dX10_takesNumber_91 : decode cX10_takesNumber 91 = .ok (.aload_n 0, 1) := by decide +kernel
theorem dX10_takesNumber_92 : decode cX10_takesNumber 92 = .ok (.getfield 9, 3) := by decide +kernel
theorem dX10_takesNumber_95 : decode cX10_takesNumber 95 = .ok (.aload_n 0, 1) := by decide +kernel
theorem dX10_takesNumber_96 : decode cX10_takesNumber 96 = .ok (.getfield 19, 3) := by decide +kernel
theorem dX10_takesNumber_99 : decode cX10_takesNumber 99 = .ok (.iaload, 1) := by decide +kernel
theorem dX10_takesNumber_100 : decode cX10_takesNumber 100 = .ok (.iadd, 1) := by decide +kernel
theorem dX10_takesNumber_101 : decode cX10_takesNumber 101 = .ok (.bipush 48, 2) := by decide +kernel
theorem dX10_takesNumber_103 : decode cX10_takesNumber 103 = .ok (.isub, 1) := by decide +kernel
theorem dX10_takesNumber_104 : decode cX10_takesNumber 104 = .ok (.putfield 35, 3) := by decide +kernel
theorem dX10_takesNumber_107 : decode cX10_takesNumber 107 = .ok (.aload_n 0, 1) := by decide +kernel
theorem dX10_takesNumber_108 : decode cX10_takesNumber 108 = .ok (.dup, 1) := by decide +kernel
theorem dX10_takesNumber_109 : decode cX10_takesNumber 109 = .ok (.getfield 19, 3) := by decide +kernel
theorem dX10_takesNumber_112 : decode cX10_takesNumber 112 = .ok (.iconst 1, 1) := by decide +kernel
theorem dX10_takesNumber_113 : decode cX10_takesNumber 113 = .ok (.iadd, 1) := by decide +kernel
theorem dX10_takesNumber_114 : decode cX10_takesNumber 114 = .ok (.putfield 19, 3) := by decide +kernel
theorem dX10_takesNumber_117 : decode cX10_takesNumber 117 = .ok (.goto (-73), 3) := by decide +kernel
theorem dX10_takesNumber_120 : decode cX10_takesNumber 120 = .ok (.aload_n 0, 1) := by decide +kernel
theorem dX10_takesNumber_121 : decode cX10_takesNumber 121 = .ok (.aload_n 0, 1) := by decide +kernel
theorem dX10_takesNumber_122 : decode cX10_takesNumber 122 = .ok (.getfield 19, 3) := by decide +kernel
theorem dX10_takesNumber_125 : decode cX10_takesNumber 125 = .ok (.putfield 25, 3) := by decide +kernel
theorem dX10_takesNumber_128 : decode cX10_takesNumber 128 = .ok (.aload_n 0, 1) := by decide +kernel
theorem dX10_takesNumber_129 : decode cX10_takesNumber 129 = .ok (.getfield 19, 3) := by decide +kernel
theorem dX10_takesNumber_132 : decode cX10_takesNumber 132 = .ok (.aload_n 0, 1) := by decide +kernel
theorem dX10_takesNumber_133 : decode cX10_takesNumber 133 = .ok (.getfield 15, 3) := by decide +kernel
theorem dX10_takesNumber_136 : decode cX10_takesNumber 136 = .ok (.if_icmp .ge 28, 3) := by decide +kernel
theorem dX10_takesNumber_139 : decode cX10_takesNumber 139 = .ok (.aload_n 0, 1) := by decide +kernel
theorem dX10_takesNumber_140 : decode cX10_takesNumber 140 = .ok (.getfield 9, 3) := by decide +kernel
theorem dX10_takesNumber_143 : decode cX10_takesNumber 143 = .ok (.aload_n 0, 1) := by decide +kernel
theorem dX10_takesNumber_144 : decode cX10_takesNumber 144 = .ok (.getfield 19, 3) := by decide +kernel
theorem dX10_takesNumber_147 : decode cX10_takesNumber 147 = .ok (.iaload, 1) := by decide +kernel
theorem dX10_takesNumber_148 : decode cX10_takesNumber 148 = .ok (.invokestatic 61, 3) := by decide +kernel
theorem dX10_takesNumber_151 : decode cX10_takesNumber 151 = .ok (.ifCond .eq 13, 3) := by decide +kernel
theorem dX10_takesNumber_154 : decode cX10_takesNumber 154 = .ok (.aload_n 0, 1) := by decide +kernel
theorem dX10_takesNumber_155 : decode cX10_takesNumber 155 = .ok (.iconst 1, 1) := by decide +kernel
theorem dX10_takesNumber_156 : decode cX10_takesNumber 156 = .ok (.aload_n 0, 1) := by decide +kernel
theorem dX10_takesNumber_157 : decode cX10_takesNumber 157 = .ok (.getfield 19, 3) := by decide +kernel
theorem dX10_takesNumber_160 : decode cX10_takesNumber 160 = .ok (.invokevirtual 48, 3) := by decide +kernel
theorem dX10_takesNumber_163 : decode cX10_takesNumber 163 = .ok (.ireturn, 1) := by decide +kernel
theorem dX10_takesNumber_164 : decode cX10_takesNumber 164 = .ok (.aload_n 0, 1) := by decide +kernel
theorem dX10_takesNumber_165 : decode cX10_takesNumber 165 = .ok (.getfield 35, 3) := by decide +kernel
theorem dX10_takesNumber_168 : decode cX10_takesNumber 168 = .ok (.iload_n 1, 1) := by decide +kernel
theorem dX10_takesNumber_169 : decode cX10_takesNumber 169 = .ok (.if_icmp .lt 11, 3) := by decide +kernel
theorem dX10_takesNumber_172 : decode cX10_takesNumber 172 = .ok (.aload_n 0, 1) := by decide +kernel
theorem dX10_takesNumber_173 : decode cX10_takesNumber 173 = .ok (.getfield 35, 3) := by decide +kernel
theorem dX10_takesNumber_176 : decode cX10_takesNumber 176 = .ok (.iload_n 2, 1) := by decide +kernel
theorem dX10_takesNumber_177 : decode cX10_takesNumber 177 = .ok (.if_icmp .le 15, 3) := by decide +kernel
theorem dX10_takesNumber_180 : decode cX10_takesNumber 180 = .ok (.aload_n 0, 1) := by decide +kernel
theorem dX10_takesNumber_181 : decode cX10_takesNumber 181 = .ok (.iconst 2, 1) := by decide +kernel
theorem dX10_takesNumber_182 : decode cX10_takesNumber 182 = .ok (.aload_n 0, 1) := by decide +kernel
theorem dX10_takesNumber_183 : decode cX10_takesNumber 183 = .ok (.getfield 22, 3) := by decide +kernel
theorem dX10_takesNumber_186 : decode cX10_takesNumber 186 = .ok (.invokevirtual 48, 3) := by decide +kernel
theorem dX10_takesNumber_189 : decode cX10_takesNumber 189 = .ok (.ifCond .eq 7, 3) := by decide +kernel
theorem dX10_takesNumber_192 : decode cX10_takesNumber 192 = .ok (.iconst 1, 1) := by decide +kernel
theorem dX10_takesNumber_193 : decode cX10_takesNumber 193 = .ok (.goto 4, 3) := by decide +kernel
theorem dX10_takesNumber_196 : decode cX10_takesNumber 196 = .ok (.iconst 0, 1) := by decide +kernel
theorem dX10_takesNumber_197 : decode cX10_takesNumber 197 = .ok (.ireturn, 1) := by decide +kernel
theorem dX10_takesSign_0 : decode cX10_takesSign 0 = .ok (.aload_n 0, 1) := by decide +kernel
theorem dX10_takesSign_1 : decode cX10_takesSign 1 = .ok (.invokevirtual 44, 3) := by decide +kernel
theorem dX10_takesSign_4 : decode cX10_takesSign 4 = .ok (.iload_n 1, 1) := by decide +kernel
theorem dX10_takesSign_5 : decode cX10_takesSign 5 = .ok (.if_icmp .eq 5, 3) := by decide +kernel
theorem dX10_takesSign_8 : decode cX10_takesSign 8 = .ok (.iconst 0, 1) := by decide +kernel
theorem dX10_takesSign_9 : decode cX10_takesSign 9 = .ok (.ireturn, 1) := by decide +kernel
theorem dX10_takesSign_10 : decode cX10_takesSign 10 = .ok (.aload_n 0, 1) := by decide +kernel
theorem dX10_takesSign_11 : decode cX10_takesSign 11 = .ok (.dup, 1) := by decide +kernel
theorem dX10_takesSign_12 : decode cX10_takesSign 12 = .ok (.getfield 19, 3) := by decide +kernel
theorem dX10_takesSign_15 : decode cX10_takesSign 15 = .ok (.iconst 1, 1) := by decide +kernel
theorem dX10_takesSign_16 : decode cX10_takesSign 16 = .ok (.iadd, 1) := by decide +kernel
theorem dX10_takesSign_17 : decode cX10_takesSign 17 = .ok (.putfield 19, 3) := by decide +kernel
theorem dX10_takesSign_20 : decode cX10_takesSign 20 = .ok (.iconst 1, 1) := by decide +kernel
theorem dX10_takesSign_21 : decode cX10_takesSign 21 = .ok (.ireturn, 1) := by decide +kernel
theorem dX10_wrong_0 : decode cX10_wrong 0 = .ok (.aload_n 0, 1) := by decide +kernel
theorem dX10_wrong_1 : decode cX10_wrong 1 = .ok (.iload_n 1, 1) := by decide +kernel
theorem dX10_wrong_2 : decode cX10_wrong 2 = .ok (.putfield 38, 3) := by decide +kernel
theorem dX10_wrong_5 : decode cX10_wrong 5 = .ok (.aload_n 0, 1) := by decide +kernel
theorem dX10_wrong_6 : decode cX10_wrong 6 = .ok (.iload_n 2, 1) := by decide +kernel
theorem dX10_wrong_7 : decode cX10_wrong 7 = .ok (.putfield 41, 3) := by decide +kernel
theorem dX10_wrong_10 : decode cX10_wrong 10 = .ok (.iconst 0, 1) := by decide +kernel
theorem dX10_wrong_11 : decode cX10_wrong 11 = .ok (.ireturn, 1) := by decide +kernel
