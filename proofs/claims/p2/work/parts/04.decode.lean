theorem dJ7_fill_53178_0 : decode cJ7_fill_53178 0 = .ok (.iconst 0, 1) := by decide +kernel
theorem dJ7_fill_53178_1 : decode cJ7_fill_53178 1 = .ok (.istore_n 2, 1) := by decide +kernel
theorem dJ7_fill_53178_2 : decode cJ7_fill_53178 2 = .ok (.aload_n 0, 1) := by decide +kernel
theorem dJ7_fill_53178_3 : decode cJ7_fill_53178 3 = .ok (.arraylength, 1) := by decide +kernel
theorem dJ7_fill_53178_4 : decode cJ7_fill_53178 4 = .ok (.istore_n 3, 1) := by decide +kernel
theorem dJ7_fill_53178_5 : decode cJ7_fill_53178 5 = .ok (.iload_n 2, 1) := by decide +kernel
theorem dJ7_fill_53178_6 : decode cJ7_fill_53178 6 = .ok (.iload_n 3, 1) := by decide +kernel
theorem dJ7_fill_53178_7 : decode cJ7_fill_53178 7 = .ok (.if_icmp .ge 13, 3) := by decide +kernel
theorem dJ7_fill_53178_10 : decode cJ7_fill_53178 10 = .ok (.aload_n 0, 1) := by decide +kernel
theorem dJ7_fill_53178_11 : decode cJ7_fill_53178 11 = .ok (.iload_n 2, 1) := by decide +kernel
theorem dJ7_fill_53178_12 : decode cJ7_fill_53178 12 = .ok (.iload_n 1, 1) := by decide +kernel
theorem dJ7_fill_53178_13 : decode cJ7_fill_53178 13 = .ok (.iastore, 1) := by decide +kernel
theorem dJ7_fill_53178_14 : decode cJ7_fill_53178 14 = .ok (.iinc 2 1, 3) := by decide +kernel
theorem dJ7_fill_53178_17 : decode cJ7_fill_53178 17 = .ok (.goto (-12), 3) := by decide +kernel
theorem dJ7_fill_53178_20 : decode cJ7_fill_53178 20 = .ok (.return_, 1) := by decide +kernel
theorem dJ7_fill_fda19_0 : decode cJ7_fill_fda19 0 = .ok (.aload_n 0, 1) := by decide +kernel
theorem dJ7_fill_fda19_1 : decode cJ7_fill_fda19 1 = .ok (.arraylength, 1) := by decide +kernel
theorem dJ7_fill_fda19_2 : decode cJ7_fill_fda19 2 = .ok (.iload_n 1, 1) := by decide +kernel
theorem dJ7_fill_fda19_3 : decode cJ7_fill_fda19 3 = .ok (.iload_n 2, 1) := by decide +kernel
theorem dJ7_fill_fda19_4 : decode cJ7_fill_fda19 4 = .ok (.invokestatic 13, 3) := by decide +kernel
theorem dJ7_fill_fda19_7 : decode cJ7_fill_fda19 7 = .ok (.iload_n 1, 1) := by decide +kernel
theorem dJ7_fill_fda19_8 : decode cJ7_fill_fda19 8 = .ok (.istore 4, 2) := by decide +kernel
theorem dJ7_fill_fda19_10 : decode cJ7_fill_fda19 10 = .ok (.iload 4, 2) := by decide +kernel
theorem dJ7_fill_fda19_12 : decode cJ7_fill_fda19 12 = .ok (.iload_n 2, 1) := by decide +kernel
theorem dJ7_fill_fda19_13 : decode cJ7_fill_fda19 13 = .ok (.if_icmp .ge 14, 3) := by decide +kernel
theorem dJ7_fill_fda19_16 : decode cJ7_fill_fda19 16 = .ok (.aload_n 0, 1) := by decide +kernel
theorem dJ7_fill_fda19_17 : decode cJ7_fill_fda19 17 = .ok (.iload 4, 2) := by decide +kernel
theorem dJ7_fill_fda19_19 : decode cJ7_fill_fda19 19 = .ok (.iload_n 3, 1) := by decide +kernel
theorem dJ7_fill_fda19_20 : decode cJ7_fill_fda19 20 = .ok (.iastore, 1) := by decide +kernel
theorem dJ7_fill_fda19_21 : decode cJ7_fill_fda19 21 = .ok (.iinc 4 1, 3) := by decide +kernel
theorem dJ7_fill_fda19_24 : decode cJ7_fill_fda19 24 = .ok (.goto (-14), 3) := by decide +kernel
theorem dJ7_fill_fda19_27 : decode cJ7_fill_fda19 27 = .ok (.return_, 1) := by decide +kernel
theorem dJ7_rangeCheck_23922_0 : decode cJ7_rangeCheck_23922 0 = .ok (.iload_n 1, 1) := by decide +kernel
theorem dJ7_rangeCheck_23922_1 : decode cJ7_rangeCheck_23922 1 = .ok (.iload_n 2, 1) := by decide +kernel
theorem dJ7_rangeCheck_23922_2 : decode cJ7_rangeCheck_23922 2 = .ok (.if_icmp .le 44, 3) := by decide +kernel
theorem dJ7_rangeCheck_23922_46 : decode cJ7_rangeCheck_23922 46 = .ok (.iload_n 1, 1) := by decide +kernel
theorem dJ7_rangeCheck_23922_47 : decode cJ7_rangeCheck_23922 47 = .ok (.ifCond .ge 12, 3) := by decide +kernel
theorem dJ7_rangeCheck_23922_59 : decode cJ7_rangeCheck_23922 59 = .ok (.iload_n 2, 1) := by decide +kernel
theorem dJ7_rangeCheck_23922_60 : decode cJ7_rangeCheck_23922 60 = .ok (.iload_n 0, 1) := by decide +kernel
theorem dJ7_rangeCheck_23922_61 : decode cJ7_rangeCheck_23922 61 = .ok (.if_icmp .le 12, 3) := by decide +kernel
theorem dJ7_rangeCheck_23922_73 : decode cJ7_rangeCheck_23922 73 = .ok (.return_, 1) := by decide +kernel
theorem dX10_append_0 : decode cX10_append 0 = .ok (.bipush 24, 2) := by decide +kernel
theorem dX10_append_2 : decode cX10_append 2 = .ok (.istore_n 2, 1) := by decide +kernel
theorem dX10_append_3 : decode cX10_append 3 = .ok (.iload_n 2, 1) := by decide +kernel
theorem dX10_append_4 : decode cX10_append 4 = .ok (.ifCond .lt 45, 3) := by decide +kernel
theorem dX10_append_7 : decode cX10_append 7 = .ok (.aload_n 0, 1) := by decide +kernel
theorem dX10_append_8 : decode cX10_append 8 = .ok (.getfield 15, 3) := by decide +kernel
theorem dX10_append_11 : decode cX10_append 11 = .ok (.sipush 1600, 3) := by decide +kernel
theorem dX10_append_14 : decode cX10_append 14 = .ok (.if_icmp .ge 35, 3) := by decide +kernel
theorem dX10_append_17 : decode cX10_append 17 = .ok (.aload_n 0, 1) := by decide +kernel
theorem dX10_append_18 : decode cX10_append 18 = .ok (.getfield 9, 3) := by decide +kernel
theorem dX10_append_21 : decode cX10_append 21 = .ok (.aload_n 0, 1) := by decide +kernel
theorem dX10_append_22 : decode cX10_append 22 = .ok (.getfield 15, 3) := by decide +kernel
theorem dX10_append_25 : decode cX10_append 25 = .ok (.iload_n 1, 1) := by decide +kernel
theorem dX10_append_26 : decode cX10_append 26 = .ok (.iload_n 2, 1) := by decide +kernel
theorem dX10_append_27 : decode cX10_append 27 = .ok (.ishr, 1) := by decide +kernel
theorem dX10_append_28 : decode cX10_append 28 = .ok (.sipush 255, 3) := by decide +kernel
theorem dX10_append_31 : decode cX10_append 31 = .ok (.iand, 1) := by decide +kernel
theorem dX10_append_32 : decode cX10_append 32 = .ok (.iastore, 1) := by decide +kernel
theorem dX10_append_33 : decode cX10_append 33 = .ok (.aload_n 0, 1) := by decide +kernel
theorem dX10_append_34 : decode cX10_append 34 = .ok (.dup, 1) := by decide +kernel
theorem dX10_append_35 : decode cX10_append 35 = .ok (.getfield 15, 3) := by decide +kernel
theorem dX10_append_38 : decode cX10_append 38 = .ok (.iconst 1, 1) := by decide +kernel
theorem dX10_append_39 : decode cX10_append 39 = .ok (.iadd, 1) := by decide +kernel
theorem dX10_append_40 : decode cX10_append 40 = .ok (.putfield 15, 3) := by decide +kernel
theorem dX10_append_43 : decode cX10_append 43 = .ok (.iinc 2 (-8), 3) := by decide +kernel
theorem dX10_append_46 : decode cX10_append 46 = .ok (.goto (-43), 3) := by decide +kernel
theorem dX10_append_49 : decode cX10_append 49 = .ok (.return_, 1) := by decide +kernel
theorem dX10_isDigit_0 : decode cX10_isDigit 0 = .ok (.iload_n 0, 1) := by decide +kernel
theorem dX10_isDigit_1 : decode cX10_isDigit 1 = .ok (.bipush 48, 2) := by decide +kernel
theorem dX10_isDigit_3 : decode cX10_isDigit 3 = .ok (.if_icmp .lt 13, 3) := by decide +kernel
theorem dX10_isDigit_6 : decode cX10_isDigit 6 = .ok (.iload_n 0, 1) := by decide +kernel
theorem dX10_isDigit_7 : decode cX10_isDigit 7 = .ok (.bipush 57, 2) := by decide +kernel
theorem dX10_isDigit_9 : decode cX10_isDigit 9 = .ok (.if_icmp .gt 7, 3) := by decide +kernel
theorem dX10_isDigit_12 : decode cX10_isDigit 12 = .ok (.iconst 1, 1) := by decide +kernel
theorem dX10_isDigit_13 : decode cX10_isDigit 13 = .ok (.goto 4, 3) := by decide +kernel
theorem dX10_isDigit_16 : decode cX10_isDigit 16 = .ok (.iconst 0, 1) := by decide +kernel
theorem dX10_isDigit_17 : decode cX10_isDigit 17 = .ok (.ireturn, 1) := by decide +kernel
theorem dX10_isLetter_0 : decode cX10_isLetter 0 = .ok (.iload_n 0, 1) := by decide +kernel
theorem dX10_isLetter_1 : decode cX10_isLetter 1 = .ok (.bipush 97, 2) := by decide +kernel
theorem dX10_isLetter_3 : decode cX10_isLetter 3 = .ok (.if_icmp .lt 9, 3) := by decide +kernel
theorem dX10_isLetter_6 : decode cX10_isLetter 6 = .ok (.iload_n 0, 1) := by decide +kernel
theorem dX10_isLetter_7 : decode cX10_isLetter 7 = .ok (.bipush 122, 2) := by decide +kernel
theorem dX10_isLetter_9 : decode cX10_isLetter 9 = .ok (.if_icmp .le 15, 3) := by decide +kernel
theorem dX10_isLetter_12 : decode cX10_isLetter 12 = .ok (.iload_n 0, 1) := by decide +kernel
theorem dX10_isLetter_13 : decode cX10_isLetter 13 = .ok (.bipush 65, 2) := by decide +kernel
theorem dX10_isLetter_15 : decode cX10_isLetter 15 = .ok (.if_icmp .lt 13, 3) := by decide +kernel
theorem dX10_isLetter_18 : decode cX10_isLetter 18 = .ok (.iload_n 0, 1) := by decide +kernel
theorem dX10_isLetter_19 : decode cX10_isLetter 19 = .ok (.bipush 90, 2) := by decide +kernel
theorem dX10_isLetter_21 : decode cX10_isLetter 21 = .ok (.if_icmp .gt 7, 3) := by decide +kernel
theorem dX10_isLetter_24 : decode cX10_isLetter 24 = .ok (.iconst 1, 1) := by decide +kernel
theorem dX10_isLetter_25 : decode cX10_isLetter 25 = .ok (.goto 4, 3) := by decide +kernel
theorem dX10_isLetter_28 : decode cX10_isLetter 28 = .ok (.iconst 0, 1) := by decide +kernel
theorem dX10_isLetter_29 : decode cX10_isLetter 29 = .ok (.ireturn, 1) := by decide +kernel
theorem dX10_isName_0 : decode cX10_isName 0 = .ok (.aload_n 0, 1) := by decide +kernel
theorem dX10_isName_1 : decode cX10_isName 1 = .ok (.getfield 28, 3) := by decide +kernel
theorem dX10_isName_4 : decode cX10_isName 4 = .ok (.iconst (-1), 1) := by decide +kernel
theorem dX10_isName_5 : decode cX10_isName 5 = .ok (.if_icmp .eq 13, 3) := by decide +kernel
theorem dX10_isName_8 : decode cX10_isName 8 = .ok (.aload_n 0, 1) := by decide +kernel
theorem dX10_isName_9 : decode cX10_isName 9 = .ok (.iconst 1, 1) := by decide +kernel
theorem dX10_isName_10 : decode cX10_isName 10 = .ok (.aload_n 0, 1) := by decide +kernel
theorem dX10_isName_11 : decode cX10_isName 11 = .ok (.getfield 22, 3) := by decide +kernel
theorem dX10_isName_14 : decode cX10_isName 14 = .ok (.invokevirtual 48, 3) := by decide +kernel
theorem dX10_isName_17 : decode cX10_isName 17 = .ok (.ireturn, 1) := by decide +kernel
theorem dX10_isName_18 : decode cX10_isName 18 = .ok (.aload_n 0, 1) := by decide +kernel
theorem dX10_isName_19 : decode cX10_isName 19 = .ok (.getfield 25, 3) := by decide +kernel
theorem dX10_isName_22 : decode cX10_isName 22 = .ok (.aload_n 0, 1) := by decide +kernel
theorem dX10_isName_23 : decode cX10_isName 23 = .ok (.getfield 22, 3) := by decide +kernel
theorem dX10_isName_26 : decode cX10_isName 26 = .ok (.isub, 1) := by decide +kernel
theorem dX10_isName_27 : decode cX10_isName 27 = .ok (.bipush 6, 2) := by decide +kernel
theorem dX10_isName_29 : decode cX10_isName 29 = .ok (.if_icmp .le 16, 3) := by decide +kernel
theorem dX10_isName_32 : decode cX10_isName 32 = .ok (.aload_n 0, 1) := by decide +kernel
theorem dX10_isName_33 : decode cX10_isName 33 = .ok (.iconst 1, 1) := by decide +kernel
theorem dX10_isName_34 : decode cX10_isName 34 = .ok (.aload_n 0, 1) := by decide +kernel
theorem dX10_isName_35 : decode cX10_isName 35 = .ok (.getfield 22, 3) := by decide +kernel
theorem dX10_isName_38 : decode cX10_isName 38 = .ok (.bipush 6, 2) := by decide +kernel
theorem dX10_isName_40 : decode cX10_isName 40 = .ok (.iadd, 1) := by decide +kernel
theorem dX10_isName_41 : decode cX10_isName 41 = .ok (.invokevirtual 48, 3) := by decide +kernel
theorem dX10_isName_44 : decode cX10_isName 44 = .ok (.ireturn, 1) := by decide +kernel
theorem dX10_isName_45 : decode cX10_isName 45 = .ok (.aload_n 0, 1) := by decide +kernel
theorem dX10_isName_46 : decode cX10_isName 46 = .ok (.lconst 0, 1) := by decide +kernel
theorem dX10_isName_47 : decode cX10_isName 47 = .ok (.putfield 31, 3) := by decide +kernel
theorem dX10_isName_50 : decode cX10_isName 50 = .ok (.aload_n 0, 1) := by decide +kernel
theorem dX10_isName_51 : decode cX10_isName 51 = .ok (.getfield 22, 3) := by decide +kernel
theorem dX10_isName_54 : decode cX10_isName 54 = .ok (.istore_n 1, 1) := by decide +kernel
theorem dX10_isName_55 : decode cX10_isName 55 = .ok (.iload_n 1, 1) := by decide +kernel
theorem dX10_isName_56 : decode cX10_isName 56 = .ok (.aload_n 0, 1) := by decide +kernel
theorem dX10_isName_57 : decode cX10_isName 57 = .ok (.getfield 25, 3) := by decide +kernel
theorem dX10_isName_60 : decode cX10_isName 60 = .ok (.if_icmp .ge 29, 3) := by decide +kernel
theorem dX10_isName_63 : decode cX10_isName 63 = .ok (.aload_n 0, 1) := by decide +kernel
theorem dX10_isName_64 : decode cX10_isName 64 = .ok (.aload_n 0, 1) := by decide +kernel
theorem dX10_isName_65 : decode cX10_isName 65 = .ok (.getfield 31, 3) := by decide +kernel
theorem dX10_isName_68 : decode cX10_isName 68 = .ok (.ldc2_w 59, 3) := by decide +kernel
theorem dX10_isName_71 : decode cX10_isName 71 = .ok (.lmul, 1) := by decide +kernel
theorem dX10_isName_72 : decode cX10_isName 72 = .ok (.aload_n 0, 1) := by decide +kernel
theorem dX10_isName_73 : decode cX10_isName 73 = .ok (.getfield 9, 3) := by decide +kernel
theorem dX10_isName_76 : decode cX10_isName 76 = .ok (.iload_n 1, 1) := by decide +kernel
theorem dX10_isName_77 : decode cX10_isName 77 = .ok (.iaload, 1) := by decide +kernel
theorem dX10_isName_78 : decode cX10_isName 78 = .ok (.i2l, 1) := by decide +kernel
theorem dX10_isName_79 : decode cX10_isName 79 = .ok (.ladd, 1) := by decide +kernel
theorem dX10_isName_80 : decode cX10_isName 80 = .ok (.putfield 31, 3) := by decide +kernel
theorem dX10_isName_83 : decode cX10_isName 83 = .ok (.iinc 1 1, 3) := by decide +kernel
theorem dX10_isName_86 : decode cX10_isName 86 = .ok (.goto (-31), 3) := by decide +kernel
theorem dX10_isName_89 : decode cX10_isName 89 = .ok (.iconst 1, 1) := by decide +kernel
theorem dX10_isName_90 : decode cX10_isName 90 = .ok (.ireturn, 1) := by decide +kernel
theorem dX10_needsSign_0 : decode cX10_needsSign 0 = .ok (.aload_n 0, 1) := by decide +kernel
theorem dX10_needsSign_1 : decode cX10_needsSign 1 = .ok (.invokevirtual 44, 3) := by decide +kernel
theorem dX10_needsSign_4 : decode cX10_needsSign 4 = .ok (.iload_n 1, 1) := by decide +kernel
theorem dX10_needsSign_5 : decode cX10_needsSign 5 = .ok (.if_icmp .eq 13, 3) := by decide +kernel
theorem dX10_needsSign_8 : decode cX10_needsSign 8 = .ok (.aload_n 0, 1) := by decide +kernel
theorem dX10_needsSign_9 : decode cX10_needsSign 9 = .ok (.iconst 1, 1) := by decide +kernel
theorem dX10_needsSign_10 : decode cX10_needsSign 10 = .ok (.aload_n 0, 1) := by decide +kernel
theorem dX10_needsSign_11 : decode cX10_needsSign 11 = .ok (.getfield 19, 3) := by decide +kernel
theorem dX10_needsSign_14 : decode cX10_needsSign 14 = .ok (.invokevirtual 48, 3) := by decide +kernel
theorem dX10_needsSign_17 : decode cX10_needsSign 17 = .ok (.ireturn, 1) := by decide +kernel
theorem dX10_needsSign_18 : decode cX10_needsSign 18 = .ok (.aload_n 0, 1) := by decide +kernel
theorem dX10_needsSign_19 : decode cX10_needsSign 19 = .ok (.dup, 1) := by decide +kernel
theorem dX10_needsSign_20 : decode cX10_needsSign 20 = .ok (.getfield 19, 3) := by decide +kernel
theorem dX10_needsSign_23 : decode cX10_needsSign 23 = .ok (.iconst 1, 1) := by decide +kernel
theorem dX10_needsSign_24 : decode cX10_needsSign 24 = .ok (.iadd, 1) := by decide +kernel
theorem dX10_needsSign_25 : decode cX10_needsSign 25 = .ok (.putfield 19, 3) := by decide +kernel
theorem dX10_needsSign_28 : decode cX10_needsSign 28 = .ok (.iconst 1, 1) := by decide +kernel
theorem dX10_needsSign_29 : decode cX10_needsSign 29 = .ok (.ireturn, 1) := by decide +kernel
theorem dX10_peek_0 : decode cX10_peek 0 = .ok (.aload_n 0, 1) := by decide +kernel
theorem dX10_peek_1 : decode cX10_peek 1 = .ok (.getfield 19, 3) := by decide +kernel
theorem dX10_peek_4 : decode cX10_peek 4 = .ok (.aload_n 0, 1) := by decide +kernel
theorem dX10_peek_5 : decode cX10_peek 5 = .ok (.getfield 15, 3) := by decide +kernel
theorem dX10_peek_8 : decode cX10_peek 8 = .ok (.if_icmp .ge 44, 3) := by decide +kernel
theorem dX10_peek_11 : decode cX10_peek 11 = .ok (.aload_n 0, 1) := by decide +kernel
theorem dX10_peek_12 : decode cX10_peek 12 = .ok (.getfield 9, 3) := by decide +kernel
theorem dX10_peek_15 : decode cX10_peek 15 = .ok (.aload_n 0, 1) := by decide +kernel
theorem dX10_peek_16 : decode cX10_peek 16 = .ok (.getfield 19, 3) := by decide +kernel
theorem dX10_peek_19 : decode cX10_peek 19 = .ok (.iaload, 1) := by decide +kernel
theorem dX10_peek_20 : decode cX10_peek 20 = .ok (.bipush 32, 2) := by decide +kernel
theorem dX10_peek_22 : decode cX10_peek 22 = .ok (.if_icmp .eq 17, 3) := by decide +kernel
theorem dX10_peek_25 : decode cX10_peek 25 = .ok (.aload_n 0, 1) := by decide +kernel
theorem dX10_peek_26 : decode cX10_peek 26 = .ok (.getfield 9, 3) := by decide +kernel
theorem dX10_peek_29 : decode cX10_peek 29 = .ok (.aload_n 0, 1) := by decide +kernel
theorem dX10_peek_30 : decode cX10_peek 30 = .ok (.getfield 19, 3) := by decide +kernel
theorem dX10_peek_33 : decode cX10_peek 33 = .ok (.iaload, 1) := by decide +kernel
theorem dX10_peek_34 : decode cX10_peek 34 = .ok (.bipush 10, 2) := by decide +kernel
theorem dX10_peek_36 : decode cX10_peek 36 = .ok (.if_icmp .ne 16, 3) := by decide +kernel
theorem dX10_peek_39 : decode cX10_peek 39 = .ok (.aload_n 0, 1) := by decide +kernel
theorem dX10_peek_40 : decode cX10_peek 40 = .ok (.dup, 1) := by decide +kernel
theorem dX10_peek_41 : decode cX10_peek 41 = .ok (.getfield 19, 3) := by decide +kernel
theorem dX10_peek_44 : decode cX10_peek 44 = .ok (.iconst 1, 1) := by decide +kernel
theorem dX10_peek_45 : decode cX10_peek 45 = .ok (.iadd, 1) := by decide +kernel
theorem dX10_peek_46 : decode cX10_peek 46 = .ok (.putfield 19, 3) := by decide +kernel
theorem dX10_peek_49 : decode cX10_peek 49 = .ok (.goto (-49), 3) := by decide +kernel
theorem dX10_peek_52 : decode cX10_peek 52 = .ok (.aload_n 0, 1) := by decide +kernel
theorem dX10_peek_53 : decode cX10_peek 53 = .ok (.getfield 19, 3) := by decide +kernel
theorem dX10_peek_56 : decode cX10_peek 56 = .ok (.aload_n 0, 1) := by decide +kernel
theorem dX10_peek_57 : decode cX10_peek 57 = .ok (.getfield 15, 3) := by decide +kernel
theorem dX10_peek_60 : decode cX10_peek 60 = .ok (.if_icmp .ge 15, 3) := by decide +kernel
theorem dX10_peek_63 : decode cX10_peek 63 = .ok (.aload_n 0, 1) := by decide +kernel
theorem dX10_peek_64 : decode cX10_peek 64 = .ok (.getfield 9, 3) := by decide +kernel
theorem dX10_peek_67 : decode cX10_peek 67 = .ok (.aload_n 0, 1) := by decide +kernel
theorem dX10_peek_68 : decode cX10_peek 68 = .ok (.getfield 19, 3) := by decide +kernel
theorem dX10_peek_71 : decode cX10_peek 71 = .ok (.iaload, 1) := by decide +kernel
theorem dX10_peek_72 : decode cX10_peek 72 = .ok (.goto 4, 3) := by decide +kernel
theorem dX10_peek_75 : decode cX10_peek 75 = .ok (.iconst (-1), 1) := by decide +kernel
theorem dX10_peek_76 : decode cX10_peek 76 = .ok (.ireturn, 1) := by decide +kernel
theorem dX10_register_0 : decode cX10_register 0 = .ok (.aload_n 0, 1) := by decide +kernel
theorem dX10_register_1 : decode cX10_register 1 = .ok (.getfield 9, 3) := by decide +kernel
theorem dX10_register_4 : decode cX10_register 4 = .ok (.aload_n 0, 1) := by decide +kernel
theorem dX10_register_5 : decode cX10_register 5 = .ok (.getfield 22, 3) := by decide +kernel
theorem dX10_register_8 : decode cX10_register 8 = .ok (.iaload, 1) := by decide +kernel
theorem dX10_register_9 : decode cX10_register 9 = .ok (.bipush 97, 2) := by decide +kernel
theorem dX10_register_11 : decode cX10_register 11 = .ok (.isub, 1) := by decide +kernel
theorem dX10_register_12 : decode cX10_register 12 = .ok (.istore_n 1, 1) := by decide +kernel
theorem dX10_register_13 : decode cX10_register 13 = .ok (.aload_n 0, 1) := by decide +kernel
theorem dX10_register_14 : decode cX10_register 14 = .ok (.getfield 25, 3) := by decide +kernel
theorem dX10_register_17 : decode cX10_register 17 = .ok (.aload_n 0, 1) := by decide +kernel
theorem dX10_register_18 : decode cX10_register 18 = .ok (.getfield 22, 3) := by decide +kernel
theorem dX10_register_21 : decode cX10_register 21 = .ok (.isub, 1) := by decide +kernel
theorem dX10_register_22 : decode cX10_register 22 = .ok (.iconst 1, 1) := by decide +kernel
theorem dX10_register_23 : decode cX10_register 23 = .ok (.if_icmp .ne 17, 3) := by decide +kernel
theorem dX10_register_26 : decode cX10_register 26 = .ok (.iload_n 1, 1) := by decide +kernel
theorem dX10_register_27 : decode cX10_register 27 = .ok (.ifCond .lt 13, 3) := by decide +kernel
theorem dX10_register_30 : decode cX10_register 30 = .ok (.iload_n 1, 1) := by decide +kernel
theorem dX10_register_31 : decode cX10_register 31 = .ok (.bipush 8, 2) := by decide +kernel
theorem dX10_register_33 : decode cX10_register 33 = .ok (.if_icmp .ge 7, 3) := by decide +kernel
theorem dX10_register_36 : decode cX10_register 36 = .ok (.iload_n 1, 1) := by decide +kernel
theorem dX10_register_37 : decode cX10_register 37 = .ok (.goto 4, 3) := by decide +kernel
theorem dX10_register_40 : decode cX10_register 40 = .ok (.iconst (-1), 1) := by decide +kernel
theorem dX10_register_41 : decode cX10_register 41 = .ok (.ireturn, 1) := by decide +kernel
theorem dX10_rewind_0 : decode cX10_rewind 0 = .ok (.aload_n 0, 1) := by decide +kernel
theorem dX10_rewind_1 : decode cX10_rewind 1 = .ok (.iconst 0, 1) := by decide +kernel
theorem dX10_rewind_2 : decode cX10_rewind 2 = .ok (.putfield 19, 3) := by decide +kernel
theorem dX10_rewind_5 : decode cX10_rewind 5 = .ok (.aload_n 0, 1) := by decide +kernel
theorem dX10_rewind_6 : decode cX10_rewind 6 = .ok (.iconst (-1), 1) := by decide +kernel
theorem dX10_rewind_7 : decode cX10_rewind 7 = .ok (.putfield 25, 3) := by decide +kernel
theorem dX10_rewind_10 : decode cX10_rewind 10 = .ok (.aload_n 0, 1) := by decide +kernel
theorem dX10_rewind_11 : decode cX10_rewind 11 = .ok (.iconst 0, 1) := by decide +kernel
theorem dX10_rewind_12 : decode cX10_rewind 12 = .ok (.putfield 38, 3) := by decide +kernel
theorem dX10_rewind_15 : decode cX10_rewind 15 = .ok (.aload_n 0, 1) := by decide +kernel
theorem dX10_rewind_16 : decode cX10_rewind 16 = .ok (.iconst (-1), 1) := by decide +kernel
theorem dX10_rewind_17 : decode cX10_rewind 17 = .ok (.putfield 41, 3) := by decide +kernel
theorem dX10_rewind_20 : decode cX10_rewind 20 = .ok (.return_, 1) := by decide +kernel
theorem dX10_takesNumber_0 : decode cX10_takesNumber 0 = .ok (.aload_n 0, 1) := by decide +kernel
theorem dX10_takesNumber_1 : decode cX10_takesNumber 1 = .ok (.invokevirtual 44, 3) := by decide +kernel
theorem dX10_takesNumber_4 : decode cX10_takesNumber 4 = .ok (.invokestatic 61, 3) := by decide +kernel
theorem dX10_takesNumber_7 : decode cX10_takesNumber 7 = .ok (.ifCond .eq 14, 3) := by decide +kernel
theorem dX10_takesNumber_10 : decode cX10_takesNumber 10 = .ok (.aload_n 0, 1) := by decide +kernel
theorem dX10_takesNumber_11 : decode cX10_takesNumber 11 = .ok (.getfield 19, 3) := by decide +kernel
theorem dX10_takesNumber_14 : decode cX10_takesNumber 14 = .ok (.aload_n 0, 1) := by decide +kernel
theorem dX10_takesNumber_15 : decode cX10_takesNumber 15 = .ok (.getfield 25, 3) := by decide +kernel
theorem dX10_takesNumber_18 : decode cX10_takesNumber 18 = .ok (.if_icmp .ne 13, 3) := by decide +kernel
theorem dX10_takesNumber_21 : decode cX10_takesNumber 21 = .ok (.aload_n 0, 1) := by decide +kernel
theorem dX10_takesNumber_22 : decode cX10_takesNumber 22 = .ok (.iconst 1, 1) := by decide +kernel
theorem dX10_takesNumber_23 : decode cX10_takesNumber 23 = .ok (.aload_n 0, 1) := by decide +kernel
theorem dX10_takesNumber_24 : decode cX10_takesNumber 24 = .ok (.getfield 19, 3) := by decide +kernel
theorem dX10_takesNumber_27 : decode cX10_takesNumber 27 = .ok (.invokevirtual 48, 3) := by decide +kernel
theorem dX10_takesNumber_30 : decode cX10_takesNumber 30 = .ok (.ireturn, 1) := by decide +kernel
theorem dX10_takesNumber_31 : decode cX10_takesNumber 31 = .ok (.aload_n 0, 1) := by decide +kernel
theorem dX10_takesNumber_32 : decode cX10_takesNumber 32 = .ok (.aload_n 0, 1) := by decide +kernel
theorem dX10_takesNumber_33 : decode cX10_takesNumber 33 = .ok (.getfield 19, 3) := by decide +kernel
theorem dX10_takesNumber_36 : decode cX10_takesNumber 36 = .ok (.putfield 22, 3) := by decide +kernel
theorem dX10_takesNumber_39 : decode cX10_takesNumber 39 = .ok (.aload_n 0, 1) := by decide +kernel
theorem dX10_takesNumber_40 : decode cX10_takesNumber 40 = .ok (.iconst 0, 1) := by decide +kernel
theorem dX10_takesNumber_41 : decode cX10_takesNumber 41 = .ok (.putfield 35, 3) := by decide +kernel
theorem dX10_takesNumber_44 : decode cX10_takesNumber 44 = .ok (.aload_n 0, 1) := by decide +kernel
theorem dX10_takesNumber_45 : decode cX10_takesNumber 45 = .ok (.getfield 19, 3) := by decide +kernel
theorem dX10_takesNumber_48 : decode cX10_takesNumber 48 = .ok (.aload_n 0, 1) := by decide +kernel
theorem dX10_takesNumber_49 : decode cX10_takesNumber 49 = .ok (.getfield 15, 3) := by decide +kernel
theorem dX10_takesNumber_52 : decode cX10_takesNumber 52 = .ok (.if_icmp .ge 68, 3) := by decide +kernel
theorem dX10_takesNumber_55 : decode cX10_takesNumber 55 = .ok (.aload_n 0, 1) := by decide +kernel
theorem dX10_takesNumber_56 : decode cX10_takesNumber 56 = .ok (.getfield 19, 3) := by decide +kernel
theorem dX10_takesNumber_59 : decode cX10_takesNumber 59 = .ok (.aload_n 0, 1) := by decide +kernel
theorem dX10_takesNumber_60 : decode cX10_takesNumber 60 = .ok (.getfield 22, 3) := by decide +kernel
theorem dX10_takesNumber_63 : decode cX10_takesNumber 63 = .ok (.iconst 3, 1) := by decide +kernel
theorem dX10_takesNumber_64 : decode cX10_takesNumber 64 = .ok (.iadd, 1) := by decide +kernel
theorem dX10_takesNumber_65 : decode cX10_takesNumber 65 = .ok (.if_icmp .ge 55, 3) := by decide +kernel
theorem dX10_takesNumber_68 : decode cX10_takesNumber 68 = .ok (.aload_n 0, 1) := by decide +kernel
theorem dX10_takesNumber_69 : decode cX10_takesNumber 69 = .ok (.getfield 9, 3) := by decide +kernel
theorem dX10_takesNumber_72 : decode cX10_takesNumber 72 = .ok (.aload_n 0, 1) := by decide +kernel
theorem dX10_takesNumber_73 : decode cX10_takesNumber 73 = .ok (.getfield 19, 3) := by decide +kernel
theorem dX10_takesNumber_76 : decode cX10_takesNumber 76 = .ok (.iaload, 1) := by decide +kernel
theorem dX10_takesNumber_77 : decode cX10_takesNumber 77 = .ok (.invokestatic 61, 3) := by decide +kernel
theorem dX10_takesNumber_80 : decode cX10_takesNumber 80 = .ok (.ifCond .eq 40, 3) := by decide +kernel
theorem dX10_takesNumber_83 : decode cX10_takesNumber 83 = .ok (.aload_n 0, 1) := by decide +kernel
theorem dX10_takesNumber_84 : decode cX10_takesNumber 84 = .ok (.aload_n 0, 1) := by decide +kernel
theorem dX10_takesNumber_85 : decode cX10_takesNumber 85 = .ok (.getfield 35, 3) := by decide +kernel
theorem dX10_takesNumber_88 : decode cX10_takesNumber 88 = .ok (.bipush 10, 2) := by decide +kernel
theorem dX10_takesNumber_90 : decode cX10_takesNumber 90 = .ok (.imul, 1) := by decide +kernel
theorem dX10_takesNumber_91 : decode cX10_takesNumber 91 = .ok (.aload_n 0, 1) := by decide +kernel
theorem dX10_takesNumber_92 : decode cX10_takesNumber 92 = .ok (.getfield 9, 3) := by decide +kernel
theorem dX10_takesNumber_95 : decode cX10_takesNumber 95 = .ok (.aload_n 0, 1) := by decide +kernel
theorem dX10_takesNumber_96 : decode cX10_takesNumber 96 = .ok (.getfield 19, 3) := by decide +kernel
theorem dX10_takesNumber_99 : decode cX10_takesNumber 99 = .ok (.iaload, 1) := by decide +kernel
theorem dX10_takesNumber_100 : decode cX10_takesNumber 100 = .ok (.iadd, 1) := by decide +kernel
theorem dX10_takesNumber_101 : decode cX10_takesNumber 101 = .ok (.bipush 48, 2) := by decide +kernel
theorem dX10_takesNumber_103 : decode cX10_takesNumber 103 = .ok (.isub, 1) := by decide +kernel
theorem dX10_takesNumber_104 : decode cX10_takesNumber 104 = .ok (.putfield 35, 3) := by decide +kernel
theorem dX10_takesNumber_107 : decode cX10_takesNumber 107 = .ok (.aload_n 0, 1) := by decide +kernel
theorem dX10_takesNumber_108 : decode cX10_takesNumber 108 = .ok (.dup, 1) := by decide +kernel
theorem dX10_takesNumber_109 : decode cX10_takesNumber 109 = .ok (.getfield 19, 3) := by decide +kernel
theorem dX10_takesNumber_112 : decode cX10_takesNumber 112 = .ok (.iconst 1, 1) := by decide +kernel
theorem dX10_takesNumber_113 : decode cX10_takesNumber 113 = .ok (.iadd, 1) := by decide +kernel
theorem dX10_takesNumber_114 : decode cX10_takesNumber 114 = .ok (.putfield 19, 3) := by decide +kernel
theorem dX10_takesNumber_117 : decode cX10_takesNumber 117 = .ok (.goto (-73), 3) := by decide +kernel
theorem dX10_takesNumber_120 : decode cX10_takesNumber 120 = .ok (.aload_n 0, 1) := by decide +kernel
theorem dX10_takesNumber_121 : decode cX10_takesNumber 121 = .ok (.aload_n 0, 1) := by decide +kernel
theorem dX10_takesNumber_122 : decode cX10_takesNumber 122 = .ok (.getfield 19, 3) := by decide +kernel
theorem dX10_takesNumber_125 : decode cX10_takesNumber 125 = .ok (.putfield 25, 3) := by decide +kernel
theorem dX10_takesNumber_128 : decode cX10_takesNumber 128 = .ok (.aload_n 0, 1) := by decide +kernel
theorem dX10_takesNumber_129 : decode cX10_takesNumber 129 = .ok (.getfield 19, 3) := by decide +kernel
theorem dX10_takesNumber_132 : decode cX10_takesNumber 132 = .ok (.aload_n 0, 1) := by decide +kernel
theorem dX10_takesNumber_133 : decode cX10_takesNumber 133 = .ok (.getfield 15, 3) := by decide +kernel
theorem dX10_takesNumber_136 : decode cX10_takesNumber 136 = .ok (.if_icmp .ge 28, 3) := by decide +kernel
theorem dX10_takesNumber_139 : decode cX10_takesNumber 139 = .ok (.aload_n 0, 1) := by decide +kernel
theorem dX10_takesNumber_140 : decode cX10_takesNumber 140 = .ok (.getfield 9, 3) := by decide +kernel
theorem dX10_takesNumber_143 : decode cX10_takesNumber 143 = .ok (.aload_n 0, 1) := by decide +kernel
theorem dX10_takesNumber_144 : decode cX10_takesNumber 144 = .ok (.getfield 19, 3) := by decide +kernel
theorem dX10_takesNumber_147 : decode cX10_takesNumber 147 = .ok (.iaload, 1) := by decide +kernel
theorem dX10_takesNumber_148 : decode cX10_takesNumber 148 = .ok (.invokestatic 61, 3) := by decide +kernel
theorem dX10_takesNumber_151 : decode cX10_takesNumber 151 = .ok (.ifCond .eq 13, 3) := by decide +kernel
theorem dX10_takesNumber_154 : decode cX10_takesNumber 154 = .ok (.aload_n 0, 1) := by decide +kernel
theorem dX10_takesNumber_155 : decode cX10_takesNumber 155 = .ok (.iconst 1, 1) := by decide +kernel
theorem dX10_takesNumber_156 : decode cX10_takesNumber 156 = .ok (.aload_n 0, 1) := by decide +kernel
theorem dX10_takesNumber_157 : decode cX10_takesNumber 157 = .ok (.getfield 19, 3) := by decide +kernel
theorem dX10_takesNumber_160 : decode cX10_takesNumber 160 = .ok (.invokevirtual 48, 3) := by decide +kernel
theorem dX10_takesNumber_163 : decode cX10_takesNumber 163 = .ok (.ireturn, 1) := by decide +kernel
theorem dX10_takesNumber_164 : decode cX10_takesNumber 164 = .ok (.aload_n 0, 1) := by decide +kernel
theorem dX10_takesNumber_165 : decode cX10_takesNumber 165 = .ok (.getfield 35, 3) := by decide +kernel
theorem dX10_takesNumber_168 : decode cX10_takesNumber 168 = .ok (.iload_n 1, 1) := by decide +kernel
theorem dX10_takesNumber_169 : decode cX10_takesNumber 169 = .ok (.if_icmp .lt 11, 3) := by decide +kernel
theorem dX10_takesNumber_172 : decode cX10_takesNumber 172 = .ok (.aload_n 0, 1) := by decide +kernel
theorem dX10_takesNumber_173 : decode cX10_takesNumber 173 = .ok (.getfield 35, 3) := by decide +kernel
theorem dX10_takesNumber_176 : decode cX10_takesNumber 176 = .ok (.iload_n 2, 1) := by decide +kernel
theorem dX10_takesNumber_177 : decode cX10_takesNumber 177 = .ok (.if_icmp .le 15, 3) := by decide +kernel
theorem dX10_takesNumber_180 : decode cX10_takesNumber 180 = .ok (.aload_n 0, 1) := by decide +kernel
theorem dX10_takesNumber_181 : decode cX10_takesNumber 181 = .ok (.iconst 2, 1) := by decide +kernel
theorem dX10_takesNumber_182 : decode cX10_takesNumber 182 = .ok (.aload_n 0, 1) := by decide +kernel
theorem dX10_takesNumber_183 : decode cX10_takesNumber 183 = .ok (.getfield 22, 3) := by decide +kernel
theorem dX10_takesNumber_186 : decode cX10_takesNumber 186 = .ok (.invokevirtual 48, 3) := by decide +kernel
theorem dX10_takesNumber_189 : decode cX10_takesNumber 189 = .ok (.ifCond .eq 7, 3) := by decide +kernel
theorem dX10_takesNumber_192 : decode cX10_takesNumber 192 = .ok (.iconst 1, 1) := by decide +kernel
theorem dX10_takesNumber_193 : decode cX10_takesNumber 193 = .ok (.goto 4, 3) := by decide +kernel
theorem dX10_takesNumber_196 : decode cX10_takesNumber 196 = .ok (.iconst 0, 1) := by decide +kernel
theorem dX10_takesNumber_197 : decode cX10_takesNumber 197 = .ok (.ireturn, 1) := by decide +kernel
theorem dX10_takesSign_0 : decode cX10_takesSign 0 = .ok (.aload_n 0, 1) := by decide +kernel
theorem dX10_takesSign_1 : decode cX10_takesSign 1 = .ok (.invokevirtual 44, 3) := by decide +kernel
theorem dX10_takesSign_4 : decode cX10_takesSign 4 = .ok (.iload_n 1, 1) := by decide +kernel
theorem dX10_takesSign_5 : decode cX10_takesSign 5 = .ok (.if_icmp .eq 5, 3) := by decide +kernel
theorem dX10_takesSign_8 : decode cX10_takesSign 8 = .ok (.iconst 0, 1) := by decide +kernel
theorem dX10_takesSign_9 : decode cX10_takesSign 9 = .ok (.ireturn, 1) := by decide +kernel
theorem dX10_takesSign_10 : decode cX10_takesSign 10 = .ok (.aload_n 0, 1) := by decide +kernel
theorem dX10_takesSign_11 : decode cX10_takesSign 11 = .ok (.dup, 1) := by decide +kernel
theorem dX10_takesSign_12 : decode cX10_takesSign 12 = .ok (.getfield 19, 3) := by decide +kernel
theorem dX10_takesSign_15 : decode cX10_takesSign 15 = .ok (.iconst 1, 1) := by decide +kernel
theorem dX10_takesSign_16 : decode cX10_takesSign 16 = .ok (.iadd, 1) := by decide +kernel
theorem dX10_takesSign_17 : decode cX10_takesSign 17 = .ok (.putfield 19, 3) := by decide +kernel
theorem dX10_takesSign_20 : decode cX10_takesSign 20 = .ok (.iconst 1, 1) := by decide +kernel
theorem dX10_takesSign_21 : decode cX10_takesSign 21 = .ok (.ireturn, 1) := by decide +kernel
theorem dX10_wrong_0 : decode cX10_wrong 0 = .ok (.aload_n 0, 1) := by decide +kernel
theorem dX10_wrong_1 : decode cX10_wrong 1 = .ok (.iload_n 1, 1) := by decide +kernel
theorem dX10_wrong_2 : decode cX10_wrong 2 = .ok (.putfield 38, 3) := by decide +kernel
theorem dX10_wrong_5 : decode cX10_wrong 5 = .ok (.aload_n 0, 1) := by decide +kernel
theorem dX10_wrong_6 : decode cX10_wrong 6 = .ok (.iload_n 2, 1) := by decide +kernel
theorem dX10_wrong_7 : decode cX10_wrong 7 = .ok (.putfield 41, 3) := by decide +kernel
theorem dX10_wrong_10 : decode cX10_wrong 10 = .ok (.iconst 0, 1) := by decide +kernel
theorem dX10_wrong_11 : decode cX10_wrong 11 = .ok (.ireturn, 1) := by decide +kernel
theorem dX11_numberOf_0 : decode cX11_numberOf 0 = .ok (.iload_n 0, 1) := by decide +kernel
theorem dX11_numberOf_1 : decode cX11_numberOf 1 = .ok (.sipush 2047, 3) := by decide +kernel
theorem dX11_numberOf_4 : decode cX11_numberOf 4 = .ok (.iand, 1) := by decide +kernel
theorem dX11_numberOf_5 : decode cX11_numberOf 5 = .ok (.sipush 1000, 3) := by decide +kernel
theorem dX11_numberOf_8 : decode cX11_numberOf 8 = .ok (.isub, 1) := by decide +kernel
theorem dX11_numberOf_9 : decode cX11_numberOf 9 = .ok (.ireturn, 1) := by decide +kernel
theorem dX11_pointsTo_0 : decode cX11_pointsTo 0 = .ok (.iload_n 0, 1) := by decide +kernel
theorem dX11_pointsTo_1 : decode cX11_pointsTo 1 = .ok (.sipush 3048, 3) := by decide +kernel
theorem dX11_pointsTo_4 : decode cX11_pointsTo 4 = .ok (.if_icmp .lt 18, 3) := by decide +kernel
theorem dX11_pointsTo_7 : decode cX11_pointsTo 7 = .ok (.iload_n 0, 1) := by decide +kernel
theorem dX11_pointsTo_8 : decode cX11_pointsTo 8 = .ok (.sipush 5096, 3) := by decide +kernel
theorem dX11_pointsTo_11 : decode cX11_pointsTo 11 = .ok (.if_icmp .ge 11, 3) := by decide +kernel
theorem dX11_pointsTo_14 : decode cX11_pointsTo 14 = .ok (.iload_n 0, 1) := by decide +kernel
theorem dX11_pointsTo_15 : decode cX11_pointsTo 15 = .ok (.sipush 3048, 3) := by decide +kernel
theorem dX11_pointsTo_18 : decode cX11_pointsTo 18 = .ok (.isub, 1) := by decide +kernel
theorem dX11_pointsTo_19 : decode cX11_pointsTo 19 = .ok (.goto 4, 3) := by decide +kernel
theorem dX11_pointsTo_22 : decode cX11_pointsTo 22 = .ok (.iconst (-1), 1) := by decide +kernel
theorem dX11_pointsTo_23 : decode cX11_pointsTo 23 = .ok (.ireturn, 1) := by decide +kernel
theorem dX11_sortOf_0 : decode cX11_sortOf 0 = .ok (.iload_n 0, 1) := by decide +kernel
theorem dX11_sortOf_1 : decode cX11_sortOf 1 = .ok (.bipush 11, 2) := by decide +kernel
theorem dX11_sortOf_3 : decode cX11_sortOf 3 = .ok (.ishr, 1) := by decide +kernel
theorem dX11_sortOf_4 : decode cX11_sortOf 4 = .ok (.ireturn, 1) := by decide +kernel
theorem dX2_cellAt_0 : decode cX2_cellAt 0 = .ok (.iconst 0, 1) := by decide +kernel
theorem dX2_cellAt_1 : decode cX2_cellAt 1 = .ok (.istore_n 3, 1) := by decide +kernel
theorem dX2_cellAt_2 : decode cX2_cellAt 2 = .ok (.aload_n 1, 1) := by decide +kernel
theorem dX2_cellAt_3 : decode cX2_cellAt 3 = .ok (.getfield 32, 3) := by decide +kernel
theorem dX2_cellAt_6 : decode cX2_cellAt 6 = .ok (.istore 4, 2) := by decide +kernel
theorem dX2_cellAt_8 : decode cX2_cellAt 8 = .ok (.iload 4, 2) := by decide +kernel
theorem dX2_cellAt_10 : decode cX2_cellAt 10 = .ok (.aload_n 1, 1) := by decide +kernel
theorem dX2_cellAt_11 : decode cX2_cellAt 11 = .ok (.getfield 37, 3) := by decide +kernel
theorem dX2_cellAt_14 : decode cX2_cellAt 14 = .ok (.if_icmp .ge 32, 3) := by decide +kernel
theorem dX2_cellAt_17 : decode cX2_cellAt 17 = .ok (.iload_n 3, 1) := by decide +kernel
theorem dX2_cellAt_18 : decode cX2_cellAt 18 = .ok (.iload_n 2, 1) := by decide +kernel
theorem dX2_cellAt_19 : decode cX2_cellAt 19 = .ok (.if_icmp .ne 6, 3) := by decide +kernel
theorem dX2_cellAt_22 : decode cX2_cellAt 22 = .ok (.iload 4, 2) := by decide +kernel
theorem dX2_cellAt_24 : decode cX2_cellAt 24 = .ok (.ireturn, 1) := by decide +kernel
theorem dX2_cellAt_25 : decode cX2_cellAt 25 = .ok (.iinc 3 1, 3) := by decide +kernel
theorem dX2_cellAt_28 : decode cX2_cellAt 28 = .ok (.iload 4, 2) := by decide +kernel
theorem dX2_cellAt_30 : decode cX2_cellAt 30 = .ok (.aload_n 0, 1) := by decide +kernel
theorem dX2_cellAt_31 : decode cX2_cellAt 31 = .ok (.aload_n 1, 1) := by decide +kernel
theorem dX2_cellAt_32 : decode cX2_cellAt 32 = .ok (.iload 4, 2) := by decide +kernel
theorem dX2_cellAt_34 : decode cX2_cellAt 34 = .ok (.invokevirtual 40, 3) := by decide +kernel
theorem dX2_cellAt_37 : decode cX2_cellAt 37 = .ok (.invokevirtual 44, 3) := by decide +kernel
theorem dX2_cellAt_40 : decode cX2_cellAt 40 = .ok (.iadd, 1) := by decide +kernel
theorem dX2_cellAt_41 : decode cX2_cellAt 41 = .ok (.istore 4, 2) := by decide +kernel
theorem dX2_cellAt_43 : decode cX2_cellAt 43 = .ok (.goto (-35), 3) := by decide +kernel
theorem dX2_cellAt_46 : decode cX2_cellAt 46 = .ok (.iconst (-1), 1) := by decide +kernel
theorem dX2_cellAt_47 : decode cX2_cellAt 47 = .ok (.ireturn, 1) := by decide +kernel
theorem dX2_copyFrom_0 : decode cX2_copyFrom 0 = .ok (.aload_n 0, 1) := by decide +kernel
theorem dX2_copyFrom_1 : decode cX2_copyFrom 1 = .ok (.aload_n 1, 1) := by decide +kernel
theorem dX2_copyFrom_2 : decode cX2_copyFrom 2 = .ok (.getfield 9, 3) := by decide +kernel
theorem dX2_copyFrom_5 : decode cX2_copyFrom 5 = .ok (.putfield 9, 3) := by decide +kernel
theorem dX2_copyFrom_8 : decode cX2_copyFrom 8 = .ok (.aload_n 1, 1) := by decide +kernel
theorem dX2_copyFrom_9 : decode cX2_copyFrom 9 = .ok (.getfield 15, 3) := by decide +kernel
theorem dX2_copyFrom_12 : decode cX2_copyFrom 12 = .ok (.iconst 0, 1) := by decide +kernel
theorem dX2_copyFrom_13 : decode cX2_copyFrom 13 = .ok (.aload_n 0, 1) := by decide +kernel
theorem dX2_copyFrom_14 : decode cX2_copyFrom 14 = .ok (.getfield 15, 3) := by decide +kernel
theorem dX2_copyFrom_17 : decode cX2_copyFrom 17 = .ok (.iconst 0, 1) := by decide +kernel
theorem dX2_copyFrom_18 : decode cX2_copyFrom 18 = .ok (.aload_n 0, 1) := by decide +kernel
theorem dX2_copyFrom_19 : decode cX2_copyFrom 19 = .ok (.getfield 15, 3) := by decide +kernel
theorem dX2_copyFrom_22 : decode cX2_copyFrom 22 = .ok (.arraylength, 1) := by decide +kernel
theorem dX2_copyFrom_23 : decode cX2_copyFrom 23 = .ok (.invokestatic 26, 3) := by decide +kernel
theorem dX2_copyFrom_26 : decode cX2_copyFrom 26 = .ok (.aload_n 1, 1) := by decide +kernel
theorem dX2_copyFrom_27 : decode cX2_copyFrom 27 = .ok (.getfield 19, 3) := by decide +kernel
theorem dX2_copyFrom_30 : decode cX2_copyFrom 30 = .ok (.iconst 0, 1) := by decide +kernel
theorem dX2_copyFrom_31 : decode cX2_copyFrom 31 = .ok (.aload_n 0, 1) := by decide +kernel
theorem dX2_copyFrom_32 : decode cX2_copyFrom 32 = .ok (.getfield 19, 3) := by decide +kernel
theorem dX2_copyFrom_35 : decode cX2_copyFrom 35 = .ok (.iconst 0, 1) := by decide +kernel
theorem dX2_copyFrom_36 : decode cX2_copyFrom 36 = .ok (.aload_n 0, 1) := by decide +kernel
theorem dX2_copyFrom_37 : decode cX2_copyFrom 37 = .ok (.getfield 19, 3) := by decide +kernel
theorem dX2_copyFrom_40 : decode cX2_copyFrom 40 = .ok (.arraylength, 1) := by decide +kernel
theorem dX2_copyFrom_41 : decode cX2_copyFrom 41 = .ok (.invokestatic 26, 3) := by decide +kernel
theorem dX2_copyFrom_44 : decode cX2_copyFrom 44 = .ok (.aload_n 1, 1) := by decide +kernel
theorem dX2_copyFrom_45 : decode cX2_copyFrom 45 = .ok (.getfield 23, 3) := by decide +kernel
theorem dX2_copyFrom_48 : decode cX2_copyFrom 48 = .ok (.iconst 0, 1) := by decide +kernel
theorem dX2_copyFrom_49 : decode cX2_copyFrom 49 = .ok (.aload_n 0, 1) := by decide +kernel
theorem dX2_copyFrom_50 : decode cX2_copyFrom 50 = .ok (.getfield 23, 3) := by decide +kernel
theorem dX2_copyFrom_53 : decode cX2_copyFrom 53 = .ok (.iconst 0, 1) := by decide +kernel
theorem dX2_copyFrom_54 : decode cX2_copyFrom 54 = .ok (.aload_n 0, 1) := by decide +kernel
theorem dX2_copyFrom_55 : decode cX2_copyFrom 55 = .ok (.getfield 23, 3) := by decide +kernel
theorem dX2_copyFrom_58 : decode cX2_copyFrom 58 = .ok (.arraylength, 1) := by decide +kernel
theorem dX2_copyFrom_59 : decode cX2_copyFrom 59 = .ok (.invokestatic 26, 3) := by decide +kernel
theorem dX2_copyFrom_62 : decode cX2_copyFrom 62 = .ok (.return_, 1) := by decide +kernel
theorem dX2_countCells_0 : decode cX2_countCells 0 = .ok (.iconst 0, 1) := by decide +kernel
theorem dX2_countCells_1 : decode cX2_countCells 1 = .ok (.istore_n 2, 1) := by decide +kernel
theorem dX2_countCells_2 : decode cX2_countCells 2 = .ok (.aload_n 1, 1) := by decide +kernel
theorem dX2_countCells_3 : decode cX2_countCells 3 = .ok (.getfield 32, 3) := by decide +kernel
theorem dX2_countCells_6 : decode cX2_countCells 6 = .ok (.istore_n 3, 1) := by decide +kernel
theorem dX2_countCells_7 : decode cX2_countCells 7 = .ok (.iload_n 3, 1) := by decide +kernel
theorem dX2_countCells_8 : decode cX2_countCells 8 = .ok (.aload_n 1, 1) := by decide +kernel
theorem dX2_countCells_9 : decode cX2_countCells 9 = .ok (.getfield 37, 3) := by decide +kernel
theorem dX2_countCells_12 : decode cX2_countCells 12 = .ok (.if_icmp .ge 21, 3) := by decide +kernel
theorem dX2_countCells_15 : decode cX2_countCells 15 = .ok (.iinc 2 1, 3) := by decide +kernel
theorem dX2_countCells_18 : decode cX2_countCells 18 = .ok (.iload_n 3, 1) := by decide +kernel
theorem dX2_countCells_19 : decode cX2_countCells 19 = .ok (.aload_n 0, 1) := by decide +kernel
theorem dX2_countCells_20 : decode cX2_countCells 20 = .ok (.aload_n 1, 1) := by decide +kernel
theorem dX2_countCells_21 : decode cX2_countCells 21 = .ok (.iload_n 3, 1) := by decide +kernel
theorem dX2_countCells_22 : decode cX2_countCells 22 = .ok (.invokevirtual 40, 3) := by decide +kernel
theorem dX2_countCells_25 : decode cX2_countCells 25 = .ok (.invokevirtual 44, 3) := by decide +kernel
theorem dX2_countCells_28 : decode cX2_countCells 28 = .ok (.iadd, 1) := by decide +kernel
theorem dX2_countCells_29 : decode cX2_countCells 29 = .ok (.istore_n 3, 1) := by decide +kernel
theorem dX2_countCells_30 : decode cX2_countCells 30 = .ok (.goto (-23), 3) := by decide +kernel
theorem dX2_countCells_33 : decode cX2_countCells 33 = .ok (.iload_n 2, 1) := by decide +kernel
theorem dX2_countCells_34 : decode cX2_countCells 34 = .ok (.ireturn, 1) := by decide +kernel
theorem dX2_named_0 : decode cX2_named 0 = .ok (.iconst 0, 1) := by decide +kernel
theorem dX2_named_1 : decode cX2_named 1 = .ok (.istore_n 3, 1) := by decide +kernel
theorem dX2_named_2 : decode cX2_named 2 = .ok (.iload_n 3, 1) := by decide +kernel
theorem dX2_named_3 : decode cX2_named 3 = .ok (.aload_n 0, 1) := by decide +kernel
theorem dX2_named_4 : decode cX2_named 4 = .ok (.getfield 9, 3) := by decide +kernel
theorem dX2_named_7 : decode cX2_named 7 = .ok (.if_icmp .ge 22, 3) := by decide +kernel
theorem dX2_named_10 : decode cX2_named 10 = .ok (.aload_n 0, 1) := by decide +kernel
theorem dX2_named_11 : decode cX2_named 11 = .ok (.getfield 15, 3) := by decide +kernel
theorem dX2_named_14 : decode cX2_named 14 = .ok (.iload_n 3, 1) := by decide +kernel
theorem dX2_named_15 : decode cX2_named 15 = .ok (.laload, 1) := by decide +kernel
theorem dX2_named_16 : decode cX2_named 16 = .ok (.lload_n 1, 1) := by decide +kernel
theorem dX2_named_17 : decode cX2_named 17 = .ok (.lcmp, 1) := by decide +kernel
theorem dX2_named_18 : decode cX2_named 18 = .ok (.ifCond .ne 5, 3) := by decide +kernel
theorem dX2_named_21 : decode cX2_named 21 = .ok (.iload_n 3, 1) := by decide +kernel
theorem dX2_named_22 : decode cX2_named 22 = .ok (.ireturn, 1) := by decide +kernel
theorem dX2_named_23 : decode cX2_named 23 = .ok (.iinc 3 1, 3) := by decide +kernel
theorem dX2_named_26 : decode cX2_named 26 = .ok (.goto (-24), 3) := by decide +kernel
theorem dX2_named_29 : decode cX2_named 29 = .ok (.iconst (-1), 1) := by decide +kernel
theorem dX2_named_30 : decode cX2_named 30 = .ok (.ireturn, 1) := by decide +kernel
theorem dX2_sortOfField_0 : decode cX2_sortOfField 0 = .ok (.aload_n 0, 1) := by decide +kernel
theorem dX2_sortOfField_1 : decode cX2_sortOfField 1 = .ok (.getfield 23, 3) := by decide +kernel
theorem dX2_sortOfField_4 : decode cX2_sortOfField 4 = .ok (.iload_n 1, 1) := by decide +kernel
theorem dX2_sortOfField_5 : decode cX2_sortOfField 5 = .ok (.bipush 6, 2) := by decide +kernel
theorem dX2_sortOfField_7 : decode cX2_sortOfField 7 = .ok (.imul, 1) := by decide +kernel
theorem dX2_sortOfField_8 : decode cX2_sortOfField 8 = .ok (.iload_n 2, 1) := by decide +kernel
theorem dX2_sortOfField_9 : decode cX2_sortOfField 9 = .ok (.iadd, 1) := by decide +kernel
theorem dX2_sortOfField_10 : decode cX2_sortOfField 10 = .ok (.iaload, 1) := by decide +kernel
theorem dX2_sortOfField_11 : decode cX2_sortOfField 11 = .ok (.ireturn, 1) := by decide +kernel
theorem dX2_wordsOf_0 : decode cX2_wordsOf 0 = .ok (.iload_n 1, 1) := by decide +kernel
theorem dX2_wordsOf_1 : decode cX2_wordsOf 1 = .ok (.sipush 5096, 3) := by decide +kernel
theorem dX2_wordsOf_4 : decode cX2_wordsOf 4 = .ok (.isub, 1) := by decide +kernel
theorem dX2_wordsOf_5 : decode cX2_wordsOf 5 = .ok (.istore_n 2, 1) := by decide +kernel
theorem dX2_wordsOf_6 : decode cX2_wordsOf 6 = .ok (.iload_n 2, 1) := by decide +kernel
theorem dX2_wordsOf_7 : decode cX2_wordsOf 7 = .ok (.ifCond .lt 11, 3) := by decide +kernel
theorem dX2_wordsOf_10 : decode cX2_wordsOf 10 = .ok (.iload_n 2, 1) := by decide +kernel
theorem dX2_wordsOf_11 : decode cX2_wordsOf 11 = .ok (.aload_n 0, 1) := by decide +kernel
theorem dX2_wordsOf_12 : decode cX2_wordsOf 12 = .ok (.getfield 9, 3) := by decide +kernel
theorem dX2_wordsOf_15 : decode cX2_wordsOf 15 = .ok (.if_icmp .lt 7, 3) := by decide +kernel
theorem dX2_wordsOf_18 : decode cX2_wordsOf 18 = .ok (.iconst 1, 1) := by decide +kernel
theorem dX2_wordsOf_19 : decode cX2_wordsOf 19 = .ok (.goto 11, 3) := by decide +kernel
theorem dX2_wordsOf_22 : decode cX2_wordsOf 22 = .ok (.aload_n 0, 1) := by decide +kernel
theorem dX2_wordsOf_23 : decode cX2_wordsOf 23 = .ok (.getfield 19, 3) := by decide +kernel
theorem dX2_wordsOf_26 : decode cX2_wordsOf 26 = .ok (.iload_n 2, 1) := by decide +kernel
theorem dX2_wordsOf_27 : decode cX2_wordsOf 27 = .ok (.iaload, 1) := by decide +kernel
theorem dX2_wordsOf_28 : decode cX2_wordsOf 28 = .ok (.iconst 1, 1) := by decide +kernel
theorem dX2_wordsOf_29 : decode cX2_wordsOf 29 = .ok (.iadd, 1) := by decide +kernel
theorem dX2_wordsOf_30 : decode cX2_wordsOf 30 = .ok (.ireturn, 1) := by decide +kernel
theorem dX3_heldAt_0 : decode cX3_heldAt 0 = .ok (.aload_n 0, 1) := by decide +kernel
theorem dX3_heldAt_1 : decode cX3_heldAt 1 = .ok (.iload_n 1, 1) := by decide +kernel
theorem dX3_heldAt_2 : decode cX3_heldAt 2 = .ok (.iconst 1, 1) := by decide +kernel
theorem dX3_heldAt_3 : decode cX3_heldAt 3 = .ok (.iadd, 1) := by decide +kernel
theorem dX3_heldAt_4 : decode cX3_heldAt 4 = .ok (.iaload, 1) := by decide +kernel
theorem dX3_heldAt_5 : decode cX3_heldAt 5 = .ok (.sipush 256, 3) := by decide +kernel
theorem dX3_heldAt_8 : decode cX3_heldAt 8 = .ok (.imul, 1) := by decide +kernel
theorem dX3_heldAt_9 : decode cX3_heldAt 9 = .ok (.aload_n 0, 1) := by decide +kernel
theorem dX3_heldAt_10 : decode cX3_heldAt 10 = .ok (.iload_n 1, 1) := by decide +kernel
theorem dX3_heldAt_11 : decode cX3_heldAt 11 = .ok (.iconst 2, 1) := by decide +kernel
theorem dX3_heldAt_12 : decode cX3_heldAt 12 = .ok (.iadd, 1) := by decide +kernel
theorem dX3_heldAt_13 : decode cX3_heldAt 13 = .ok (.iaload, 1) := by decide +kernel
theorem dX3_heldAt_14 : decode cX3_heldAt 14 = .ok (.iadd, 1) := by decide +kernel
theorem dX3_heldAt_15 : decode cX3_heldAt 15 = .ok (.istore_n 2, 1) := by decide +kernel
theorem dX3_heldAt_16 : decode cX3_heldAt 16 = .ok (.aload_n 0, 1) := by decide +kernel
theorem dX3_heldAt_17 : decode cX3_heldAt 17 = .ok (.iload_n 1, 1) := by decide +kernel
theorem dX3_heldAt_18 : decode cX3_heldAt 18 = .ok (.iaload, 1) := by decide +kernel
theorem dX3_heldAt_19 : decode cX3_heldAt 19 = .ok (.iconst 2, 1) := by decide +kernel
theorem dX3_heldAt_20 : decode cX3_heldAt 20 = .ok (.if_icmp .gt 10, 3) := by decide +kernel
theorem dX3_heldAt_23 : decode cX3_heldAt 23 = .ok (.iload_n 2, 1) := by decide +kernel
theorem dX3_heldAt_24 : decode cX3_heldAt 24 = .ok (.sipush 2047, 3) := by decide +kernel
theorem dX3_heldAt_27 : decode cX3_heldAt 27 = .ok (.if_icmp .le 7, 3) := by decide +kernel
theorem dX3_heldAt_30 : decode cX3_heldAt 30 = .ok (.iconst (-1), 1) := by decide +kernel
theorem dX3_heldAt_31 : decode cX3_heldAt 31 = .ok (.goto 11, 3) := by decide +kernel
theorem dX3_heldAt_34 : decode cX3_heldAt 34 = .ok (.aload_n 0, 1) := by decide +kernel
theorem dX3_heldAt_35 : decode cX3_heldAt 35 = .ok (.iload_n 1, 1) := by decide +kernel
theorem dX3_heldAt_36 : decode cX3_heldAt 36 = .ok (.iaload, 1) := by decide +kernel
theorem dX3_heldAt_37 : decode cX3_heldAt 37 = .ok (.bipush 11, 2) := by decide +kernel
theorem dX3_heldAt_39 : decode cX3_heldAt 39 = .ok (.ishl, 1) := by decide +kernel
theorem dX3_heldAt_40 : decode cX3_heldAt 40 = .ok (.iload_n 2, 1) := by decide +kernel
theorem dX3_heldAt_41 : decode cX3_heldAt 41 = .ok (.iadd, 1) := by decide +kernel
theorem dX3_heldAt_42 : decode cX3_heldAt 42 = .ok (.ireturn, 1) := by decide +kernel
theorem dX3_isNumber_0 : decode cX3_isNumber 0 = .ok (.iload_n 0, 1) := by decide +kernel
theorem dX3_isNumber_1 : decode cX3_isNumber 1 = .ok (.iconst 1, 1) := by decide +kernel
theorem dX3_isNumber_2 : decode cX3_isNumber 2 = .ok (.if_icmp .lt 14, 3) := by decide +kernel
theorem dX3_isNumber_5 : decode cX3_isNumber 5 = .ok (.iload_n 0, 1) := by decide +kernel
theorem dX3_isNumber_6 : decode cX3_isNumber 6 = .ok (.sipush 1999, 3) := by decide +kernel
theorem dX3_isNumber_9 : decode cX3_isNumber 9 = .ok (.if_icmp .gt 7, 3) := by decide +kernel
theorem dX3_isNumber_12 : decode cX3_isNumber 12 = .ok (.iconst 1, 1) := by decide +kernel
theorem dX3_isNumber_13 : decode cX3_isNumber 13 = .ok (.goto 4, 3) := by decide +kernel
theorem dX3_isNumber_16 : decode cX3_isNumber 16 = .ok (.iconst 0, 1) := by decide +kernel
theorem dX3_isNumber_17 : decode cX3_isNumber 17 = .ok (.ireturn, 1) := by decide +kernel
theorem dX3_isPointer_0 : decode cX3_isPointer 0 = .ok (.iload_n 0, 1) := by decide +kernel
theorem dX3_isPointer_1 : decode cX3_isPointer 1 = .ok (.sipush 3047, 3) := by decide +kernel
theorem dX3_isPointer_4 : decode cX3_isPointer 4 = .ok (.if_icmp .eq 27, 3) := by decide +kernel
theorem dX3_isPointer_7 : decode cX3_isPointer 7 = .ok (.iload_n 0, 1) := by decide +kernel
theorem dX3_isPointer_8 : decode cX3_isPointer 8 = .ok (.sipush 3048, 3) := by decide +kernel
theorem dX3_isPointer_11 : decode cX3_isPointer 11 = .ok (.aload_n 1, 1) := by decide +kernel
theorem dX3_isPointer_12 : decode cX3_isPointer 12 = .ok (.getfield 28, 3) := by decide +kernel
theorem dX3_isPointer_15 : decode cX3_isPointer 15 = .ok (.iadd, 1) := by decide +kernel
theorem dX3_isPointer_16 : decode cX3_isPointer 16 = .ok (.if_icmp .lt 19, 3) := by decide +kernel
theorem dX3_isPointer_19 : decode cX3_isPointer 19 = .ok (.iload_n 0, 1) := by decide +kernel
theorem dX3_isPointer_20 : decode cX3_isPointer 20 = .ok (.sipush 3048, 3) := by decide +kernel
theorem dX3_isPointer_23 : decode cX3_isPointer 23 = .ok (.aload_n 1, 1) := by decide +kernel
theorem dX3_isPointer_24 : decode cX3_isPointer 24 = .ok (.getfield 31, 3) := by decide +kernel
theorem dX3_isPointer_27 : decode cX3_isPointer 27 = .ok (.iadd, 1) := by decide +kernel
theorem dX3_isPointer_28 : decode cX3_isPointer 28 = .ok (.if_icmp .ge 7, 3) := by decide +kernel
theorem dX3_isPointer_31 : decode cX3_isPointer 31 = .ok (.iconst 1, 1) := by decide +kernel
theorem dX3_isPointer_32 : decode cX3_isPointer 32 = .ok (.goto 4, 3) := by decide +kernel
theorem dX3_isPointer_35 : decode cX3_isPointer 35 = .ok (.iconst 0, 1) := by decide +kernel
theorem dX3_isPointer_36 : decode cX3_isPointer 36 = .ok (.ireturn, 1) := by decide +kernel
theorem dX3_sumOf_0 : decode cX3_sumOf 0 = .ok (.sipush 173, 3) := by decide +kernel
theorem dX3_sumOf_3 : decode cX3_sumOf 3 = .ok (.istore_n 2, 1) := by decide +kernel
theorem dX3_sumOf_4 : decode cX3_sumOf 4 = .ok (.iconst 0, 1) := by decide +kernel
theorem dX3_sumOf_5 : decode cX3_sumOf 5 = .ok (.istore_n 3, 1) := by decide +kernel
theorem dX3_sumOf_6 : decode cX3_sumOf 6 = .ok (.iload_n 3, 1) := by decide +kernel
theorem dX3_sumOf_7 : decode cX3_sumOf 7 = .ok (.iload_n 1, 1) := by decide +kernel
theorem dX3_sumOf_8 : decode cX3_sumOf 8 = .ok (.if_icmp .ge 21, 3) := by decide +kernel
theorem dX3_sumOf_11 : decode cX3_sumOf 11 = .ok (.iconst 3, 1) := by decide +kernel
theorem dX3_sumOf_12 : decode cX3_sumOf 12 = .ok (.iload_n 2, 1) := by decide +kernel
theorem dX3_sumOf_13 : decode cX3_sumOf 13 = .ok (.imul, 1) := by decide +kernel
theorem dX3_sumOf_14 : decode cX3_sumOf 14 = .ok (.aload_n 0, 1) := by decide +kernel
theorem dX3_sumOf_15 : decode cX3_sumOf 15 = .ok (.iload_n 3, 1) := by decide +kernel
theorem dX3_sumOf_16 : decode cX3_sumOf 16 = .ok (.iaload, 1) := by decide +kernel
theorem dX3_sumOf_17 : decode cX3_sumOf 17 = .ok (.iadd, 1) := by decide +kernel
theorem dX3_sumOf_18 : decode cX3_sumOf 18 = .ok (.sipush 251, 3) := by decide +kernel
theorem dX3_sumOf_21 : decode cX3_sumOf 21 = .ok (.irem, 1) := by decide +kernel
theorem dX3_sumOf_22 : decode cX3_sumOf 22 = .ok (.istore_n 2, 1) := by decide +kernel
theorem dX3_sumOf_23 : decode cX3_sumOf 23 = .ok (.iinc 3 1, 3) := by decide +kernel
theorem dX3_sumOf_26 : decode cX3_sumOf 26 = .ok (.goto (-20), 3) := by decide +kernel
theorem dX3_sumOf_29 : decode cX3_sumOf 29 = .ok (.iload_n 2, 1) := by decide +kernel
theorem dX3_sumOf_30 : decode cX3_sumOf 30 = .ok (.ireturn, 1) := by decide +kernel
theorem dX3_write_0 : decode cX3_write 0 = .ok (.aload_n 0, 1) := by decide +kernel
theorem dX3_write_1 : decode cX3_write 1 = .ok (.getfield 11, 3) := by decide +kernel
theorem dX3_write_4 : decode cX3_write 4 = .ok (.iconst 0, 1) := by decide +kernel
theorem dX3_write_5 : decode cX3_write 5 = .ok (.aload_n 1, 1) := by decide +kernel
theorem dX3_write_6 : decode cX3_write 6 = .ok (.getfield 23, 3) := by decide +kernel
theorem dX3_write_9 : decode cX3_write 9 = .ok (.iastore, 1) := by decide +kernel
theorem dX3_write_10 : decode cX3_write 10 = .ok (.aload_n 0, 1) := by decide +kernel
theorem dX3_write_11 : decode cX3_write 11 = .ok (.getfield 11, 3) := by decide +kernel
theorem dX3_write_14 : decode cX3_write 14 = .ok (.iconst 1, 1) := by decide +kernel
theorem dX3_write_15 : decode cX3_write 15 = .ok (.aload_n 1, 1) := by decide +kernel
theorem dX3_write_16 : decode cX3_write 16 = .ok (.getfield 28, 3) := by decide +kernel
theorem dX3_write_19 : decode cX3_write 19 = .ok (.iastore, 1) := by decide +kernel
theorem dX3_write_20 : decode cX3_write 20 = .ok (.aload_n 0, 1) := by decide +kernel
theorem dX3_write_21 : decode cX3_write 21 = .ok (.iconst 2, 1) := by decide +kernel
theorem dX3_write_22 : decode cX3_write 22 = .ok (.putfield 15, 3) := by decide +kernel
theorem dX3_write_25 : decode cX3_write 25 = .ok (.bipush (-8), 2) := by decide +kernel
theorem dX3_write_27 : decode cX3_write 27 = .ok (.istore_n 2, 1) := by decide +kernel
theorem dX3_write_28 : decode cX3_write 28 = .ok (.iload_n 2, 1) := by decide +kernel
theorem dX3_write_29 : decode cX3_write 29 = .ok (.aload_n 1, 1) := by decide +kernel
theorem dX3_write_30 : decode cX3_write 30 = .ok (.getfield 31, 3) := by decide +kernel
theorem dX3_write_33 : decode cX3_write 33 = .ok (.if_icmp .ge 30, 3) := by decide +kernel
theorem dX3_write_36 : decode cX3_write 36 = .ok (.iload_n 2, 1) := by decide +kernel
theorem dX3_write_37 : decode cX3_write 37 = .ok (.ifCond .lt 11, 3) := by decide +kernel
theorem dX3_write_40 : decode cX3_write 40 = .ok (.iload_n 2, 1) := by decide +kernel
theorem dX3_write_41 : decode cX3_write 41 = .ok (.aload_n 1, 1) := by decide +kernel
theorem dX3_write_42 : decode cX3_write 42 = .ok (.getfield 28, 3) := by decide +kernel
theorem dX3_write_45 : decode cX3_write 45 = .ok (.if_icmp .lt 12, 3) := by decide +kernel
theorem dX3_write_48 : decode cX3_write 48 = .ok (.aload_n 0, 1) := by decide +kernel
theorem dX3_write_49 : decode cX3_write 49 = .ok (.aload_n 1, 1) := by decide +kernel
theorem dX3_write_50 : decode cX3_write 50 = .ok (.iload_n 2, 1) := by decide +kernel
theorem dX3_write_51 : decode cX3_write 51 = .ok (.invokevirtual 34, 3) := by decide +kernel
theorem dX3_write_54 : decode cX3_write 54 = .ok (.invokevirtual 38, 3) := by decide +kernel
theorem dX3_write_57 : decode cX3_write 57 = .ok (.iinc 2 1, 3) := by decide +kernel
theorem dX3_write_60 : decode cX3_write 60 = .ok (.goto (-32), 3) := by decide +kernel
theorem dX3_write_63 : decode cX3_write 63 = .ok (.aload_n 0, 1) := by decide +kernel
theorem dX3_write_64 : decode cX3_write 64 = .ok (.getfield 11, 3) := by decide +kernel
theorem dX3_write_67 : decode cX3_write 67 = .ok (.aload_n 0, 1) := by decide +kernel
theorem dX3_write_68 : decode cX3_write 68 = .ok (.getfield 15, 3) := by decide +kernel
theorem dX3_write_71 : decode cX3_write 71 = .ok (.aload_n 0, 1) := by decide +kernel
theorem dX3_write_72 : decode cX3_write 72 = .ok (.getfield 11, 3) := by decide +kernel
theorem dX3_write_75 : decode cX3_write 75 = .ok (.aload_n 0, 1) := by decide +kernel
theorem dX3_write_76 : decode cX3_write 76 = .ok (.getfield 15, 3) := by decide +kernel
theorem dX3_write_79 : decode cX3_write 79 = .ok (.invokestatic 42, 3) := by decide +kernel
theorem dX3_write_82 : decode cX3_write 82 = .ok (.iastore, 1) := by decide +kernel
theorem dX3_write_83 : decode cX3_write 83 = .ok (.aload_n 0, 1) := by decide +kernel
theorem dX3_write_84 : decode cX3_write 84 = .ok (.dup, 1) := by decide +kernel
theorem dX3_write_85 : decode cX3_write 85 = .ok (.getfield 15, 3) := by decide +kernel
theorem dX3_write_88 : decode cX3_write 88 = .ok (.iconst 1, 1) := by decide +kernel
theorem dX3_write_89 : decode cX3_write 89 = .ok (.iadd, 1) := by decide +kernel
theorem dX3_write_90 : decode cX3_write 90 = .ok (.putfield 15, 3) := by decide +kernel
theorem dX3_write_93 : decode cX3_write 93 = .ok (.return_, 1) := by decide +kernel
theorem dX3_writeHeld_0 : decode cX3_writeHeld 0 = .ok (.iload_n 1, 1) := by decide +kernel
theorem dX3_writeHeld_1 : decode cX3_writeHeld 1 = .ok (.sipush 2047, 3) := by decide +kernel
theorem dX3_writeHeld_4 : decode cX3_writeHeld 4 = .ok (.iand, 1) := by decide +kernel
theorem dX3_writeHeld_5 : decode cX3_writeHeld 5 = .ok (.istore_n 2, 1) := by decide +kernel
theorem dX3_writeHeld_6 : decode cX3_writeHeld 6 = .ok (.aload_n 0, 1) := by decide +kernel
theorem dX3_writeHeld_7 : decode cX3_writeHeld 7 = .ok (.getfield 11, 3) := by decide +kernel
theorem dX3_writeHeld_10 : decode cX3_writeHeld 10 = .ok (.aload_n 0, 1) := by decide +kernel
theorem dX3_writeHeld_11 : decode cX3_writeHeld 11 = .ok (.getfield 15, 3) := by decide +kernel
theorem dX3_writeHeld_14 : decode cX3_writeHeld 14 = .ok (.iload_n 1, 1) := by decide +kernel
theorem dX3_writeHeld_15 : decode cX3_writeHeld 15 = .ok (.invokestatic 46, 3) := by decide +kernel
theorem dX3_writeHeld_18 : decode cX3_writeHeld 18 = .ok (.iastore, 1) := by decide +kernel
theorem dX3_writeHeld_19 : decode cX3_writeHeld 19 = .ok (.aload_n 0, 1) := by decide +kernel
theorem dX3_writeHeld_20 : decode cX3_writeHeld 20 = .ok (.getfield 11, 3) := by decide +kernel
theorem dX3_writeHeld_23 : decode cX3_writeHeld 23 = .ok (.aload_n 0, 1) := by decide +kernel
theorem dX3_writeHeld_24 : decode cX3_writeHeld 24 = .ok (.getfield 15, 3) := by decide +kernel
theorem dX3_writeHeld_27 : decode cX3_writeHeld 27 = .ok (.iconst 1, 1) := by decide +kernel
theorem dX3_writeHeld_28 : decode cX3_writeHeld 28 = .ok (.iadd, 1) := by decide +kernel
theorem dX3_writeHeld_29 : decode cX3_writeHeld 29 = .ok (.iload_n 2, 1) := by decide +kernel
theorem dX3_writeHeld_30 : decode cX3_writeHeld 30 = .ok (.bipush 8, 2) := by decide +kernel
theorem dX3_writeHeld_32 : decode cX3_writeHeld 32 = .ok (.ishr, 1) := by decide +kernel
theorem dX3_writeHeld_33 : decode cX3_writeHeld 33 = .ok (.iastore, 1) := by decide +kernel
theorem dX3_writeHeld_34 : decode cX3_writeHeld 34 = .ok (.aload_n 0, 1) := by decide +kernel
theorem dX3_writeHeld_35 : decode cX3_writeHeld 35 = .ok (.getfield 11, 3) := by decide +kernel
theorem dX3_writeHeld_38 : decode cX3_writeHeld 38 = .ok (.aload_n 0, 1) := by decide +kernel
theorem dX3_writeHeld_39 : decode cX3_writeHeld 39 = .ok (.getfield 15, 3) := by decide +kernel
theorem dX3_writeHeld_42 : decode cX3_writeHeld 42 = .ok (.iconst 2, 1) := by decide +kernel
theorem dX3_writeHeld_43 : decode cX3_writeHeld 43 = .ok (.iadd, 1) := by decide +kernel
theorem dX3_writeHeld_44 : decode cX3_writeHeld 44 = .ok (.iload_n 2, 1) := by decide +kernel
theorem dX3_writeHeld_45 : decode cX3_writeHeld 45 = .ok (.sipush 255, 3) := by decide +kernel
theorem dX3_writeHeld_48 : decode cX3_writeHeld 48 = .ok (.iand, 1) := by decide +kernel
theorem dX3_writeHeld_49 : decode cX3_writeHeld 49 = .ok (.iastore, 1) := by decide +kernel
theorem dX3_writeHeld_50 : decode cX3_writeHeld 50 = .ok (.aload_n 0, 1) := by decide +kernel
theorem dX3_writeHeld_51 : decode cX3_writeHeld 51 = .ok (.dup, 1) := by decide +kernel
theorem dX3_writeHeld_52 : decode cX3_writeHeld 52 = .ok (.getfield 15, 3) := by decide +kernel
theorem dX3_writeHeld_55 : decode cX3_writeHeld 55 = .ok (.iconst 3, 1) := by decide +kernel
theorem dX3_writeHeld_56 : decode cX3_writeHeld 56 = .ok (.iadd, 1) := by decide +kernel
theorem dX3_writeHeld_57 : decode cX3_writeHeld 57 = .ok (.putfield 15, 3) := by decide +kernel
theorem dX3_writeHeld_60 : decode cX3_writeHeld 60 = .ok (.return_, 1) := by decide +kernel
theorem dX7_allSteps_0 : decode cX7_allSteps 0 = .ok (.aload_n 0, 1) := by decide +kernel
theorem dX7_allSteps_1 : decode cX7_allSteps 1 = .ok (.aload_n 1, 1) := by decide +kernel
theorem dX7_allSteps_2 : decode cX7_allSteps 2 = .ok (.aload_n 1, 1) := by decide +kernel
theorem dX7_allSteps_3 : decode cX7_allSteps 3 = .ok (.getfield 87, 3) := by decide +kernel
theorem dX7_allSteps_6 : decode cX7_allSteps 6 = .ok (.invokevirtual 90, 3) := by decide +kernel
theorem dX7_allSteps_9 : decode cX7_allSteps 9 = .ok (.ireturn, 1) := by decide +kernel
theorem dX7_blockEnd_0 : decode cX7_blockEnd 0 = .ok (.iload_n 2, 1) := by decide +kernel
theorem dX7_blockEnd_1 : decode cX7_blockEnd 1 = .ok (.iconst 1, 1) := by decide +kernel
theorem dX7_blockEnd_2 : decode cX7_blockEnd 2 = .ok (.iadd, 1) := by decide +kernel
theorem dX7_blockEnd_3 : decode cX7_blockEnd 3 = .ok (.istore_n 3, 1) := by decide +kernel
theorem dX7_blockEnd_4 : decode cX7_blockEnd 4 = .ok (.iload_n 3, 1) := by decide +kernel
theorem dX7_blockEnd_5 : decode cX7_blockEnd 5 = .ok (.aload_n 1, 1) := by decide +kernel
theorem dX7_blockEnd_6 : decode cX7_blockEnd 6 = .ok (.getfield 37, 3) := by decide +kernel
theorem dX7_blockEnd_9 : decode cX7_blockEnd 9 = .ok (.if_icmp .ge 28, 3) := by decide +kernel
theorem dX7_blockEnd_12 : decode cX7_blockEnd 12 = .ok (.aload_n 1, 1) := by decide +kernel
theorem dX7_blockEnd_13 : decode cX7_blockEnd 13 = .ok (.getfield 57, 3) := by decide +kernel
theorem dX7_blockEnd_16 : decode cX7_blockEnd 16 = .ok (.iload_n 3, 1) := by decide +kernel
theorem dX7_blockEnd_17 : decode cX7_blockEnd 17 = .ok (.iaload, 1) := by decide +kernel
theorem dX7_blockEnd_18 : decode cX7_blockEnd 18 = .ok (.aload_n 1, 1) := by decide +kernel
theorem dX7_blockEnd_19 : decode cX7_blockEnd 19 = .ok (.getfield 57, 3) := by decide +kernel
theorem dX7_blockEnd_22 : decode cX7_blockEnd 22 = .ok (.iload_n 3, 1) := by decide +kernel
theorem dX7_blockEnd_23 : decode cX7_blockEnd 23 = .ok (.iconst 1, 1) := by decide +kernel
theorem dX7_blockEnd_24 : decode cX7_blockEnd 24 = .ok (.isub, 1) := by decide +kernel
theorem dX7_blockEnd_25 : decode cX7_blockEnd 25 = .ok (.iaload, 1) := by decide +kernel
theorem dX7_blockEnd_26 : decode cX7_blockEnd 26 = .ok (.iconst 1, 1) := by decide +kernel
theorem dX7_blockEnd_27 : decode cX7_blockEnd 27 = .ok (.iadd, 1) := by decide +kernel
theorem dX7_blockEnd_28 : decode cX7_blockEnd 28 = .ok (.if_icmp .ne 9, 3) := by decide +kernel
theorem dX7_blockEnd_31 : decode cX7_blockEnd 31 = .ok (.iinc 3 1, 3) := by decide +kernel
theorem dX7_blockEnd_34 : decode cX7_blockEnd 34 = .ok (.goto (-30), 3) := by decide +kernel
theorem dX7_blockEnd_37 : decode cX7_blockEnd 37 = .ok (.iload_n 3, 1) := by decide +kernel
theorem dX7_blockEnd_38 : decode cX7_blockEnd 38 = .ok (.ireturn, 1) := by decide +kernel
theorem dX7_blockFromTop_0 : decode cX7_blockFromTop 0 = .ok (.iconst 0, 1) := by decide +kernel
theorem dX7_blockFromTop_1 : decode cX7_blockFromTop 1 = .ok (.istore_n 3, 1) := by decide +kernel
theorem dX7_blockFromTop_2 : decode cX7_blockFromTop 2 = .ok (.aload_n 1, 1) := by decide +kernel
theorem dX7_blockFromTop_3 : decode cX7_blockFromTop 3 = .ok (.getfield 37, 3) := by decide +kernel
theorem dX7_blockFromTop_6 : decode cX7_blockFromTop 6 = .ok (.iconst 1, 1) := by decide +kernel
theorem dX7_blockFromTop_7 : decode cX7_blockFromTop 7 = .ok (.isub, 1) := by decide +kernel
theorem dX7_blockFromTop_8 : decode cX7_blockFromTop 8 = .ok (.istore 4, 2) := by decide +kernel
theorem dX7_blockFromTop_10 : decode cX7_blockFromTop 10 = .ok (.iload 4, 2) := by decide +kernel
theorem dX7_blockFromTop_12 : decode cX7_blockFromTop 12 = .ok (.ifCond .le 41, 3) := by decide +kernel
theorem dX7_blockFromTop_15 : decode cX7_blockFromTop 15 = .ok (.aload_n 1, 1) := by decide +kernel
theorem dX7_blockFromTop_16 : decode cX7_blockFromTop 16 = .ok (.getfield 57, 3) := by decide +kernel
theorem dX7_blockFromTop_19 : decode cX7_blockFromTop 19 = .ok (.iload 4, 2) := by decide +kernel
theorem dX7_blockFromTop_21 : decode cX7_blockFromTop 21 = .ok (.iconst 1, 1) := by decide +kernel
theorem dX7_blockFromTop_22 : decode cX7_blockFromTop 22 = .ok (.isub, 1) := by decide +kernel
theorem dX7_blockFromTop_23 : decode cX7_blockFromTop 23 = .ok (.iaload, 1) := by decide +kernel
theorem dX7_blockFromTop_24 : decode cX7_blockFromTop 24 = .ok (.aload_n 1, 1) := by decide +kernel
theorem dX7_blockFromTop_25 : decode cX7_blockFromTop 25 = .ok (.getfield 57, 3) := by decide +kernel
theorem dX7_blockFromTop_28 : decode cX7_blockFromTop 28 = .ok (.iload 4, 2) := by decide +kernel
theorem dX7_blockFromTop_30 : decode cX7_blockFromTop 30 = .ok (.iaload, 1) := by decide +kernel
theorem dX7_blockFromTop_31 : decode cX7_blockFromTop 31 = .ok (.iconst 1, 1) := by decide +kernel
theorem dX7_blockFromTop_32 : decode cX7_blockFromTop 32 = .ok (.isub, 1) := by decide +kernel
theorem dX7_blockFromTop_33 : decode cX7_blockFromTop 33 = .ok (.if_icmp .eq 14, 3) := by decide +kernel
theorem dX7_blockFromTop_36 : decode cX7_blockFromTop 36 = .ok (.iload_n 3, 1) := by decide +kernel
theorem dX7_blockFromTop_37 : decode cX7_blockFromTop 37 = .ok (.iload_n 2, 1) := by decide +kernel
theorem dX7_blockFromTop_38 : decode cX7_blockFromTop 38 = .ok (.if_icmp .ne 6, 3) := by decide +kernel
theorem dX7_blockFromTop_41 : decode cX7_blockFromTop 41 = .ok (.iload 4, 2) := by decide +kernel
theorem dX7_blockFromTop_43 : decode cX7_blockFromTop 43 = .ok (.ireturn, 1) := by decide +kernel
theorem dX7_blockFromTop_44 : decode cX7_blockFromTop 44 = .ok (.iinc 3 1, 3) := by decide +kernel
theorem dX7_blockFromTop_47 : decode cX7_blockFromTop 47 = .ok (.iinc 4 (-1), 3) := by decide +kernel
theorem dX7_blockFromTop_50 : decode cX7_blockFromTop 50 = .ok (.goto (-40), 3) := by decide +kernel
theorem dX7_blockFromTop_53 : decode cX7_blockFromTop 53 = .ok (.iconst 0, 1) := by decide +kernel
theorem dX7_blockFromTop_54 : decode cX7_blockFromTop 54 = .ok (.ireturn, 1) := by decide +kernel
theorem dX7_forward_0 : decode cX7_forward 0 = .ok (.aload_n 0, 1) := by decide +kernel
theorem dX7_forward_1 : decode cX7_forward 1 = .ok (.aload_n 1, 1) := by decide +kernel
theorem dX7_forward_2 : decode cX7_forward 2 = .ok (.iload_n 2, 1) := by decide +kernel
theorem dX7_forward_3 : decode cX7_forward 3 = .ok (.invokevirtual 129, 3) := by decide +kernel
theorem dX7_forward_6 : decode cX7_forward 6 = .ok (.istore_n 3, 1) := by decide +kernel
theorem dX7_forward_7 : decode cX7_forward 7 = .ok (.aload_n 1, 1) := by decide +kernel
theorem dX7_forward_8 : decode cX7_forward 8 = .ok (.getfield 126, 3) := by decide +kernel
theorem dX7_forward_11 : decode cX7_forward 11 = .ok (.iload_n 2, 1) := by decide +kernel
theorem dX7_forward_12 : decode cX7_forward 12 = .ok (.iload_n 3, 1) := by decide +kernel
theorem dX7_forward_13 : decode cX7_forward 13 = .ok (.invokestatic 143, 3) := by decide +kernel
theorem dX7_forward_16 : decode cX7_forward 16 = .ok (.aload_n 1, 1) := by decide +kernel
theorem dX7_forward_17 : decode cX7_forward 17 = .ok (.getfield 126, 3) := by decide +kernel
theorem dX7_forward_20 : decode cX7_forward 20 = .ok (.bipush 8, 2) := by decide +kernel
theorem dX7_forward_22 : decode cX7_forward 22 = .ok (.iload_n 2, 1) := by decide +kernel
theorem dX7_forward_23 : decode cX7_forward 23 = .ok (.iadd, 1) := by decide +kernel
theorem dX7_forward_24 : decode cX7_forward 24 = .ok (.iaload, 1) := by decide +kernel
theorem dX7_forward_25 : decode cX7_forward 25 = .ok (.invokestatic 132, 3) := by decide +kernel
theorem dX7_forward_28 : decode cX7_forward 28 = .ok (.istore 4, 2) := by decide +kernel
theorem dX7_forward_30 : decode cX7_forward 30 = .ok (.iload 4, 2) := by decide +kernel
theorem dX7_forward_32 : decode cX7_forward 32 = .ok (.iload_n 2, 1) := by decide +kernel
theorem dX7_forward_33 : decode cX7_forward 33 = .ok (.if_icmp .le 16, 3) := by decide +kernel
theorem dX7_forward_36 : decode cX7_forward 36 = .ok (.aload_n 1, 1) := by decide +kernel
theorem dX7_forward_37 : decode cX7_forward 37 = .ok (.getfield 126, 3) := by decide +kernel
theorem dX7_forward_40 : decode cX7_forward 40 = .ok (.iload_n 2, 1) := by decide +kernel
theorem dX7_forward_41 : decode cX7_forward 41 = .ok (.iload 4, 2) := by decide +kernel
theorem dX7_forward_43 : decode cX7_forward 43 = .ok (.invokestatic 139, 3) := by decide +kernel
theorem dX7_forward_46 : decode cX7_forward 46 = .ok (.goto 23, 3) := by decide +kernel
theorem dX7_forward_49 : decode cX7_forward 49 = .ok (.iload 4, 2) := by decide +kernel
theorem dX7_forward_51 : decode cX7_forward 51 = .ok (.iload_n 2, 1) := by decide +kernel
theorem dX7_forward_52 : decode cX7_forward 52 = .ok (.if_icmp .ne 17, 3) := by decide +kernel
theorem dX7_forward_55 : decode cX7_forward 55 = .ok (.aload_n 1, 1) := by decide +kernel
theorem dX7_forward_56 : decode cX7_forward 56 = .ok (.getfield 126, 3) := by decide +kernel
theorem dX7_forward_59 : decode cX7_forward 59 = .ok (.bipush 8, 2) := by decide +kernel
theorem dX7_forward_61 : decode cX7_forward 61 = .ok (.iload_n 2, 1) := by decide +kernel
theorem dX7_forward_62 : decode cX7_forward 62 = .ok (.iadd, 1) := by decide +kernel
theorem dX7_forward_63 : decode cX7_forward 63 = .ok (.sipush 3048, 3) := by decide +kernel
theorem dX7_forward_66 : decode cX7_forward 66 = .ok (.iload_n 3, 1) := by decide +kernel
theorem dX7_forward_67 : decode cX7_forward 67 = .ok (.iadd, 1) := by decide +kernel
theorem dX7_forward_68 : decode cX7_forward 68 = .ok (.iastore, 1) := by decide +kernel
theorem dX7_forward_69 : decode cX7_forward 69 = .ok (.return_, 1) := by decide +kernel
theorem dX7_goesUp_0 : decode cX7_goesUp 0 = .ok (.aload_n 1, 1) := by decide +kernel
theorem dX7_goesUp_1 : decode cX7_goesUp 1 = .ok (.getfield 46, 3) := by decide +kernel
theorem dX7_goesUp_4 : decode cX7_goesUp 4 = .ok (.aload_n 1, 1) := by decide +kernel
theorem dX7_goesUp_5 : decode cX7_goesUp 5 = .ok (.getfield 37, 3) := by decide +kernel
theorem dX7_goesUp_8 : decode cX7_goesUp 8 = .ok (.isub, 1) := by decide +kernel
theorem dX7_goesUp_9 : decode cX7_goesUp 9 = .ok (.iload_n 2, 1) := by decide +kernel
theorem dX7_goesUp_10 : decode cX7_goesUp 10 = .ok (.iadd, 1) := by decide +kernel
theorem dX7_goesUp_11 : decode cX7_goesUp 11 = .ok (.aload_n 1, 1) := by decide +kernel
theorem dX7_goesUp_12 : decode cX7_goesUp 12 = .ok (.getfield 57, 3) := by decide +kernel
theorem dX7_goesUp_15 : decode cX7_goesUp 15 = .ok (.iload_n 2, 1) := by decide +kernel
theorem dX7_goesUp_16 : decode cX7_goesUp 16 = .ok (.iaload, 1) := by decide +kernel
theorem dX7_goesUp_17 : decode cX7_goesUp 17 = .ok (.isub, 1) := by decide +kernel
theorem dX7_goesUp_18 : decode cX7_goesUp 18 = .ok (.ireturn, 1) := by decide +kernel
theorem dX7_newPlace_0 : decode cX7_newPlace 0 = .ok (.iconst 0, 1) := by decide +kernel
theorem dX7_newPlace_1 : decode cX7_newPlace 1 = .ok (.istore_n 3, 1) := by decide +kernel
theorem dX7_newPlace_2 : decode cX7_newPlace 2 = .ok (.aload_n 1, 1) := by decide +kernel
theorem dX7_newPlace_3 : decode cX7_newPlace 3 = .ok (.getfield 37, 3) := by decide +kernel
theorem dX7_newPlace_6 : decode cX7_newPlace 6 = .ok (.iconst 1, 1) := by decide +kernel
theorem dX7_newPlace_7 : decode cX7_newPlace 7 = .ok (.isub, 1) := by decide +kernel
theorem dX7_newPlace_8 : decode cX7_newPlace 8 = .ok (.istore 4, 2) := by decide +kernel
theorem dX7_newPlace_10 : decode cX7_newPlace 10 = .ok (.iload_n 3, 1) := by decide +kernel
theorem dX7_newPlace_11 : decode cX7_newPlace 11 = .ok (.iload 4, 2) := by decide +kernel
theorem dX7_newPlace_13 : decode cX7_newPlace 13 = .ok (.if_icmp .gt 63, 3) := by decide +kernel
theorem dX7_newPlace_16 : decode cX7_newPlace 16 = .ok (.iload_n 3, 1) := by decide +kernel
theorem dX7_newPlace_17 : decode cX7_newPlace 17 = .ok (.iload 4, 2) := by decide +kernel
theorem dX7_newPlace_19 : decode cX7_newPlace 19 = .ok (.iadd, 1) := by decide +kernel
theorem dX7_newPlace_20 : decode cX7_newPlace 20 = .ok (.iconst 2, 1) := by decide +kernel
theorem dX7_newPlace_21 : decode cX7_newPlace 21 = .ok (.idiv, 1) := by decide +kernel
theorem dX7_newPlace_22 : decode cX7_newPlace 22 = .ok (.istore 5, 2) := by decide +kernel
theorem dX7_newPlace_24 : decode cX7_newPlace 24 = .ok (.aload_n 1, 1) := by decide +kernel
theorem dX7_newPlace_25 : decode cX7_newPlace 25 = .ok (.getfield 57, 3) := by decide +kernel
theorem dX7_newPlace_28 : decode cX7_newPlace 28 = .ok (.iload 5, 2) := by decide +kernel
theorem dX7_newPlace_30 : decode cX7_newPlace 30 = .ok (.iaload, 1) := by decide +kernel
theorem dX7_newPlace_31 : decode cX7_newPlace 31 = .ok (.iload_n 2, 1) := by decide +kernel
theorem dX7_newPlace_32 : decode cX7_newPlace 32 = .ok (.if_icmp .ne 16, 3) := by decide +kernel
theorem dX7_newPlace_35 : decode cX7_newPlace 35 = .ok (.aload_n 1, 1) := by decide +kernel
theorem dX7_newPlace_36 : decode cX7_newPlace 36 = .ok (.getfield 46, 3) := by decide +kernel
theorem dX7_newPlace_39 : decode cX7_newPlace 39 = .ok (.aload_n 1, 1) := by decide +kernel
theorem dX7_newPlace_40 : decode cX7_newPlace 40 = .ok (.getfield 37, 3) := by decide +kernel
theorem dX7_newPlace_43 : decode cX7_newPlace 43 = .ok (.isub, 1) := by decide +kernel
theorem dX7_newPlace_44 : decode cX7_newPlace 44 = .ok (.iload 5, 2) := by decide +kernel
theorem dX7_newPlace_46 : decode cX7_newPlace 46 = .ok (.iadd, 1) := by decide +kernel
theorem dX7_newPlace_47 : decode cX7_newPlace 47 = .ok (.ireturn, 1) := by decide +kernel
theorem dX7_newPlace_48 : decode cX7_newPlace 48 = .ok (.aload_n 1, 1) := by decide +kernel
theorem dX7_newPlace_49 : decode cX7_newPlace 49 = .ok (.getfield 57, 3) := by decide +kernel
theorem dX7_newPlace_52 : decode cX7_newPlace 52 = .ok (.iload 5, 2) := by decide +kernel
theorem dX7_newPlace_54 : decode cX7_newPlace 54 = .ok (.iaload, 1) := by decide +kernel
theorem dX7_newPlace_55 : decode cX7_newPlace 55 = .ok (.iload_n 2, 1) := by decide +kernel
theorem dX7_newPlace_56 : decode cX7_newPlace 56 = .ok (.if_icmp .ge 11, 3) := by decide +kernel
theorem dX7_newPlace_59 : decode cX7_newPlace 59 = .ok (.iload 5, 2) := by decide +kernel
theorem dX7_newPlace_61 : decode cX7_newPlace 61 = .ok (.iconst 1, 1) := by decide +kernel
theorem dX7_newPlace_62 : decode cX7_newPlace 62 = .ok (.iadd, 1) := by decide +kernel
theorem dX7_newPlace_63 : decode cX7_newPlace 63 = .ok (.istore_n 3, 1) := by decide +kernel
theorem dX7_newPlace_64 : decode cX7_newPlace 64 = .ok (.goto 9, 3) := by decide +kernel
theorem dX7_newPlace_67 : decode cX7_newPlace 67 = .ok (.iload 5, 2) := by decide +kernel
theorem dX7_newPlace_69 : decode cX7_newPlace 69 = .ok (.iconst 1, 1) := by decide +kernel
theorem dX7_newPlace_70 : decode cX7_newPlace 70 = .ok (.isub, 1) := by decide +kernel
theorem dX7_newPlace_71 : decode cX7_newPlace 71 = .ok (.istore 4, 2) := by decide +kernel
theorem dX7_newPlace_73 : decode cX7_newPlace 73 = .ok (.goto (-63), 3) := by decide +kernel
theorem dX7_newPlace_76 : decode cX7_newPlace 76 = .ok (.iconst (-1), 1) := by decide +kernel
theorem dX7_newPlace_77 : decode cX7_newPlace 77 = .ok (.ireturn, 1) := by decide +kernel
theorem dX7_plan_0 : decode cX7_plan 0 = .ok (.aload_n 0, 1) := by decide +kernel
theorem dX7_plan_1 : decode cX7_plan 1 = .ok (.getfield 15, 3) := by decide +kernel
theorem dX7_plan_4 : decode cX7_plan 4 = .ok (.aload_n 1, 1) := by decide +kernel
theorem dX7_plan_5 : decode cX7_plan 5 = .ok (.iconst (-1), 1) := by decide +kernel
theorem dX7_plan_6 : decode cX7_plan 6 = .ok (.iconst (-1), 1) := by decide +kernel
theorem dX7_plan_7 : decode cX7_plan 7 = .ok (.invokevirtual 19, 3) := by decide +kernel
theorem dX7_plan_10 : decode cX7_plan 10 = .ok (.aload_n 1, 1) := by decide +kernel
theorem dX7_plan_11 : decode cX7_plan 11 = .ok (.iconst 0, 1) := by decide +kernel
theorem dX7_plan_12 : decode cX7_plan 12 = .ok (.putfield 25, 3) := by decide +kernel
theorem dX7_plan_15 : decode cX7_plan 15 = .ok (.aload_n 1, 1) := by decide +kernel
theorem dX7_plan_16 : decode cX7_plan 16 = .ok (.iconst 0, 1) := by decide +kernel
theorem dX7_plan_17 : decode cX7_plan 17 = .ok (.putfield 31, 3) := by decide +kernel
theorem dX7_plan_20 : decode cX7_plan 20 = .ok (.aload_n 1, 1) := by decide +kernel
theorem dX7_plan_21 : decode cX7_plan 21 = .ok (.iconst 0, 1) := by decide +kernel
theorem dX7_plan_22 : decode cX7_plan 22 = .ok (.putfield 34, 3) := by decide +kernel
theorem dX7_plan_25 : decode cX7_plan 25 = .ok (.aload_n 1, 1) := by decide +kernel
theorem dX7_plan_26 : decode cX7_plan 26 = .ok (.iconst 0, 1) := by decide +kernel
theorem dX7_plan_27 : decode cX7_plan 27 = .ok (.putfield 37, 3) := by decide +kernel
theorem dX7_plan_30 : decode cX7_plan 30 = .ok (.aload_n 1, 1) := by decide +kernel
theorem dX7_plan_31 : decode cX7_plan 31 = .ok (.iconst 0, 1) := by decide +kernel
theorem dX7_plan_32 : decode cX7_plan 32 = .ok (.putfield 40, 3) := by decide +kernel
theorem dX7_plan_35 : decode cX7_plan 35 = .ok (.aload_n 1, 1) := by decide +kernel
theorem dX7_plan_36 : decode cX7_plan 36 = .ok (.getfield 43, 3) := by decide +kernel
theorem dX7_plan_39 : decode cX7_plan 39 = .ok (.istore_n 2, 1) := by decide +kernel
theorem dX7_plan_40 : decode cX7_plan 40 = .ok (.iload_n 2, 1) := by decide +kernel
theorem dX7_plan_41 : decode cX7_plan 41 = .ok (.aload_n 1, 1) := by decide +kernel
theorem dX7_plan_42 : decode cX7_plan 42 = .ok (.getfield 46, 3) := by decide +kernel
theorem dX7_plan_45 : decode cX7_plan 45 = .ok (.if_icmp .ge 97, 3) := by decide +kernel
theorem dX7_plan_48 : decode cX7_plan 48 = .ok (.aload_n 0, 1) := by decide +kernel
theorem dX7_plan_49 : decode cX7_plan 49 = .ok (.getfield 15, 3) := by decide +kernel
theorem dX7_plan_52 : decode cX7_plan 52 = .ok (.getfield 49, 3) := by decide +kernel
theorem dX7_plan_55 : decode cX7_plan 55 = .ok (.iload_n 2, 1) := by decide +kernel
theorem dX7_plan_56 : decode cX7_plan 56 = .ok (.iaload, 1) := by decide +kernel
theorem dX7_plan_57 : decode cX7_plan 57 = .ok (.iload_n 2, 1) := by decide +kernel
theorem dX7_plan_58 : decode cX7_plan 58 = .ok (.if_icmp .ne 13, 3) := by decide +kernel
theorem dX7_plan_61 : decode cX7_plan 61 = .ok (.aload_n 1, 1) := by decide +kernel
theorem dX7_plan_62 : decode cX7_plan 62 = .ok (.dup, 1) := by decide +kernel
theorem dX7_plan_63 : decode cX7_plan 63 = .ok (.getfield 34, 3) := by decide +kernel
theorem dX7_plan_66 : decode cX7_plan 66 = .ok (.iconst 1, 1) := by decide +kernel
theorem dX7_plan_67 : decode cX7_plan 67 = .ok (.iadd, 1) := by decide +kernel
theorem dX7_plan_68 : decode cX7_plan 68 = .ok (.putfield 34, 3) := by decide +kernel
theorem dX7_plan_71 : decode cX7_plan 71 = .ok (.aload_n 0, 1) := by decide +kernel
theorem dX7_plan_72 : decode cX7_plan 72 = .ok (.getfield 15, 3) := by decide +kernel
theorem dX7_plan_75 : decode cX7_plan 75 = .ok (.iload_n 2, 1) := by decide +kernel
theorem dX7_plan_76 : decode cX7_plan 76 = .ok (.invokevirtual 53, 3) := by decide +kernel
theorem dX7_plan_79 : decode cX7_plan 79 = .ok (.ifCond .eq 57, 3) := by decide +kernel
theorem dX7_plan_82 : decode cX7_plan 82 = .ok (.aload_n 1, 1) := by decide +kernel
theorem dX7_plan_83 : decode cX7_plan 83 = .ok (.getfield 37, 3) := by decide +kernel
theorem dX7_plan_86 : decode cX7_plan 86 = .ok (.ifCond .eq 20, 3) := by decide +kernel
theorem dX7_plan_89 : decode cX7_plan 89 = .ok (.aload_n 1, 1) := by decide +kernel
theorem dX7_plan_90 : decode cX7_plan 90 = .ok (.getfield 57, 3) := by decide +kernel
theorem dX7_plan_93 : decode cX7_plan 93 = .ok (.aload_n 1, 1) := by decide +kernel
theorem dX7_plan_94 : decode cX7_plan 94 = .ok (.getfield 37, 3) := by decide +kernel
theorem dX7_plan_97 : decode cX7_plan 97 = .ok (.iconst 1, 1) := by decide +kernel
theorem dX7_plan_98 : decode cX7_plan 98 = .ok (.isub, 1) := by decide +kernel
theorem dX7_plan_99 : decode cX7_plan 99 = .ok (.iaload, 1) := by decide +kernel
theorem dX7_plan_100 : decode cX7_plan 100 = .ok (.iload_n 2, 1) := by decide +kernel
theorem dX7_plan_101 : decode cX7_plan 101 = .ok (.iconst 1, 1) := by decide +kernel
theorem dX7_plan_102 : decode cX7_plan 102 = .ok (.isub, 1) := by decide +kernel
theorem dX7_plan_103 : decode cX7_plan 103 = .ok (.if_icmp .eq 13, 3) := by decide +kernel
theorem dX7_plan_106 : decode cX7_plan 106 = .ok (.aload_n 1, 1) := by decide +kernel
theorem dX7_plan_107 : decode cX7_plan 107 = .ok (.dup, 1) := by decide +kernel
theorem dX7_plan_108 : decode cX7_plan 108 = .ok (.getfield 40, 3) := by decide +kernel
theorem dX7_plan_111 : decode cX7_plan 111 = .ok (.iconst 1, 1) := by decide +kernel
theorem dX7_plan_112 : decode cX7_plan 112 = .ok (.iadd, 1) := by decide +kernel
theorem dX7_plan_113 : decode cX7_plan 113 = .ok (.putfield 40, 3) := by decide +kernel
theorem dX7_plan_116 : decode cX7_plan 116 = .ok (.aload_n 1, 1) := by decide +kernel
theorem dX7_plan_117 : decode cX7_plan 117 = .ok (.getfield 57, 3) := by decide +kernel
theorem dX7_plan_120 : decode cX7_plan 120 = .ok (.aload_n 1, 1) := by decide +kernel
theorem dX7_plan_121 : decode cX7_plan 121 = .ok (.getfield 37, 3) := by decide +kernel
theorem dX7_plan_124 : decode cX7_plan 124 = .ok (.iload_n 2, 1) := by decide +kernel
theorem dX7_plan_125 : decode cX7_plan 125 = .ok (.iastore, 1) := by decide +kernel
theorem dX7_plan_126 : decode cX7_plan 126 = .ok (.aload_n 1, 1) := by decide +kernel
theorem dX7_plan_127 : decode cX7_plan 127 = .ok (.dup, 1) := by decide +kernel
theorem dX7_plan_128 : decode cX7_plan 128 = .ok (.getfield 37, 3) := by decide +kernel
theorem dX7_plan_131 : decode cX7_plan 131 = .ok (.iconst 1, 1) := by decide +kernel
theorem dX7_plan_132 : decode cX7_plan 132 = .ok (.iadd, 1) := by decide +kernel
theorem dX7_plan_133 : decode cX7_plan 133 = .ok (.putfield 37, 3) := by decide +kernel
theorem dX7_plan_136 : decode cX7_plan 136 = .ok (.iinc 2 1, 3) := by decide +kernel
theorem dX7_plan_139 : decode cX7_plan 139 = .ok (.goto (-99), 3) := by decide +kernel
theorem dX7_plan_142 : decode cX7_plan 142 = .ok (.return_, 1) := by decide +kernel
theorem dX7_raise_0 : decode cX7_raise 0 = .ok (.aload_n 1, 1) := by decide +kernel
theorem dX7_raise_1 : decode cX7_raise 1 = .ok (.getfield 126, 3) := by decide +kernel
theorem dX7_raise_4 : decode cX7_raise 4 = .ok (.bipush 8, 2) := by decide +kernel
theorem dX7_raise_6 : decode cX7_raise 6 = .ok (.iload_n 2, 1) := by decide +kernel
theorem dX7_raise_7 : decode cX7_raise 7 = .ok (.iadd, 1) := by decide +kernel
theorem dX7_raise_8 : decode cX7_raise 8 = .ok (.iaload, 1) := by decide +kernel
theorem dX7_raise_9 : decode cX7_raise 9 = .ok (.invokestatic 132, 3) := by decide +kernel
theorem dX7_raise_12 : decode cX7_raise 12 = .ok (.istore_n 3, 1) := by decide +kernel
theorem dX7_raise_13 : decode cX7_raise 13 = .ok (.iload_n 3, 1) := by decide +kernel
theorem dX7_raise_14 : decode cX7_raise 14 = .ok (.iconst (-1), 1) := by decide +kernel
theorem dX7_raise_15 : decode cX7_raise 15 = .ok (.if_icmp .eq 22, 3) := by decide +kernel
theorem dX7_raise_18 : decode cX7_raise 18 = .ok (.aload_n 1, 1) := by decide +kernel
theorem dX7_raise_19 : decode cX7_raise 19 = .ok (.getfield 126, 3) := by decide +kernel
theorem dX7_raise_22 : decode cX7_raise 22 = .ok (.bipush 8, 2) := by decide +kernel
theorem dX7_raise_24 : decode cX7_raise 24 = .ok (.iload_n 2, 1) := by decide +kernel
theorem dX7_raise_25 : decode cX7_raise 25 = .ok (.iadd, 1) := by decide +kernel
theorem dX7_raise_26 : decode cX7_raise 26 = .ok (.sipush 3048, 3) := by decide +kernel
theorem dX7_raise_29 : decode cX7_raise 29 = .ok (.aload_n 0, 1) := by decide +kernel
theorem dX7_raise_30 : decode cX7_raise 30 = .ok (.aload_n 1, 1) := by decide +kernel
theorem dX7_raise_31 : decode cX7_raise 31 = .ok (.iload_n 3, 1) := by decide +kernel
theorem dX7_raise_32 : decode cX7_raise 32 = .ok (.invokevirtual 129, 3) := by decide +kernel
theorem dX7_raise_35 : decode cX7_raise 35 = .ok (.iadd, 1) := by decide +kernel
theorem dX7_raise_36 : decode cX7_raise 36 = .ok (.iastore, 1) := by decide +kernel
theorem dX7_raise_37 : decode cX7_raise 37 = .ok (.return_, 1) := by decide +kernel
theorem dX7_stageAddress_0 : decode cX7_stageAddress 0 = .ok (.aload_n 1, 1) := by decide +kernel
theorem dX7_stageAddress_1 : decode cX7_stageAddress 1 = .ok (.getfield 25, 3) := by decide +kernel
theorem dX7_stageAddress_4 : decode cX7_stageAddress 4 = .ok (.iconst 1, 1) := by decide +kernel
theorem dX7_stageAddress_5 : decode cX7_stageAddress 5 = .ok (.isub, 1) := by decide +kernel
theorem dX7_stageAddress_6 : decode cX7_stageAddress 6 = .ok (.istore_n 2, 1) := by decide +kernel
theorem dX7_stageAddress_7 : decode cX7_stageAddress 7 = .ok (.aload_n 0, 1) := by decide +kernel
theorem dX7_stageAddress_8 : decode cX7_stageAddress 8 = .ok (.aload_n 1, 1) := by decide +kernel
theorem dX7_stageAddress_9 : decode cX7_stageAddress 9 = .ok (.invokevirtual 94, 3) := by decide +kernel
theorem dX7_stageAddress_12 : decode cX7_stageAddress 12 = .ok (.tableswitch 116 2 7 #[40, 45, 55, 74, 86, 96], 40) := by decide +kernel
theorem dX7_stageAddress_52 : decode cX7_stageAddress 52 = .ok (.iload_n 2, 1) := by decide +kernel
theorem dX7_stageAddress_53 : decode cX7_stageAddress 53 = .ok (.bipush 8, 2) := by decide +kernel
theorem dX7_stageAddress_55 : decode cX7_stageAddress 55 = .ok (.isub, 1) := by decide +kernel
theorem dX7_stageAddress_56 : decode cX7_stageAddress 56 = .ok (.ireturn, 1) := by decide +kernel
theorem dX7_stageAddress_57 : decode cX7_stageAddress 57 = .ok (.aload_n 1, 1) := by decide +kernel
theorem dX7_stageAddress_58 : decode cX7_stageAddress 58 = .ok (.getfield 57, 3) := by decide +kernel
theorem dX7_stageAddress_61 : decode cX7_stageAddress 61 = .ok (.iload_n 2, 1) := by decide +kernel
theorem dX7_stageAddress_62 : decode cX7_stageAddress 62 = .ok (.bipush 8, 2) := by decide +kernel
theorem dX7_stageAddress_64 : decode cX7_stageAddress 64 = .ok (.isub, 1) := by decide +kernel
theorem dX7_stageAddress_65 : decode cX7_stageAddress 65 = .ok (.iaload, 1) := by decide +kernel
theorem dX7_stageAddress_66 : decode cX7_stageAddress 66 = .ok (.ireturn, 1) := by decide +kernel
theorem dX7_stageAddress_67 : decode cX7_stageAddress 67 = .ok (.aload_n 1, 1) := by decide +kernel
theorem dX7_stageAddress_68 : decode cX7_stageAddress 68 = .ok (.getfield 57, 3) := by decide +kernel
theorem dX7_stageAddress_71 : decode cX7_stageAddress 71 = .ok (.iconst 2, 1) := by decide +kernel
theorem dX7_stageAddress_72 : decode cX7_stageAddress 72 = .ok (.aload_n 1, 1) := by decide +kernel
theorem dX7_stageAddress_73 : decode cX7_stageAddress 73 = .ok (.getfield 37, 3) := by decide +kernel
theorem dX7_stageAddress_76 : decode cX7_stageAddress 76 = .ok (.imul, 1) := by decide +kernel
theorem dX7_stageAddress_77 : decode cX7_stageAddress 77 = .ok (.iconst 1, 1) := by decide +kernel
theorem dX7_stageAddress_78 : decode cX7_stageAddress 78 = .ok (.isub, 1) := by decide +kernel
theorem dX7_stageAddress_79 : decode cX7_stageAddress 79 = .ok (.iload_n 2, 1) := by decide +kernel
theorem dX7_stageAddress_80 : decode cX7_stageAddress 80 = .ok (.bipush 8, 2) := by decide +kernel
theorem dX7_stageAddress_82 : decode cX7_stageAddress 82 = .ok (.isub, 1) := by decide +kernel
theorem dX7_stageAddress_83 : decode cX7_stageAddress 83 = .ok (.isub, 1) := by decide +kernel
theorem dX7_stageAddress_84 : decode cX7_stageAddress 84 = .ok (.iaload, 1) := by decide +kernel
theorem dX7_stageAddress_85 : decode cX7_stageAddress 85 = .ok (.ireturn, 1) := by decide +kernel
theorem dX7_stageAddress_86 : decode cX7_stageAddress 86 = .ok (.aload_n 1, 1) := by decide +kernel
theorem dX7_stageAddress_87 : decode cX7_stageAddress 87 = .ok (.getfield 57, 3) := by decide +kernel
theorem dX7_stageAddress_90 : decode cX7_stageAddress 90 = .ok (.aload_n 0, 1) := by decide +kernel
theorem dX7_stageAddress_91 : decode cX7_stageAddress 91 = .ok (.aload_n 1, 1) := by decide +kernel
theorem dX7_stageAddress_92 : decode cX7_stageAddress 92 = .ok (.iload_n 2, 1) := by decide +kernel
theorem dX7_stageAddress_93 : decode cX7_stageAddress 93 = .ok (.invokevirtual 97, 3) := by decide +kernel
theorem dX7_stageAddress_96 : decode cX7_stageAddress 96 = .ok (.iaload, 1) := by decide +kernel
theorem dX7_stageAddress_97 : decode cX7_stageAddress 97 = .ok (.ireturn, 1) := by decide +kernel
theorem dX7_stageAddress_98 : decode cX7_stageAddress 98 = .ok (.iload_n 2, 1) := by decide +kernel
theorem dX7_stageAddress_99 : decode cX7_stageAddress 99 = .ok (.aload_n 1, 1) := by decide +kernel
theorem dX7_stageAddress_100 : decode cX7_stageAddress 100 = .ok (.getfield 40, 3) := by decide +kernel
theorem dX7_stageAddress_103 : decode cX7_stageAddress 103 = .ok (.isub, 1) := by decide +kernel
theorem dX7_stageAddress_104 : decode cX7_stageAddress 104 = .ok (.bipush 8, 2) := by decide +kernel
theorem dX7_stageAddress_106 : decode cX7_stageAddress 106 = .ok (.isub, 1) := by decide +kernel
theorem dX7_stageAddress_107 : decode cX7_stageAddress 107 = .ok (.ireturn, 1) := by decide +kernel
theorem dX7_stageAddress_108 : decode cX7_stageAddress 108 = .ok (.aload_n 1, 1) := by decide +kernel
theorem dX7_stageAddress_109 : decode cX7_stageAddress 109 = .ok (.getfield 46, 3) := by decide +kernel
theorem dX7_stageAddress_112 : decode cX7_stageAddress 112 = .ok (.aload_n 1, 1) := by decide +kernel
theorem dX7_stageAddress_113 : decode cX7_stageAddress 113 = .ok (.getfield 37, 3) := by decide +kernel
theorem dX7_stageAddress_116 : decode cX7_stageAddress 116 = .ok (.isub, 1) := by decide +kernel
theorem dX7_stageAddress_117 : decode cX7_stageAddress 117 = .ok (.iload_n 2, 1) := by decide +kernel
theorem dX7_stageAddress_118 : decode cX7_stageAddress 118 = .ok (.iadd, 1) := by decide +kernel
theorem dX7_stageAddress_119 : decode cX7_stageAddress 119 = .ok (.aload_n 1, 1) := by decide +kernel
theorem dX7_stageAddress_120 : decode cX7_stageAddress 120 = .ok (.getfield 40, 3) := by decide +kernel
theorem dX7_stageAddress_123 : decode cX7_stageAddress 123 = .ok (.isub, 1) := by decide +kernel
theorem dX7_stageAddress_124 : decode cX7_stageAddress 124 = .ok (.bipush 8, 2) := by decide +kernel
theorem dX7_stageAddress_126 : decode cX7_stageAddress 126 = .ok (.isub, 1) := by decide +kernel
theorem dX7_stageAddress_127 : decode cX7_stageAddress 127 = .ok (.ireturn, 1) := by decide +kernel
theorem dX7_stageAddress_128 : decode cX7_stageAddress 128 = .ok (.ldc 100, 2) := by decide +kernel
theorem dX7_stageAddress_130 : decode cX7_stageAddress 130 = .ok (.ireturn, 1) := by decide +kernel
theorem dX7_stageOf_0 : decode cX7_stageOf 0 = .ok (.aload_n 1, 1) := by decide +kernel
theorem dX7_stageOf_1 : decode cX7_stageOf 1 = .ok (.getfield 25, 3) := by decide +kernel
theorem dX7_stageOf_4 : decode cX7_stageOf 4 = .ok (.iconst 1, 1) := by decide +kernel
theorem dX7_stageOf_5 : decode cX7_stageOf 5 = .ok (.isub, 1) := by decide +kernel
theorem dX7_stageOf_6 : decode cX7_stageOf 6 = .ok (.istore_n 2, 1) := by decide +kernel
theorem dX7_stageOf_7 : decode cX7_stageOf 7 = .ok (.iload_n 2, 1) := by decide +kernel
theorem dX7_stageOf_8 : decode cX7_stageOf 8 = .ok (.ifCond .ge 5, 3) := by decide +kernel
theorem dX7_stageOf_11 : decode cX7_stageOf 11 = .ok (.iconst 1, 1) := by decide +kernel
theorem dX7_stageOf_12 : decode cX7_stageOf 12 = .ok (.ireturn, 1) := by decide +kernel
theorem dX7_stageOf_13 : decode cX7_stageOf 13 = .ok (.aload_n 1, 1) := by decide +kernel
theorem dX7_stageOf_14 : decode cX7_stageOf 14 = .ok (.getfield 87, 3) := by decide +kernel
theorem dX7_stageOf_17 : decode cX7_stageOf 17 = .ok (.ifCond .ne 48, 3) := by decide +kernel
theorem dX7_stageOf_20 : decode cX7_stageOf 20 = .ok (.iload_n 2, 1) := by decide +kernel
theorem dX7_stageOf_21 : decode cX7_stageOf 21 = .ok (.bipush 8, 2) := by decide +kernel
theorem dX7_stageOf_23 : decode cX7_stageOf 23 = .ok (.if_icmp .ge 7, 3) := by decide +kernel
theorem dX7_stageOf_26 : decode cX7_stageOf 26 = .ok (.iconst 2, 1) := by decide +kernel
theorem dX7_stageOf_27 : decode cX7_stageOf 27 = .ok (.goto 37, 3) := by decide +kernel
theorem dX7_stageOf_30 : decode cX7_stageOf 30 = .ok (.iload_n 2, 1) := by decide +kernel
theorem dX7_stageOf_31 : decode cX7_stageOf 31 = .ok (.bipush 8, 2) := by decide +kernel
theorem dX7_stageOf_33 : decode cX7_stageOf 33 = .ok (.aload_n 1, 1) := by decide +kernel
theorem dX7_stageOf_34 : decode cX7_stageOf 34 = .ok (.getfield 37, 3) := by decide +kernel
theorem dX7_stageOf_37 : decode cX7_stageOf 37 = .ok (.iadd, 1) := by decide +kernel
theorem dX7_stageOf_38 : decode cX7_stageOf 38 = .ok (.if_icmp .ge 7, 3) := by decide +kernel
theorem dX7_stageOf_41 : decode cX7_stageOf 41 = .ok (.iconst 3, 1) := by decide +kernel
theorem dX7_stageOf_42 : decode cX7_stageOf 42 = .ok (.goto 22, 3) := by decide +kernel
theorem dX7_stageOf_45 : decode cX7_stageOf 45 = .ok (.iload_n 2, 1) := by decide +kernel
theorem dX7_stageOf_46 : decode cX7_stageOf 46 = .ok (.bipush 8, 2) := by decide +kernel
theorem dX7_stageOf_48 : decode cX7_stageOf 48 = .ok (.iconst 2, 1) := by decide +kernel
theorem dX7_stageOf_49 : decode cX7_stageOf 49 = .ok (.aload_n 1, 1) := by decide +kernel
theorem dX7_stageOf_50 : decode cX7_stageOf 50 = .ok (.getfield 37, 3) := by decide +kernel
theorem dX7_stageOf_53 : decode cX7_stageOf 53 = .ok (.imul, 1) := by decide +kernel
theorem dX7_stageOf_54 : decode cX7_stageOf 54 = .ok (.iadd, 1) := by decide +kernel
theorem dX7_stageOf_55 : decode cX7_stageOf 55 = .ok (.if_icmp .ge 7, 3) := by decide +kernel
theorem dX7_stageOf_58 : decode cX7_stageOf 58 = .ok (.iconst 4, 1) := by decide +kernel
theorem dX7_stageOf_59 : decode cX7_stageOf 59 = .ok (.goto 5, 3) := by decide +kernel
theorem dX7_stageOf_62 : decode cX7_stageOf 62 = .ok (.bipush 8, 2) := by decide +kernel
theorem dX7_stageOf_64 : decode cX7_stageOf 64 = .ok (.ireturn, 1) := by decide +kernel
theorem dX7_stageOf_65 : decode cX7_stageOf 65 = .ok (.iload_n 2, 1) := by decide +kernel
theorem dX7_stageOf_66 : decode cX7_stageOf 66 = .ok (.aload_n 1, 1) := by decide +kernel
theorem dX7_stageOf_67 : decode cX7_stageOf 67 = .ok (.getfield 40, 3) := by decide +kernel
theorem dX7_stageOf_70 : decode cX7_stageOf 70 = .ok (.if_icmp .ge 7, 3) := by decide +kernel
theorem dX7_stageOf_73 : decode cX7_stageOf 73 = .ok (.iconst 5, 1) := by decide +kernel
theorem dX7_stageOf_74 : decode cX7_stageOf 74 = .ok (.goto 42, 3) := by decide +kernel
theorem dX7_stageOf_77 : decode cX7_stageOf 77 = .ok (.iload_n 2, 1) := by decide +kernel
theorem dX7_stageOf_78 : decode cX7_stageOf 78 = .ok (.aload_n 1, 1) := by decide +kernel
theorem dX7_stageOf_79 : decode cX7_stageOf 79 = .ok (.getfield 40, 3) := by decide +kernel
theorem dX7_stageOf_82 : decode cX7_stageOf 82 = .ok (.bipush 8, 2) := by decide +kernel
theorem dX7_stageOf_84 : decode cX7_stageOf 84 = .ok (.iadd, 1) := by decide +kernel
theorem dX7_stageOf_85 : decode cX7_stageOf 85 = .ok (.if_icmp .ge 8, 3) := by decide +kernel
theorem dX7_stageOf_88 : decode cX7_stageOf 88 = .ok (.bipush 6, 2) := by decide +kernel
theorem dX7_stageOf_90 : decode cX7_stageOf 90 = .ok (.goto 26, 3) := by decide +kernel
theorem dX7_stageOf_93 : decode cX7_stageOf 93 = .ok (.iload_n 2, 1) := by decide +kernel
theorem dX7_stageOf_94 : decode cX7_stageOf 94 = .ok (.aload_n 1, 1) := by decide +kernel
theorem dX7_stageOf_95 : decode cX7_stageOf 95 = .ok (.getfield 40, 3) := by decide +kernel
theorem dX7_stageOf_98 : decode cX7_stageOf 98 = .ok (.bipush 8, 2) := by decide +kernel
theorem dX7_stageOf_100 : decode cX7_stageOf 100 = .ok (.iadd, 1) := by decide +kernel
theorem dX7_stageOf_101 : decode cX7_stageOf 101 = .ok (.aload_n 1, 1) := by decide +kernel
theorem dX7_stageOf_102 : decode cX7_stageOf 102 = .ok (.getfield 37, 3) := by decide +kernel
theorem dX7_stageOf_105 : decode cX7_stageOf 105 = .ok (.iadd, 1) := by decide +kernel
theorem dX7_stageOf_106 : decode cX7_stageOf 106 = .ok (.if_icmp .ge 8, 3) := by decide +kernel
theorem dX7_stageOf_109 : decode cX7_stageOf 109 = .ok (.bipush 7, 2) := by decide +kernel
theorem dX7_stageOf_111 : decode cX7_stageOf 111 = .ok (.goto 5, 3) := by decide +kernel
theorem dX7_stageOf_114 : decode cX7_stageOf 114 = .ok (.bipush 8, 2) := by decide +kernel
theorem dX7_stageOf_116 : decode cX7_stageOf 116 = .ok (.ireturn, 1) := by decide +kernel
theorem dX7_stepsBy_0 : decode cX7_stepsBy 0 = .ok (.bipush 10, 2) := by decide +kernel
theorem dX7_stepsBy_2 : decode cX7_stepsBy 2 = .ok (.aload_n 1, 1) := by decide +kernel
theorem dX7_stepsBy_3 : decode cX7_stepsBy 3 = .ok (.getfield 37, 3) := by decide +kernel
theorem dX7_stepsBy_6 : decode cX7_stepsBy 6 = .ok (.iadd, 1) := by decide +kernel
theorem dX7_stepsBy_7 : decode cX7_stepsBy 7 = .ok (.iload_n 2, 1) := by decide +kernel
theorem dX7_stepsBy_8 : decode cX7_stepsBy 8 = .ok (.ifCond .ne 10, 3) := by decide +kernel
theorem dX7_stepsBy_11 : decode cX7_stepsBy 11 = .ok (.aload_n 1, 1) := by decide +kernel
theorem dX7_stepsBy_12 : decode cX7_stepsBy 12 = .ok (.getfield 37, 3) := by decide +kernel
theorem dX7_stepsBy_15 : decode cX7_stepsBy 15 = .ok (.goto 7, 3) := by decide +kernel
theorem dX7_stepsBy_18 : decode cX7_stepsBy 18 = .ok (.aload_n 1, 1) := by decide +kernel
theorem dX7_stepsBy_19 : decode cX7_stepsBy 19 = .ok (.getfield 40, 3) := by decide +kernel
theorem dX7_stepsBy_22 : decode cX7_stepsBy 22 = .ok (.iadd, 1) := by decide +kernel
theorem dX7_stepsBy_23 : decode cX7_stepsBy 23 = .ok (.ireturn, 1) := by decide +kernel
theorem dX7_thread_0 : decode cX7_thread 0 = .ok (.aload_n 0, 1) := by decide +kernel
theorem dX7_thread_1 : decode cX7_thread 1 = .ok (.bipush 8, 2) := by decide +kernel
theorem dX7_thread_3 : decode cX7_thread 3 = .ok (.iload_n 1, 1) := by decide +kernel
theorem dX7_thread_4 : decode cX7_thread 4 = .ok (.iadd, 1) := by decide +kernel
theorem dX7_thread_5 : decode cX7_thread 5 = .ok (.aload_n 0, 1) := by decide +kernel
theorem dX7_thread_6 : decode cX7_thread 6 = .ok (.bipush 8, 2) := by decide +kernel
theorem dX7_thread_8 : decode cX7_thread 8 = .ok (.iload_n 2, 1) := by decide +kernel
theorem dX7_thread_9 : decode cX7_thread 9 = .ok (.iadd, 1) := by decide +kernel
theorem dX7_thread_10 : decode cX7_thread 10 = .ok (.iaload, 1) := by decide +kernel
theorem dX7_thread_11 : decode cX7_thread 11 = .ok (.iastore, 1) := by decide +kernel
theorem dX7_thread_12 : decode cX7_thread 12 = .ok (.aload_n 0, 1) := by decide +kernel
theorem dX7_thread_13 : decode cX7_thread 13 = .ok (.bipush 8, 2) := by decide +kernel
theorem dX7_thread_15 : decode cX7_thread 15 = .ok (.iload_n 2, 1) := by decide +kernel
theorem dX7_thread_16 : decode cX7_thread 16 = .ok (.iadd, 1) := by decide +kernel
theorem dX7_thread_17 : decode cX7_thread 17 = .ok (.sipush 7144, 3) := by decide +kernel
theorem dX7_thread_20 : decode cX7_thread 20 = .ok (.iload_n 1, 1) := by decide +kernel
theorem dX7_thread_21 : decode cX7_thread 21 = .ok (.iadd, 1) := by decide +kernel
theorem dX7_thread_22 : decode cX7_thread 22 = .ok (.iastore, 1) := by decide +kernel
theorem dX7_thread_23 : decode cX7_thread 23 = .ok (.return_, 1) := by decide +kernel
theorem dX7_threadRegister_0 : decode cX7_threadRegister 0 = .ok (.aload_n 1, 1) := by decide +kernel
theorem dX7_threadRegister_1 : decode cX7_threadRegister 1 = .ok (.getfield 126, 3) := by decide +kernel
theorem dX7_threadRegister_4 : decode cX7_threadRegister 4 = .ok (.bipush 8, 2) := by decide +kernel
theorem dX7_threadRegister_6 : decode cX7_threadRegister 6 = .ok (.iload_n 2, 1) := by decide +kernel
theorem dX7_threadRegister_7 : decode cX7_threadRegister 7 = .ok (.iadd, 1) := by decide +kernel
theorem dX7_threadRegister_8 : decode cX7_threadRegister 8 = .ok (.iaload, 1) := by decide +kernel
theorem dX7_threadRegister_9 : decode cX7_threadRegister 9 = .ok (.invokestatic 132, 3) := by decide +kernel
theorem dX7_threadRegister_12 : decode cX7_threadRegister 12 = .ok (.istore_n 3, 1) := by decide +kernel
theorem dX7_threadRegister_13 : decode cX7_threadRegister 13 = .ok (.iload_n 3, 1) := by decide +kernel
theorem dX7_threadRegister_14 : decode cX7_threadRegister 14 = .ok (.iconst (-1), 1) := by decide +kernel
theorem dX7_threadRegister_15 : decode cX7_threadRegister 15 = .ok (.if_icmp .eq 12, 3) := by decide +kernel
theorem dX7_threadRegister_18 : decode cX7_threadRegister 18 = .ok (.aload_n 1, 1) := by decide +kernel
theorem dX7_threadRegister_19 : decode cX7_threadRegister 19 = .ok (.getfield 126, 3) := by decide +kernel
theorem dX7_threadRegister_22 : decode cX7_threadRegister 22 = .ok (.iload_n 2, 1) := by decide +kernel
theorem dX7_threadRegister_23 : decode cX7_threadRegister 23 = .ok (.iload_n 3, 1) := by decide +kernel
theorem dX7_threadRegister_24 : decode cX7_threadRegister 24 = .ok (.invokestatic 139, 3) := by decide +kernel
theorem dX7_threadRegister_27 : decode cX7_threadRegister 27 = .ok (.return_, 1) := by decide +kernel
theorem dX7_unthread_0 : decode cX7_unthread 0 = .ok (.bipush 8, 2) := by decide +kernel
theorem dX7_unthread_2 : decode cX7_unthread 2 = .ok (.iload_n 1, 1) := by decide +kernel
theorem dX7_unthread_3 : decode cX7_unthread 3 = .ok (.iadd, 1) := by decide +kernel
theorem dX7_unthread_4 : decode cX7_unthread 4 = .ok (.istore_n 3, 1) := by decide +kernel
theorem dX7_unthread_5 : decode cX7_unthread 5 = .ok (.iconst 0, 1) := by decide +kernel
theorem dX7_unthread_6 : decode cX7_unthread 6 = .ok (.istore 4, 2) := by decide +kernel
theorem dX7_unthread_8 : decode cX7_unthread 8 = .ok (.iload 4, 2) := by decide +kernel
theorem dX7_unthread_10 : decode cX7_unthread 10 = .ok (.sipush 168, 3) := by decide +kernel
theorem dX7_unthread_13 : decode cX7_unthread 13 = .ok (.if_icmp .ge 46, 3) := by decide +kernel
theorem dX7_unthread_16 : decode cX7_unthread 16 = .ok (.aload_n 0, 1) := by decide +kernel
theorem dX7_unthread_17 : decode cX7_unthread 17 = .ok (.iload_n 3, 1) := by decide +kernel
theorem dX7_unthread_18 : decode cX7_unthread 18 = .ok (.iaload, 1) := by decide +kernel
theorem dX7_unthread_19 : decode cX7_unthread 19 = .ok (.sipush 7136, 3) := by decide +kernel
theorem dX7_unthread_22 : decode cX7_unthread 22 = .ok (.if_icmp .lt 37, 3) := by decide +kernel
theorem dX7_unthread_25 : decode cX7_unthread 25 = .ok (.bipush 8, 2) := by decide +kernel
theorem dX7_unthread_27 : decode cX7_unthread 27 = .ok (.aload_n 0, 1) := by decide +kernel
theorem dX7_unthread_28 : decode cX7_unthread 28 = .ok (.iload_n 3, 1) := by decide +kernel
theorem dX7_unthread_29 : decode cX7_unthread 29 = .ok (.iaload, 1) := by decide +kernel
theorem dX7_unthread_30 : decode cX7_unthread 30 = .ok (.iadd, 1) := by decide +kernel
theorem dX7_unthread_31 : decode cX7_unthread 31 = .ok (.sipush 7144, 3) := by decide +kernel
theorem dX7_unthread_34 : decode cX7_unthread 34 = .ok (.isub, 1) := by decide +kernel
theorem dX7_unthread_35 : decode cX7_unthread 35 = .ok (.istore 5, 2) := by decide +kernel
theorem dX7_unthread_37 : decode cX7_unthread 37 = .ok (.aload_n 0, 1) := by decide +kernel
theorem dX7_unthread_38 : decode cX7_unthread 38 = .ok (.iload_n 3, 1) := by decide +kernel
theorem dX7_unthread_39 : decode cX7_unthread 39 = .ok (.aload_n 0, 1) := by decide +kernel
theorem dX7_unthread_40 : decode cX7_unthread 40 = .ok (.iload 5, 2) := by decide +kernel
theorem dX7_unthread_42 : decode cX7_unthread 42 = .ok (.iaload, 1) := by decide +kernel
theorem dX7_unthread_43 : decode cX7_unthread 43 = .ok (.iastore, 1) := by decide +kernel
theorem dX7_unthread_44 : decode cX7_unthread 44 = .ok (.aload_n 0, 1) := by decide +kernel
theorem dX7_unthread_45 : decode cX7_unthread 45 = .ok (.iload 5, 2) := by decide +kernel
theorem dX7_unthread_47 : decode cX7_unthread 47 = .ok (.sipush 3048, 3) := by decide +kernel
theorem dX7_unthread_50 : decode cX7_unthread 50 = .ok (.iload_n 2, 1) := by decide +kernel
theorem dX7_unthread_51 : decode cX7_unthread 51 = .ok (.iadd, 1) := by decide +kernel
theorem dX7_unthread_52 : decode cX7_unthread 52 = .ok (.iastore, 1) := by decide +kernel
theorem dX7_unthread_53 : decode cX7_unthread 53 = .ok (.iinc 4 1, 3) := by decide +kernel
theorem dX7_unthread_56 : decode cX7_unthread 56 = .ok (.goto (-48), 3) := by decide +kernel
theorem dX7_unthread_59 : decode cX7_unthread 59 = .ok (.return_, 1) := by decide +kernel
theorem dX8_addCell_0 : decode cX8_addCell 0 = .ok (.aload_n 1, 1) := by decide +kernel
theorem dX8_addCell_1 : decode cX8_addCell 1 = .ok (.getfield 71, 3) := by decide +kernel
theorem dX8_addCell_4 : decode cX8_addCell 4 = .ok (.iload_n 2, 1) := by decide +kernel
theorem dX8_addCell_5 : decode cX8_addCell 5 = .ok (.iaload, 1) := by decide +kernel
theorem dX8_addCell_6 : decode cX8_addCell 6 = .ok (.istore_n 3, 1) := by decide +kernel
theorem dX8_addCell_7 : decode cX8_addCell 7 = .ok (.aload_n 0, 1) := by decide +kernel
theorem dX8_addCell_8 : decode cX8_addCell 8 = .ok (.dup, 1) := by decide +kernel
theorem dX8_addCell_9 : decode cX8_addCell 9 = .ok (.getfield 15, 3) := by decide +kernel
theorem dX8_addCell_12 : decode cX8_addCell 12 = .ok (.iload_n 3, 1) := by decide +kernel
theorem dX8_addCell_13 : decode cX8_addCell 13 = .ok (.iconst 1, 1) := by decide +kernel
theorem dX8_addCell_14 : decode cX8_addCell 14 = .ok (.iadd, 1) := by decide +kernel
theorem dX8_addCell_15 : decode cX8_addCell 15 = .ok (.isub, 1) := by decide +kernel
theorem dX8_addCell_16 : decode cX8_addCell 16 = .ok (.putfield 15, 3) := by decide +kernel
theorem dX8_addCell_19 : decode cX8_addCell 19 = .ok (.aload_n 0, 1) := by decide +kernel
theorem dX8_addCell_20 : decode cX8_addCell 20 = .ok (.aload_n 0, 1) := by decide +kernel
theorem dX8_addCell_21 : decode cX8_addCell 21 = .ok (.getfield 15, 3) := by decide +kernel
theorem dX8_addCell_24 : decode cX8_addCell 24 = .ok (.sipush 5096, 3) := by decide +kernel
theorem dX8_addCell_27 : decode cX8_addCell 27 = .ok (.iload_n 2, 1) := by decide +kernel
theorem dX8_addCell_28 : decode cX8_addCell 28 = .ok (.iadd, 1) := by decide +kernel
theorem dX8_addCell_29 : decode cX8_addCell 29 = .ok (.invokevirtual 76, 3) := by decide +kernel
theorem dX8_addCell_32 : decode cX8_addCell 32 = .ok (.iconst 0, 1) := by decide +kernel
theorem dX8_addCell_33 : decode cX8_addCell 33 = .ok (.istore 4, 2) := by decide +kernel
theorem dX8_addCell_35 : decode cX8_addCell 35 = .ok (.iload 4, 2) := by decide +kernel
theorem dX8_addCell_37 : decode cX8_addCell 37 = .ok (.iload_n 3, 1) := by decide +kernel
theorem dX8_addCell_38 : decode cX8_addCell 38 = .ok (.if_icmp .ge 41, 3) := by decide +kernel
theorem dX8_addCell_41 : decode cX8_addCell 41 = .ok (.aload_n 0, 1) := by decide +kernel
theorem dX8_addCell_42 : decode cX8_addCell 42 = .ok (.aload_n 0, 1) := by decide +kernel
theorem dX8_addCell_43 : decode cX8_addCell 43 = .ok (.getfield 15, 3) := by decide +kernel
theorem dX8_addCell_46 : decode cX8_addCell 46 = .ok (.iconst 1, 1) := by decide +kernel
theorem dX8_addCell_47 : decode cX8_addCell 47 = .ok (.iadd, 1) := by decide +kernel
theorem dX8_addCell_48 : decode cX8_addCell 48 = .ok (.iload 4, 2) := by decide +kernel
theorem dX8_addCell_50 : decode cX8_addCell 50 = .ok (.iadd, 1) := by decide +kernel
theorem dX8_addCell_51 : decode cX8_addCell 51 = .ok (.aload_n 1, 1) := by decide +kernel
theorem dX8_addCell_52 : decode cX8_addCell 52 = .ok (.iload_n 2, 1) := by decide +kernel
theorem dX8_addCell_53 : decode cX8_addCell 53 = .ok (.iload 4, 2) := by decide +kernel
theorem dX8_addCell_55 : decode cX8_addCell 55 = .ok (.invokevirtual 80, 3) := by decide +kernel
theorem dX8_addCell_58 : decode cX8_addCell 58 = .ok (.ifCond .ne 9, 3) := by decide +kernel
theorem dX8_addCell_61 : decode cX8_addCell 61 = .ok (.sipush 1000, 3) := by decide +kernel
theorem dX8_addCell_64 : decode cX8_addCell 64 = .ok (.goto 6, 3) := by decide +kernel
theorem dX8_addCell_67 : decode cX8_addCell 67 = .ok (.sipush 3047, 3) := by decide +kernel
theorem dX8_addCell_70 : decode cX8_addCell 70 = .ok (.invokevirtual 76, 3) := by decide +kernel
theorem dX8_addCell_73 : decode cX8_addCell 73 = .ok (.iinc 4 1, 3) := by decide +kernel
theorem dX8_addCell_76 : decode cX8_addCell 76 = .ok (.goto (-41), 3) := by decide +kernel
theorem dX8_addCell_79 : decode cX8_addCell 79 = .ok (.aload_n 0, 1) := by decide +kernel
theorem dX8_addCell_80 : decode cX8_addCell 80 = .ok (.getfield 15, 3) := by decide +kernel
theorem dX8_addCell_83 : decode cX8_addCell 83 = .ok (.ireturn, 1) := by decide +kernel
theorem dX8_at_0 : decode cX8_at 0 = .ok (.aload_n 0, 1) := by decide +kernel
theorem dX8_at_1 : decode cX8_at 1 = .ok (.getfield 21, 3) := by decide +kernel
theorem dX8_at_4 : decode cX8_at 4 = .ok (.bipush 8, 2) := by decide +kernel
theorem dX8_at_6 : decode cX8_at 6 = .ok (.iload_n 1, 1) := by decide +kernel
theorem dX8_at_7 : decode cX8_at 7 = .ok (.iadd, 1) := by decide +kernel
theorem dX8_at_8 : decode cX8_at 8 = .ok (.iaload, 1) := by decide +kernel
theorem dX8_at_9 : decode cX8_at 9 = .ok (.ireturn, 1) := by decide +kernel
theorem dX8_clear_0 : decode cX8_clear 0 = .ok (.aload_n 0, 1) := by decide +kernel
theorem dX8_clear_1 : decode cX8_clear 1 = .ok (.iload_n 1, 1) := by decide +kernel
theorem dX8_clear_2 : decode cX8_clear 2 = .ok (.putfield 9, 3) := by decide +kernel
theorem dX8_clear_5 : decode cX8_clear 5 = .ok (.aload_n 0, 1) := by decide +kernel
theorem dX8_clear_6 : decode cX8_clear 6 = .ok (.iload_n 1, 1) := by decide +kernel
theorem dX8_clear_7 : decode cX8_clear 7 = .ok (.putfield 15, 3) := by decide +kernel
theorem dX8_clear_10 : decode cX8_clear 10 = .ok (.aload_n 0, 1) := by decide +kernel
theorem dX8_clear_11 : decode cX8_clear 11 = .ok (.iconst 0, 1) := by decide +kernel
theorem dX8_clear_12 : decode cX8_clear 12 = .ok (.putfield 18, 3) := by decide +kernel
theorem dX8_clear_15 : decode cX8_clear 15 = .ok (.aload_n 0, 1) := by decide +kernel
theorem dX8_clear_16 : decode cX8_clear 16 = .ok (.iconst 0, 1) := by decide +kernel
theorem dX8_clear_17 : decode cX8_clear 17 = .ok (.putfield 25, 3) := by decide +kernel
theorem dX8_clear_20 : decode cX8_clear 20 = .ok (.aload_n 0, 1) := by decide +kernel
theorem dX8_clear_21 : decode cX8_clear 21 = .ok (.iconst 0, 1) := by decide +kernel
theorem dX8_clear_22 : decode cX8_clear 22 = .ok (.putfield 47, 3) := by decide +kernel
theorem dX8_clear_25 : decode cX8_clear 25 = .ok (.aload_n 0, 1) := by decide +kernel
theorem dX8_clear_26 : decode cX8_clear 26 = .ok (.iconst 0, 1) := by decide +kernel
theorem dX8_clear_27 : decode cX8_clear 27 = .ok (.putfield 50, 3) := by decide +kernel
theorem dX8_clear_30 : decode cX8_clear 30 = .ok (.aload_n 0, 1) := by decide +kernel
theorem dX8_clear_31 : decode cX8_clear 31 = .ok (.getfield 21, 3) := by decide +kernel
theorem dX8_clear_34 : decode cX8_clear 34 = .ok (.sipush 1000, 3) := by decide +kernel
theorem dX8_clear_37 : decode cX8_clear 37 = .ok (.invokestatic 62, 3) := by decide +kernel
theorem dX8_clear_40 : decode cX8_clear 40 = .ok (.aload_n 0, 1) := by decide +kernel
theorem dX8_clear_41 : decode cX8_clear 41 = .ok (.getfield 21, 3) := by decide +kernel
theorem dX8_clear_44 : decode cX8_clear 44 = .ok (.iconst 0, 1) := by decide +kernel
theorem dX8_clear_45 : decode cX8_clear 45 = .ok (.bipush 8, 2) := by decide +kernel
theorem dX8_clear_47 : decode cX8_clear 47 = .ok (.sipush 3047, 3) := by decide +kernel
theorem dX8_clear_50 : decode cX8_clear 50 = .ok (.invokestatic 68, 3) := by decide +kernel
theorem dX8_clear_53 : decode cX8_clear 53 = .ok (.return_, 1) := by decide +kernel
theorem dX8_copyFrom_0 : decode cX8_copyFrom 0 = .ok (.aload_n 0, 1) := by decide +kernel
theorem dX8_copyFrom_1 : decode cX8_copyFrom 1 = .ok (.aload_n 1, 1) := by decide +kernel
theorem dX8_copyFrom_2 : decode cX8_copyFrom 2 = .ok (.getfield 9, 3) := by decide +kernel
theorem dX8_copyFrom_5 : decode cX8_copyFrom 5 = .ok (.putfield 9, 3) := by decide +kernel
theorem dX8_copyFrom_8 : decode cX8_copyFrom 8 = .ok (.aload_n 0, 1) := by decide +kernel
theorem dX8_copyFrom_9 : decode cX8_copyFrom 9 = .ok (.aload_n 1, 1) := by decide +kernel
theorem dX8_copyFrom_10 : decode cX8_copyFrom 10 = .ok (.getfield 15, 3) := by decide +kernel
theorem dX8_copyFrom_13 : decode cX8_copyFrom 13 = .ok (.putfield 15, 3) := by decide +kernel
theorem dX8_copyFrom_16 : decode cX8_copyFrom 16 = .ok (.aload_n 0, 1) := by decide +kernel
theorem dX8_copyFrom_17 : decode cX8_copyFrom 17 = .ok (.aload_n 1, 1) := by decide +kernel
theorem dX8_copyFrom_18 : decode cX8_copyFrom 18 = .ok (.getfield 18, 3) := by decide +kernel
theorem dX8_copyFrom_21 : decode cX8_copyFrom 21 = .ok (.putfield 18, 3) := by decide +kernel
theorem dX8_copyFrom_24 : decode cX8_copyFrom 24 = .ok (.aload_n 1, 1) := by decide +kernel
theorem dX8_copyFrom_25 : decode cX8_copyFrom 25 = .ok (.getfield 21, 3) := by decide +kernel
theorem dX8_copyFrom_28 : decode cX8_copyFrom 28 = .ok (.iconst 0, 1) := by decide +kernel
theorem dX8_copyFrom_29 : decode cX8_copyFrom 29 = .ok (.aload_n 0, 1) := by decide +kernel
theorem dX8_copyFrom_30 : decode cX8_copyFrom 30 = .ok (.getfield 21, 3) := by decide +kernel
theorem dX8_copyFrom_33 : decode cX8_copyFrom 33 = .ok (.iconst 0, 1) := by decide +kernel
theorem dX8_copyFrom_34 : decode cX8_copyFrom 34 = .ok (.aload_n 0, 1) := by decide +kernel
theorem dX8_copyFrom_35 : decode cX8_copyFrom 35 = .ok (.getfield 21, 3) := by decide +kernel
theorem dX8_copyFrom_38 : decode cX8_copyFrom 38 = .ok (.arraylength, 1) := by decide +kernel
theorem dX8_copyFrom_39 : decode cX8_copyFrom 39 = .ok (.invokestatic 56, 3) := by decide +kernel
theorem dX8_copyFrom_42 : decode cX8_copyFrom 42 = .ok (.aload_n 0, 1) := by decide +kernel
theorem dX8_copyFrom_43 : decode cX8_copyFrom 43 = .ok (.aload_n 1, 1) := by decide +kernel
theorem dX8_copyFrom_44 : decode cX8_copyFrom 44 = .ok (.getfield 25, 3) := by decide +kernel
theorem dX8_copyFrom_47 : decode cX8_copyFrom 47 = .ok (.putfield 25, 3) := by decide +kernel
theorem dX8_copyFrom_50 : decode cX8_copyFrom 50 = .ok (.aload_n 0, 1) := by decide +kernel
theorem dX8_copyFrom_51 : decode cX8_copyFrom 51 = .ok (.aload_n 1, 1) := by decide +kernel
theorem dX8_copyFrom_52 : decode cX8_copyFrom 52 = .ok (.getfield 29, 3) := by decide +kernel
theorem dX8_copyFrom_55 : decode cX8_copyFrom 55 = .ok (.putfield 29, 3) := by decide +kernel
theorem dX8_copyFrom_58 : decode cX8_copyFrom 58 = .ok (.aload_n 1, 1) := by decide +kernel
theorem dX8_copyFrom_59 : decode cX8_copyFrom 59 = .ok (.getfield 32, 3) := by decide +kernel
theorem dX8_copyFrom_62 : decode cX8_copyFrom 62 = .ok (.iconst 0, 1) := by decide +kernel
theorem dX8_copyFrom_63 : decode cX8_copyFrom 63 = .ok (.aload_n 0, 1) := by decide +kernel
theorem dX8_copyFrom_64 : decode cX8_copyFrom 64 = .ok (.getfield 32, 3) := by decide +kernel
theorem dX8_copyFrom_67 : decode cX8_copyFrom 67 = .ok (.iconst 0, 1) := by decide +kernel
theorem dX8_copyFrom_68 : decode cX8_copyFrom 68 = .ok (.aload_n 0, 1) := by decide +kernel
theorem dX8_copyFrom_69 : decode cX8_copyFrom 69 = .ok (.getfield 32, 3) := by decide +kernel
theorem dX8_copyFrom_72 : decode cX8_copyFrom 72 = .ok (.arraylength, 1) := by decide +kernel
theorem dX8_copyFrom_73 : decode cX8_copyFrom 73 = .ok (.invokestatic 56, 3) := by decide +kernel
theorem dX8_copyFrom_76 : decode cX8_copyFrom 76 = .ok (.aload_n 0, 1) := by decide +kernel
theorem dX8_copyFrom_77 : decode cX8_copyFrom 77 = .ok (.aload_n 1, 1) := by decide +kernel
theorem dX8_copyFrom_78 : decode cX8_copyFrom 78 = .ok (.getfield 35, 3) := by decide +kernel
theorem dX8_copyFrom_81 : decode cX8_copyFrom 81 = .ok (.putfield 35, 3) := by decide +kernel
theorem dX8_copyFrom_84 : decode cX8_copyFrom 84 = .ok (.aload_n 0, 1) := by decide +kernel
theorem dX8_copyFrom_85 : decode cX8_copyFrom 85 = .ok (.aload_n 1, 1) := by decide +kernel
theorem dX8_copyFrom_86 : decode cX8_copyFrom 86 = .ok (.getfield 38, 3) := by decide +kernel
theorem dX8_copyFrom_89 : decode cX8_copyFrom 89 = .ok (.putfield 38, 3) := by decide +kernel
theorem dX8_copyFrom_92 : decode cX8_copyFrom 92 = .ok (.aload_n 0, 1) := by decide +kernel
theorem dX8_copyFrom_93 : decode cX8_copyFrom 93 = .ok (.aload_n 1, 1) := by decide +kernel
theorem dX8_copyFrom_94 : decode cX8_copyFrom 94 = .ok (.getfield 41, 3) := by decide +kernel
theorem dX8_copyFrom_97 : decode cX8_copyFrom 97 = .ok (.putfield 41, 3) := by decide +kernel
theorem dX8_copyFrom_100 : decode cX8_copyFrom 100 = .ok (.aload_n 0, 1) := by decide +kernel
theorem dX8_copyFrom_101 : decode cX8_copyFrom 101 = .ok (.aload_n 1, 1) := by decide +kernel
theorem dX8_copyFrom_102 : decode cX8_copyFrom 102 = .ok (.getfield 44, 3) := by decide +kernel
theorem dX8_copyFrom_105 : decode cX8_copyFrom 105 = .ok (.putfield 44, 3) := by decide +kernel
theorem dX8_copyFrom_108 : decode cX8_copyFrom 108 = .ok (.aload_n 0, 1) := by decide +kernel
theorem dX8_copyFrom_109 : decode cX8_copyFrom 109 = .ok (.aload_n 1, 1) := by decide +kernel
theorem dX8_copyFrom_110 : decode cX8_copyFrom 110 = .ok (.getfield 47, 3) := by decide +kernel
theorem dX8_copyFrom_113 : decode cX8_copyFrom 113 = .ok (.putfield 47, 3) := by decide +kernel
theorem dX8_copyFrom_116 : decode cX8_copyFrom 116 = .ok (.aload_n 0, 1) := by decide +kernel
theorem dX8_copyFrom_117 : decode cX8_copyFrom 117 = .ok (.aload_n 1, 1) := by decide +kernel
theorem dX8_copyFrom_118 : decode cX8_copyFrom 118 = .ok (.getfield 50, 3) := by decide +kernel
theorem dX8_copyFrom_121 : decode cX8_copyFrom 121 = .ok (.putfield 50, 3) := by decide +kernel
theorem dX8_copyFrom_124 : decode cX8_copyFrom 124 = .ok (.aload_n 1, 1) := by decide +kernel
theorem dX8_copyFrom_125 : decode cX8_copyFrom 125 = .ok (.getfield 53, 3) := by decide +kernel
theorem dX8_copyFrom_128 : decode cX8_copyFrom 128 = .ok (.iconst 0, 1) := by decide +kernel
theorem dX8_copyFrom_129 : decode cX8_copyFrom 129 = .ok (.aload_n 0, 1) := by decide +kernel
theorem dX8_copyFrom_130 : decode cX8_copyFrom 130 = .ok (.getfield 53, 3) := by decide +kernel
theorem dX8_copyFrom_133 : decode cX8_copyFrom 133 = .ok (.iconst 0, 1) := by decide +kernel
theorem dX8_copyFrom_134 : decode cX8_copyFrom 134 = .ok (.aload_n 0, 1) := by decide +kernel
theorem dX8_copyFrom_135 : decode cX8_copyFrom 135 = .ok (.getfield 53, 3) := by decide +kernel
theorem dX8_copyFrom_138 : decode cX8_copyFrom 138 = .ok (.arraylength, 1) := by decide +kernel
theorem dX8_copyFrom_139 : decode cX8_copyFrom 139 = .ok (.invokestatic 56, 3) := by decide +kernel
theorem dX8_copyFrom_142 : decode cX8_copyFrom 142 = .ok (.return_, 1) := by decide +kernel
theorem dX8_headOf_0 : decode cX8_headOf 0 = .ok (.iload_n 1, 1) := by decide +kernel
theorem dX8_headOf_1 : decode cX8_headOf 1 = .ok (.istore_n 2, 1) := by decide +kernel
theorem dX8_headOf_2 : decode cX8_headOf 2 = .ok (.iload_n 2, 1) := by decide +kernel
theorem dX8_headOf_3 : decode cX8_headOf 3 = .ok (.aload_n 0, 1) := by decide +kernel
theorem dX8_headOf_4 : decode cX8_headOf 4 = .ok (.getfield 15, 3) := by decide +kernel
theorem dX8_headOf_7 : decode cX8_headOf 7 = .ok (.if_icmp .lt 34, 3) := by decide +kernel
theorem dX8_headOf_10 : decode cX8_headOf 10 = .ok (.iload_n 2, 1) := by decide +kernel
theorem dX8_headOf_11 : decode cX8_headOf 11 = .ok (.iload_n 1, 1) := by decide +kernel
theorem dX8_headOf_12 : decode cX8_headOf 12 = .ok (.bipush 6, 2) := by decide +kernel
theorem dX8_headOf_14 : decode cX8_headOf 14 = .ok (.isub, 1) := by decide +kernel
theorem dX8_headOf_15 : decode cX8_headOf 15 = .ok (.if_icmp .lt 26, 3) := by decide +kernel
theorem dX8_headOf_18 : decode cX8_headOf 18 = .ok (.aload_n 0, 1) := by decide +kernel
theorem dX8_headOf_19 : decode cX8_headOf 19 = .ok (.getfield 21, 3) := by decide +kernel
theorem dX8_headOf_22 : decode cX8_headOf 22 = .ok (.bipush 8, 2) := by decide +kernel
theorem dX8_headOf_24 : decode cX8_headOf 24 = .ok (.iload_n 2, 1) := by decide +kernel
theorem dX8_headOf_25 : decode cX8_headOf 25 = .ok (.iadd, 1) := by decide +kernel
theorem dX8_headOf_26 : decode cX8_headOf 26 = .ok (.iaload, 1) := by decide +kernel
theorem dX8_headOf_27 : decode cX8_headOf 27 = .ok (.sipush 5096, 3) := by decide +kernel
theorem dX8_headOf_30 : decode cX8_headOf 30 = .ok (.if_icmp .lt 5, 3) := by decide +kernel
theorem dX8_headOf_33 : decode cX8_headOf 33 = .ok (.iload_n 2, 1) := by decide +kernel
theorem dX8_headOf_34 : decode cX8_headOf 34 = .ok (.ireturn, 1) := by decide +kernel
theorem dX8_headOf_35 : decode cX8_headOf 35 = .ok (.iinc 2 (-1), 3) := by decide +kernel
theorem dX8_headOf_38 : decode cX8_headOf 38 = .ok (.goto (-36), 3) := by decide +kernel
theorem dX8_headOf_41 : decode cX8_headOf 41 = .ok (.iconst (-1), 1) := by decide +kernel
theorem dX8_headOf_42 : decode cX8_headOf 42 = .ok (.ireturn, 1) := by decide +kernel
theorem dX8_put_0 : decode cX8_put 0 = .ok (.aload_n 0, 1) := by decide +kernel
theorem dX8_put_1 : decode cX8_put 1 = .ok (.getfield 21, 3) := by decide +kernel
theorem dX8_put_4 : decode cX8_put 4 = .ok (.bipush 8, 2) := by decide +kernel
theorem dX8_put_6 : decode cX8_put 6 = .ok (.iload_n 1, 1) := by decide +kernel
theorem dX8_put_7 : decode cX8_put 7 = .ok (.iadd, 1) := by decide +kernel
theorem dX8_put_8 : decode cX8_put 8 = .ok (.iload_n 2, 1) := by decide +kernel
theorem dX8_put_9 : decode cX8_put 9 = .ok (.iastore, 1) := by decide +kernel
theorem dX8_put_10 : decode cX8_put 10 = .ok (.return_, 1) := by decide +kernel
theorem dX8_settle_0 : decode cX8_settle 0 = .ok (.aload_n 0, 1) := by decide +kernel
theorem dX8_settle_1 : decode cX8_settle 1 = .ok (.getfield 9, 3) := by decide +kernel
theorem dX8_settle_4 : decode cX8_settle 4 = .ok (.aload_n 0, 1) := by decide +kernel
theorem dX8_settle_5 : decode cX8_settle 5 = .ok (.getfield 15, 3) := by decide +kernel
theorem dX8_settle_8 : decode cX8_settle 8 = .ok (.isub, 1) := by decide +kernel
theorem dX8_settle_9 : decode cX8_settle 9 = .ok (.aload_n 0, 1) := by decide +kernel
theorem dX8_settle_10 : decode cX8_settle 10 = .ok (.getfield 35, 3) := by decide +kernel
theorem dX8_settle_13 : decode cX8_settle 13 = .ok (.isub, 1) := by decide +kernel
theorem dX8_settle_14 : decode cX8_settle 14 = .ok (.istore_n 1, 1) := by decide +kernel
theorem dX8_settle_15 : decode cX8_settle 15 = .ok (.aload_n 0, 1) := by decide +kernel
theorem dX8_settle_16 : decode cX8_settle 16 = .ok (.aload_n 0, 1) := by decide +kernel
theorem dX8_settle_17 : decode cX8_settle 17 = .ok (.getfield 9, 3) := by decide +kernel
theorem dX8_settle_20 : decode cX8_settle 20 = .ok (.aload_n 0, 1) := by decide +kernel
theorem dX8_settle_21 : decode cX8_settle 21 = .ok (.getfield 35, 3) := by decide +kernel
theorem dX8_settle_24 : decode cX8_settle 24 = .ok (.isub, 1) := by decide +kernel
theorem dX8_settle_25 : decode cX8_settle 25 = .ok (.putfield 15, 3) := by decide +kernel
theorem dX8_settle_28 : decode cX8_settle 28 = .ok (.aload_n 0, 1) := by decide +kernel
theorem dX8_settle_29 : decode cX8_settle 29 = .ok (.getfield 21, 3) := by decide +kernel
theorem dX8_settle_32 : decode cX8_settle 32 = .ok (.bipush 8, 2) := by decide +kernel
theorem dX8_settle_34 : decode cX8_settle 34 = .ok (.bipush 8, 2) := by decide +kernel
theorem dX8_settle_36 : decode cX8_settle 36 = .ok (.aload_n 0, 1) := by decide +kernel
theorem dX8_settle_37 : decode cX8_settle 37 = .ok (.getfield 15, 3) := by decide +kernel
theorem dX8_settle_40 : decode cX8_settle 40 = .ok (.iadd, 1) := by decide +kernel
theorem dX8_settle_41 : decode cX8_settle 41 = .ok (.sipush 1000, 3) := by decide +kernel
theorem dX8_settle_44 : decode cX8_settle 44 = .ok (.invokestatic 68, 3) := by decide +kernel
theorem dX8_settle_47 : decode cX8_settle 47 = .ok (.aload_n 0, 1) := by decide +kernel
theorem dX8_settle_48 : decode cX8_settle 48 = .ok (.iconst 0, 1) := by decide +kernel
theorem dX8_settle_49 : decode cX8_settle 49 = .ok (.putfield 25, 3) := by decide +kernel
theorem dX8_settle_52 : decode cX8_settle 52 = .ok (.aload_n 0, 1) := by decide +kernel
theorem dX8_settle_53 : decode cX8_settle 53 = .ok (.dup, 1) := by decide +kernel
theorem dX8_settle_54 : decode cX8_settle 54 = .ok (.getfield 47, 3) := by decide +kernel
theorem dX8_settle_57 : decode cX8_settle 57 = .ok (.iconst 1, 1) := by decide +kernel
theorem dX8_settle_58 : decode cX8_settle 58 = .ok (.iadd, 1) := by decide +kernel
theorem dX8_settle_59 : decode cX8_settle 59 = .ok (.putfield 47, 3) := by decide +kernel
theorem dX8_settle_62 : decode cX8_settle 62 = .ok (.aload_n 0, 1) := by decide +kernel
theorem dX8_settle_63 : decode cX8_settle 63 = .ok (.getfield 50, 3) := by decide +kernel
theorem dX8_settle_66 : decode cX8_settle 66 = .ok (.bipush 20, 2) := by decide +kernel
theorem dX8_settle_68 : decode cX8_settle 68 = .ok (.if_icmp .ne 28, 3) := by decide +kernel
theorem dX8_settle_71 : decode cX8_settle 71 = .ok (.aload_n 0, 1) := by decide +kernel
theorem dX8_settle_72 : decode cX8_settle 72 = .ok (.getfield 53, 3) := by decide +kernel
theorem dX8_settle_75 : decode cX8_settle 75 = .ok (.iconst 4, 1) := by decide +kernel
theorem dX8_settle_76 : decode cX8_settle 76 = .ok (.aload_n 0, 1) := by decide +kernel
theorem dX8_settle_77 : decode cX8_settle 77 = .ok (.getfield 53, 3) := by decide +kernel
theorem dX8_settle_80 : decode cX8_settle 80 = .ok (.iconst 0, 1) := by decide +kernel
theorem dX8_settle_81 : decode cX8_settle 81 = .ok (.bipush 76, 2) := by decide +kernel
theorem dX8_settle_83 : decode cX8_settle 83 = .ok (.invokestatic 56, 3) := by decide +kernel
theorem dX8_settle_86 : decode cX8_settle 86 = .ok (.aload_n 0, 1) := by decide +kernel
theorem dX8_settle_87 : decode cX8_settle 87 = .ok (.dup, 1) := by decide +kernel
theorem dX8_settle_88 : decode cX8_settle 88 = .ok (.getfield 50, 3) := by decide +kernel
theorem dX8_settle_91 : decode cX8_settle 91 = .ok (.iconst 1, 1) := by decide +kernel
theorem dX8_settle_92 : decode cX8_settle 92 = .ok (.isub, 1) := by decide +kernel
theorem dX8_settle_93 : decode cX8_settle 93 = .ok (.putfield 50, 3) := by decide +kernel
theorem dX8_settle_96 : decode cX8_settle 96 = .ok (.aload_n 0, 1) := by decide +kernel
theorem dX8_settle_97 : decode cX8_settle 97 = .ok (.getfield 50, 3) := by decide +kernel
theorem dX8_settle_100 : decode cX8_settle 100 = .ok (.iconst 4, 1) := by decide +kernel
theorem dX8_settle_101 : decode cX8_settle 101 = .ok (.imul, 1) := by decide +kernel
theorem dX8_settle_102 : decode cX8_settle 102 = .ok (.istore_n 2, 1) := by decide +kernel
theorem dX8_settle_103 : decode cX8_settle 103 = .ok (.aload_n 0, 1) := by decide +kernel
theorem dX8_settle_104 : decode cX8_settle 104 = .ok (.getfield 53, 3) := by decide +kernel
theorem dX8_settle_107 : decode cX8_settle 107 = .ok (.iload_n 2, 1) := by decide +kernel
theorem dX8_settle_108 : decode cX8_settle 108 = .ok (.aload_n 0, 1) := by decide +kernel
theorem dX8_settle_109 : decode cX8_settle 109 = .ok (.getfield 35, 3) := by decide +kernel
theorem dX8_settle_112 : decode cX8_settle 112 = .ok (.iastore, 1) := by decide +kernel
theorem dX8_settle_113 : decode cX8_settle 113 = .ok (.aload_n 0, 1) := by decide +kernel
theorem dX8_settle_114 : decode cX8_settle 114 = .ok (.getfield 53, 3) := by decide +kernel
theorem dX8_settle_117 : decode cX8_settle 117 = .ok (.iload_n 2, 1) := by decide +kernel
theorem dX8_settle_118 : decode cX8_settle 118 = .ok (.iconst 1, 1) := by decide +kernel
theorem dX8_settle_119 : decode cX8_settle 119 = .ok (.iadd, 1) := by decide +kernel
theorem dX8_settle_120 : decode cX8_settle 120 = .ok (.iload_n 1, 1) := by decide +kernel
theorem dX8_settle_121 : decode cX8_settle 121 = .ok (.iastore, 1) := by decide +kernel
theorem dX8_settle_122 : decode cX8_settle 122 = .ok (.aload_n 0, 1) := by decide +kernel
theorem dX8_settle_123 : decode cX8_settle 123 = .ok (.getfield 53, 3) := by decide +kernel
theorem dX8_settle_126 : decode cX8_settle 126 = .ok (.iload_n 2, 1) := by decide +kernel
theorem dX8_settle_127 : decode cX8_settle 127 = .ok (.iconst 2, 1) := by decide +kernel
theorem dX8_settle_128 : decode cX8_settle 128 = .ok (.iadd, 1) := by decide +kernel
theorem dX8_settle_129 : decode cX8_settle 129 = .ok (.aload_n 0, 1) := by decide +kernel
theorem dX8_settle_130 : decode cX8_settle 130 = .ok (.getfield 18, 3) := by decide +kernel
theorem dX8_settle_133 : decode cX8_settle 133 = .ok (.iastore, 1) := by decide +kernel
theorem dX8_settle_134 : decode cX8_settle 134 = .ok (.aload_n 0, 1) := by decide +kernel
theorem dX8_settle_135 : decode cX8_settle 135 = .ok (.getfield 53, 3) := by decide +kernel
theorem dX8_settle_138 : decode cX8_settle 138 = .ok (.iload_n 2, 1) := by decide +kernel
theorem dX8_settle_139 : decode cX8_settle 139 = .ok (.iconst 3, 1) := by decide +kernel
theorem dX8_settle_140 : decode cX8_settle 140 = .ok (.iadd, 1) := by decide +kernel
theorem dX8_settle_141 : decode cX8_settle 141 = .ok (.aload_n 0, 1) := by decide +kernel
theorem dX8_settle_142 : decode cX8_settle 142 = .ok (.getfield 44, 3) := by decide +kernel
theorem dX8_settle_145 : decode cX8_settle 145 = .ok (.iastore, 1) := by decide +kernel
theorem dX8_settle_146 : decode cX8_settle 146 = .ok (.aload_n 0, 1) := by decide +kernel
theorem dX8_settle_147 : decode cX8_settle 147 = .ok (.dup, 1) := by decide +kernel
theorem dX8_settle_148 : decode cX8_settle 148 = .ok (.getfield 50, 3) := by decide +kernel
theorem dX8_settle_151 : decode cX8_settle 151 = .ok (.iconst 1, 1) := by decide +kernel
theorem dX8_settle_152 : decode cX8_settle 152 = .ok (.iadd, 1) := by decide +kernel
theorem dX8_settle_153 : decode cX8_settle 153 = .ok (.putfield 50, 3) := by decide +kernel
theorem dX8_settle_156 : decode cX8_settle 156 = .ok (.return_, 1) := by decide +kernel
theorem dX9_countThreads_0 : decode cX9_countThreads 0 = .ok (.aload_n 0, 1) := by decide +kernel
theorem dX9_countThreads_1 : decode cX9_countThreads 1 = .ok (.getfield 30, 3) := by decide +kernel
theorem dX9_countThreads_4 : decode cX9_countThreads 4 = .ok (.iconst 0, 1) := by decide +kernel
theorem dX9_countThreads_5 : decode cX9_countThreads 5 = .ok (.invokestatic 47, 3) := by decide +kernel
theorem dX9_countThreads_8 : decode cX9_countThreads 8 = .ok (.iload_n 2, 1) := by decide +kernel
theorem dX9_countThreads_9 : decode cX9_countThreads 9 = .ok (.ifCond .ne 8, 3) := by decide +kernel
theorem dX9_countThreads_12 : decode cX9_countThreads 12 = .ok (.bipush (-8), 2) := by decide +kernel
theorem dX9_countThreads_14 : decode cX9_countThreads 14 = .ok (.goto 7, 3) := by decide +kernel
theorem dX9_countThreads_17 : decode cX9_countThreads 17 = .ok (.aload_n 1, 1) := by decide +kernel
theorem dX9_countThreads_18 : decode cX9_countThreads 18 = .ok (.getfield 79, 3) := by decide +kernel
theorem dX9_countThreads_21 : decode cX9_countThreads 21 = .ok (.istore_n 3, 1) := by decide +kernel
theorem dX9_countThreads_22 : decode cX9_countThreads 22 = .ok (.iload_n 3, 1) := by decide +kernel
theorem dX9_countThreads_23 : decode cX9_countThreads 23 = .ok (.aload_n 1, 1) := by decide +kernel
theorem dX9_countThreads_24 : decode cX9_countThreads 24 = .ok (.getfield 82, 3) := by decide +kernel
theorem dX9_countThreads_27 : decode cX9_countThreads 27 = .ok (.if_icmp .ge 88, 3) := by decide +kernel
theorem dX9_countThreads_30 : decode cX9_countThreads 30 = .ok (.iload_n 3, 1) := by decide +kernel
theorem dX9_countThreads_31 : decode cX9_countThreads 31 = .ok (.ifCond .lt 22, 3) := by decide +kernel
theorem dX9_countThreads_34 : decode cX9_countThreads 34 = .ok (.iload_n 3, 1) := by decide +kernel
theorem dX9_countThreads_35 : decode cX9_countThreads 35 = .ok (.aload_n 1, 1) := by decide +kernel
theorem dX9_countThreads_36 : decode cX9_countThreads 36 = .ok (.getfield 79, 3) := by decide +kernel
theorem dX9_countThreads_39 : decode cX9_countThreads 39 = .ok (.if_icmp .lt 70, 3) := by decide +kernel
theorem dX9_countThreads_42 : decode cX9_countThreads 42 = .ok (.aload_n 0, 1) := by decide +kernel
theorem dX9_countThreads_43 : decode cX9_countThreads 43 = .ok (.iload_n 3, 1) := by decide +kernel
theorem dX9_countThreads_44 : decode cX9_countThreads 44 = .ok (.invokevirtual 89, 3) := by decide +kernel
theorem dX9_countThreads_47 : decode cX9_countThreads 47 = .ok (.ifCond .ne 6, 3) := by decide +kernel
theorem dX9_countThreads_50 : decode cX9_countThreads 50 = .ok (.goto 59, 3) := by decide +kernel
theorem dX9_countThreads_53 : decode cX9_countThreads 53 = .ok (.aload_n 1, 1) := by decide +kernel
theorem dX9_countThreads_54 : decode cX9_countThreads 54 = .ok (.iload_n 3, 1) := by decide +kernel
theorem dX9_countThreads_55 : decode cX9_countThreads 55 = .ok (.invokevirtual 93, 3) := by decide +kernel
theorem dX9_countThreads_58 : decode cX9_countThreads 58 = .ok (.invokestatic 62, 3) := by decide +kernel
theorem dX9_countThreads_61 : decode cX9_countThreads 61 = .ok (.istore 4, 2) := by decide +kernel
theorem dX9_countThreads_63 : decode cX9_countThreads 63 = .ok (.iload 4, 2) := by decide +kernel
theorem dX9_countThreads_65 : decode cX9_countThreads 65 = .ok (.iconst (-1), 1) := by decide +kernel
theorem dX9_countThreads_66 : decode cX9_countThreads 66 = .ok (.if_icmp .eq 43, 3) := by decide +kernel
theorem dX9_countThreads_69 : decode cX9_countThreads 69 = .ok (.iload 4, 2) := by decide +kernel
theorem dX9_countThreads_71 : decode cX9_countThreads 71 = .ok (.iload_n 3, 1) := by decide +kernel
theorem dX9_countThreads_72 : decode cX9_countThreads 72 = .ok (.if_icmp .eq 37, 3) := by decide +kernel
theorem dX9_countThreads_75 : decode cX9_countThreads 75 = .ok (.iload 4, 2) := by decide +kernel
theorem dX9_countThreads_77 : decode cX9_countThreads 77 = .ok (.iload_n 3, 1) := by decide +kernel
theorem dX9_countThreads_78 : decode cX9_countThreads 78 = .ok (.if_icmp .le 7, 3) := by decide +kernel
theorem dX9_countThreads_81 : decode cX9_countThreads 81 = .ok (.iconst 1, 1) := by decide +kernel
theorem dX9_countThreads_82 : decode cX9_countThreads 82 = .ok (.goto 4, 3) := by decide +kernel
theorem dX9_countThreads_85 : decode cX9_countThreads 85 = .ok (.iconst 0, 1) := by decide +kernel
theorem dX9_countThreads_86 : decode cX9_countThreads 86 = .ok (.iload_n 2, 1) := by decide +kernel
theorem dX9_countThreads_87 : decode cX9_countThreads 87 = .ok (.ifCond .ne 7, 3) := by decide +kernel
theorem dX9_countThreads_90 : decode cX9_countThreads 90 = .ok (.iconst 1, 1) := by decide +kernel
theorem dX9_countThreads_91 : decode cX9_countThreads 91 = .ok (.goto 4, 3) := by decide +kernel
theorem dX9_countThreads_94 : decode cX9_countThreads 94 = .ok (.iconst 0, 1) := by decide +kernel
theorem dX9_countThreads_95 : decode cX9_countThreads 95 = .ok (.if_icmp .ne 14, 3) := by decide +kernel
theorem dX9_countThreads_98 : decode cX9_countThreads 98 = .ok (.aload_n 0, 1) := by decide +kernel
theorem dX9_countThreads_99 : decode cX9_countThreads 99 = .ok (.getfield 30, 3) := by decide +kernel
theorem dX9_countThreads_102 : decode cX9_countThreads 102 = .ok (.iload 4, 2) := by decide +kernel
theorem dX9_countThreads_104 : decode cX9_countThreads 104 = .ok (.dup2, 1) := by decide +kernel
theorem dX9_countThreads_105 : decode cX9_countThreads 105 = .ok (.iaload, 1) := by decide +kernel
theorem dX9_countThreads_106 : decode cX9_countThreads 106 = .ok (.iconst 1, 1) := by decide +kernel
theorem dX9_countThreads_107 : decode cX9_countThreads 107 = .ok (.iadd, 1) := by decide +kernel
theorem dX9_countThreads_108 : decode cX9_countThreads 108 = .ok (.iastore, 1) := by decide +kernel
theorem dX9_countThreads_109 : decode cX9_countThreads 109 = .ok (.iinc 3 1, 3) := by decide +kernel
theorem dX9_countThreads_112 : decode cX9_countThreads 112 = .ok (.goto (-90), 3) := by decide +kernel
theorem dX9_countThreads_115 : decode cX9_countThreads 115 = .ok (.return_, 1) := by decide +kernel
theorem dX9_foundAs_0 : decode cX9_foundAs 0 = .ok (.aload_n 0, 1) := by decide +kernel
theorem dX9_foundAs_1 : decode cX9_foundAs 1 = .ok (.getfield 15, 3) := by decide +kernel
theorem dX9_foundAs_4 : decode cX9_foundAs 4 = .ok (.aload_n 0, 1) := by decide +kernel
theorem dX9_foundAs_5 : decode cX9_foundAs 5 = .ok (.getfield 9, 3) := by decide +kernel
theorem dX9_foundAs_8 : decode cX9_foundAs 8 = .ok (.iload_n 1, 1) := by decide +kernel
theorem dX9_foundAs_9 : decode cX9_foundAs 9 = .ok (.iaload, 1) := by decide +kernel
theorem dX9_foundAs_10 : decode cX9_foundAs 10 = .ok (.iaload, 1) := by decide +kernel
theorem dX9_foundAs_11 : decode cX9_foundAs 11 = .ok (.ireturn, 1) := by decide +kernel
theorem dX9_isLiveWord_0 : decode cX9_isLiveWord 0 = .ok (.aload_n 0, 1) := by decide +kernel
theorem dX9_isLiveWord_1 : decode cX9_isLiveWord 1 = .ok (.getfield 9, 3) := by decide +kernel
theorem dX9_isLiveWord_4 : decode cX9_isLiveWord 4 = .ok (.iload_n 1, 1) := by decide +kernel
theorem dX9_isLiveWord_5 : decode cX9_isLiveWord 5 = .ok (.iaload, 1) := by decide +kernel
theorem dX9_isLiveWord_6 : decode cX9_isLiveWord 6 = .ok (.iconst (-1), 1) := by decide +kernel
theorem dX9_isLiveWord_7 : decode cX9_isLiveWord 7 = .ok (.if_icmp .eq 22, 3) := by decide +kernel
theorem dX9_isLiveWord_10 : decode cX9_isLiveWord 10 = .ok (.aload_n 0, 1) := by decide +kernel
theorem dX9_isLiveWord_11 : decode cX9_isLiveWord 11 = .ok (.getfield 15, 3) := by decide +kernel
theorem dX9_isLiveWord_14 : decode cX9_isLiveWord 14 = .ok (.aload_n 0, 1) := by decide +kernel
theorem dX9_isLiveWord_15 : decode cX9_isLiveWord 15 = .ok (.getfield 9, 3) := by decide +kernel
theorem dX9_isLiveWord_18 : decode cX9_isLiveWord 18 = .ok (.iload_n 1, 1) := by decide +kernel
theorem dX9_isLiveWord_19 : decode cX9_isLiveWord 19 = .ok (.iaload, 1) := by decide +kernel
theorem dX9_isLiveWord_20 : decode cX9_isLiveWord 20 = .ok (.iaload, 1) := by decide +kernel
theorem dX9_isLiveWord_21 : decode cX9_isLiveWord 21 = .ok (.iconst (-1), 1) := by decide +kernel
theorem dX9_isLiveWord_22 : decode cX9_isLiveWord 22 = .ok (.if_icmp .eq 7, 3) := by decide +kernel
theorem dX9_isLiveWord_25 : decode cX9_isLiveWord 25 = .ok (.iconst 1, 1) := by decide +kernel
theorem dX9_isLiveWord_26 : decode cX9_isLiveWord 26 = .ok (.goto 4, 3) := by decide +kernel
theorem dX9_isLiveWord_29 : decode cX9_isLiveWord 29 = .ok (.iconst 0, 1) := by decide +kernel
theorem dX9_isLiveWord_30 : decode cX9_isLiveWord 30 = .ok (.ireturn, 1) := by decide +kernel
theorem dX9_keptBy_0 : decode cX9_keptBy 0 = .ok (.aload_n 0, 1) := by decide +kernel
theorem dX9_keptBy_1 : decode cX9_keptBy 1 = .ok (.aload_n 1, 1) := by decide +kernel
theorem dX9_keptBy_2 : decode cX9_keptBy 2 = .ok (.iconst (-1), 1) := by decide +kernel
theorem dX9_keptBy_3 : decode cX9_keptBy 3 = .ok (.iconst (-1), 1) := by decide +kernel
theorem dX9_keptBy_4 : decode cX9_keptBy 4 = .ok (.invokevirtual 85, 3) := by decide +kernel
theorem dX9_keptBy_7 : decode cX9_keptBy 7 = .ok (.aload_n 0, 1) := by decide +kernel
theorem dX9_keptBy_8 : decode cX9_keptBy 8 = .ok (.getfield 37, 3) := by decide +kernel
theorem dX9_keptBy_11 : decode cX9_keptBy 11 = .ok (.istore 4, 2) := by decide +kernel
theorem dX9_keptBy_13 : decode cX9_keptBy 13 = .ok (.aload_n 0, 1) := by decide +kernel
theorem dX9_keptBy_14 : decode cX9_keptBy 14 = .ok (.aload_n 1, 1) := by decide +kernel
theorem dX9_keptBy_15 : decode cX9_keptBy 15 = .ok (.iload_n 2, 1) := by decide +kernel
theorem dX9_keptBy_16 : decode cX9_keptBy 16 = .ok (.iload_n 3, 1) := by decide +kernel
theorem dX9_keptBy_17 : decode cX9_keptBy 17 = .ok (.invokevirtual 85, 3) := by decide +kernel
theorem dX9_keptBy_20 : decode cX9_keptBy 20 = .ok (.iload 4, 2) := by decide +kernel
theorem dX9_keptBy_22 : decode cX9_keptBy 22 = .ok (.aload_n 0, 1) := by decide +kernel
theorem dX9_keptBy_23 : decode cX9_keptBy 23 = .ok (.getfield 37, 3) := by decide +kernel
theorem dX9_keptBy_26 : decode cX9_keptBy 26 = .ok (.isub, 1) := by decide +kernel
theorem dX9_keptBy_27 : decode cX9_keptBy 27 = .ok (.ireturn, 1) := by decide +kernel
theorem dX9_layOut_0 : decode cX9_layOut 0 = .ok (.iconst (-1), 1) := by decide +kernel
theorem dX9_layOut_1 : decode cX9_layOut 1 = .ok (.istore_n 2, 1) := by decide +kernel
theorem dX9_layOut_2 : decode cX9_layOut 2 = .ok (.aload_n 1, 1) := by decide +kernel
theorem dX9_layOut_3 : decode cX9_layOut 3 = .ok (.getfield 79, 3) := by decide +kernel
theorem dX9_layOut_6 : decode cX9_layOut 6 = .ok (.istore_n 3, 1) := by decide +kernel
theorem dX9_layOut_7 : decode cX9_layOut 7 = .ok (.iload_n 3, 1) := by decide +kernel
theorem dX9_layOut_8 : decode cX9_layOut 8 = .ok (.aload_n 1, 1) := by decide +kernel
theorem dX9_layOut_9 : decode cX9_layOut 9 = .ok (.getfield 82, 3) := by decide +kernel
theorem dX9_layOut_12 : decode cX9_layOut 12 = .ok (.if_icmp .ge 33, 3) := by decide +kernel
theorem dX9_layOut_15 : decode cX9_layOut 15 = .ok (.aload_n 1, 1) := by decide +kernel
theorem dX9_layOut_16 : decode cX9_layOut 16 = .ok (.getfield 57, 3) := by decide +kernel
theorem dX9_layOut_19 : decode cX9_layOut 19 = .ok (.bipush 8, 2) := by decide +kernel
theorem dX9_layOut_21 : decode cX9_layOut 21 = .ok (.iload_n 3, 1) := by decide +kernel
theorem dX9_layOut_22 : decode cX9_layOut 22 = .ok (.iadd, 1) := by decide +kernel
theorem dX9_layOut_23 : decode cX9_layOut 23 = .ok (.iaload, 1) := by decide +kernel
theorem dX9_layOut_24 : decode cX9_layOut 24 = .ok (.sipush 5096, 3) := by decide +kernel
theorem dX9_layOut_27 : decode cX9_layOut 27 = .ok (.if_icmp .lt 5, 3) := by decide +kernel
theorem dX9_layOut_30 : decode cX9_layOut 30 = .ok (.iload_n 3, 1) := by decide +kernel
theorem dX9_layOut_31 : decode cX9_layOut 31 = .ok (.istore_n 2, 1) := by decide +kernel
theorem dX9_layOut_32 : decode cX9_layOut 32 = .ok (.aload_n 0, 1) := by decide +kernel
theorem dX9_layOut_33 : decode cX9_layOut 33 = .ok (.getfield 9, 3) := by decide +kernel
theorem dX9_layOut_36 : decode cX9_layOut 36 = .ok (.iload_n 3, 1) := by decide +kernel
theorem dX9_layOut_37 : decode cX9_layOut 37 = .ok (.iload_n 2, 1) := by decide +kernel
theorem dX9_layOut_38 : decode cX9_layOut 38 = .ok (.iastore, 1) := by decide +kernel
theorem dX9_layOut_39 : decode cX9_layOut 39 = .ok (.iinc 3 1, 3) := by decide +kernel
theorem dX9_layOut_42 : decode cX9_layOut 42 = .ok (.goto (-35), 3) := by decide +kernel
theorem dX9_layOut_45 : decode cX9_layOut 45 = .ok (.return_, 1) := by decide +kernel
theorem dX9_look_0 : decode cX9_look 0 = .ok (.aload_n 0, 1) := by decide +kernel
theorem dX9_look_1 : decode cX9_look 1 = .ok (.getfield 15, 3) := by decide +kernel
theorem dX9_look_4 : decode cX9_look 4 = .ok (.iconst (-1), 1) := by decide +kernel
theorem dX9_look_5 : decode cX9_look 5 = .ok (.invokestatic 47, 3) := by decide +kernel
theorem dX9_look_8 : decode cX9_look 8 = .ok (.aload_n 0, 1) := by decide +kernel
theorem dX9_look_9 : decode cX9_look 9 = .ok (.getfield 9, 3) := by decide +kernel
theorem dX9_look_12 : decode cX9_look 12 = .ok (.iconst (-1), 1) := by decide +kernel
theorem dX9_look_13 : decode cX9_look 13 = .ok (.invokestatic 47, 3) := by decide +kernel
theorem dX9_look_16 : decode cX9_look 16 = .ok (.aload_n 0, 1) := by decide +kernel
theorem dX9_look_17 : decode cX9_look 17 = .ok (.aload_n 1, 1) := by decide +kernel
theorem dX9_look_18 : decode cX9_look 18 = .ok (.invokevirtual 53, 3) := by decide +kernel
theorem dX9_look_21 : decode cX9_look 21 = .ok (.aload_n 0, 1) := by decide +kernel
theorem dX9_look_22 : decode cX9_look 22 = .ok (.iload_n 3, 1) := by decide +kernel
theorem dX9_look_23 : decode cX9_look 23 = .ok (.putfield 40, 3) := by decide +kernel
theorem dX9_look_26 : decode cX9_look 26 = .ok (.aload_n 0, 1) := by decide +kernel
theorem dX9_look_27 : decode cX9_look 27 = .ok (.iconst 0, 1) := by decide +kernel
theorem dX9_look_28 : decode cX9_look 28 = .ok (.putfield 33, 3) := by decide +kernel
theorem dX9_look_31 : decode cX9_look 31 = .ok (.aload_n 0, 1) := by decide +kernel
theorem dX9_look_32 : decode cX9_look 32 = .ok (.iconst 0, 1) := by decide +kernel
theorem dX9_look_33 : decode cX9_look 33 = .ok (.putfield 37, 3) := by decide +kernel
theorem dX9_look_36 : decode cX9_look 36 = .ok (.iconst 0, 1) := by decide +kernel
theorem dX9_look_37 : decode cX9_look 37 = .ok (.istore 4, 2) := by decide +kernel
theorem dX9_look_39 : decode cX9_look 39 = .ok (.iload 4, 2) := by decide +kernel
theorem dX9_look_41 : decode cX9_look 41 = .ok (.bipush 8, 2) := by decide +kernel
theorem dX9_look_43 : decode cX9_look 43 = .ok (.if_icmp .ge 32, 3) := by decide +kernel
theorem dX9_look_46 : decode cX9_look 46 = .ok (.iload 4, 2) := by decide +kernel
theorem dX9_look_48 : decode cX9_look 48 = .ok (.iload_n 2, 1) := by decide +kernel
theorem dX9_look_49 : decode cX9_look 49 = .ok (.if_icmp .eq 20, 3) := by decide +kernel
theorem dX9_look_52 : decode cX9_look 52 = .ok (.aload_n 0, 1) := by decide +kernel
theorem dX9_look_53 : decode cX9_look 53 = .ok (.aload_n 1, 1) := by decide +kernel
theorem dX9_look_54 : decode cX9_look 54 = .ok (.getfield 57, 3) := by decide +kernel
theorem dX9_look_57 : decode cX9_look 57 = .ok (.iload 4, 2) := by decide +kernel
theorem dX9_look_59 : decode cX9_look 59 = .ok (.iaload, 1) := by decide +kernel
theorem dX9_look_60 : decode cX9_look 60 = .ok (.invokestatic 62, 3) := by decide +kernel
theorem dX9_look_63 : decode cX9_look 63 = .ok (.iconst (-1), 1) := by decide +kernel
theorem dX9_look_64 : decode cX9_look 64 = .ok (.iload 4, 2) := by decide +kernel
theorem dX9_look_66 : decode cX9_look 66 = .ok (.invokevirtual 66, 3) := by decide +kernel
theorem dX9_look_69 : decode cX9_look 69 = .ok (.iinc 4 1, 3) := by decide +kernel
theorem dX9_look_72 : decode cX9_look 72 = .ok (.goto (-33), 3) := by decide +kernel
theorem dX9_look_75 : decode cX9_look 75 = .ok (.iconst 0, 1) := by decide +kernel
theorem dX9_look_76 : decode cX9_look 76 = .ok (.istore 4, 2) := by decide +kernel
theorem dX9_look_78 : decode cX9_look 78 = .ok (.iload 4, 2) := by decide +kernel
theorem dX9_look_80 : decode cX9_look 80 = .ok (.aload_n 0, 1) := by decide +kernel
theorem dX9_look_81 : decode cX9_look 81 = .ok (.getfield 33, 3) := by decide +kernel
theorem dX9_look_84 : decode cX9_look 84 = .ok (.if_icmp .ge 121, 3) := by decide +kernel
theorem dX9_look_87 : decode cX9_look 87 = .ok (.aload_n 1, 1) := by decide +kernel
theorem dX9_look_88 : decode cX9_look 88 = .ok (.getfield 57, 3) := by decide +kernel
theorem dX9_look_91 : decode cX9_look 91 = .ok (.bipush 8, 2) := by decide +kernel
theorem dX9_look_93 : decode cX9_look 93 = .ok (.aload_n 0, 1) := by decide +kernel
theorem dX9_look_94 : decode cX9_look 94 = .ok (.getfield 18, 3) := by decide +kernel
theorem dX9_look_97 : decode cX9_look 97 = .ok (.iload 4, 2) := by decide +kernel
theorem dX9_look_99 : decode cX9_look 99 = .ok (.iaload, 1) := by decide +kernel
theorem dX9_look_100 : decode cX9_look 100 = .ok (.iadd, 1) := by decide +kernel
theorem dX9_look_101 : decode cX9_look 101 = .ok (.iaload, 1) := by decide +kernel
theorem dX9_look_102 : decode cX9_look 102 = .ok (.sipush 5096, 3) := by decide +kernel
theorem dX9_look_105 : decode cX9_look 105 = .ok (.isub, 1) := by decide +kernel
theorem dX9_look_106 : decode cX9_look 106 = .ok (.istore 5, 2) := by decide +kernel
theorem dX9_look_108 : decode cX9_look 108 = .ok (.aload_n 0, 1) := by decide +kernel
theorem dX9_look_109 : decode cX9_look 109 = .ok (.dup, 1) := by decide +kernel
theorem dX9_look_110 : decode cX9_look 110 = .ok (.getfield 37, 3) := by decide +kernel
theorem dX9_look_113 : decode cX9_look 113 = .ok (.aload_n 0, 1) := by decide +kernel
theorem dX9_look_114 : decode cX9_look 114 = .ok (.getfield 43, 3) := by decide +kernel
theorem dX9_look_117 : decode cX9_look 117 = .ok (.getfield 70, 3) := by decide +kernel
theorem dX9_look_120 : decode cX9_look 120 = .ok (.iload 5, 2) := by decide +kernel
theorem dX9_look_122 : decode cX9_look 122 = .ok (.iaload, 1) := by decide +kernel
theorem dX9_look_123 : decode cX9_look 123 = .ok (.iconst 1, 1) := by decide +kernel
theorem dX9_look_124 : decode cX9_look 124 = .ok (.iadd, 1) := by decide +kernel
theorem dX9_look_125 : decode cX9_look 125 = .ok (.iadd, 1) := by decide +kernel
theorem dX9_look_126 : decode cX9_look 126 = .ok (.putfield 37, 3) := by decide +kernel
theorem dX9_look_129 : decode cX9_look 129 = .ok (.iconst 0, 1) := by decide +kernel
theorem dX9_look_130 : decode cX9_look 130 = .ok (.istore 6, 2) := by decide +kernel
theorem dX9_look_132 : decode cX9_look 132 = .ok (.iload 6, 2) := by decide +kernel
theorem dX9_look_134 : decode cX9_look 134 = .ok (.aload_n 0, 1) := by decide +kernel
theorem dX9_look_135 : decode cX9_look 135 = .ok (.getfield 43, 3) := by decide +kernel
theorem dX9_look_138 : decode cX9_look 138 = .ok (.getfield 70, 3) := by decide +kernel
theorem dX9_look_141 : decode cX9_look 141 = .ok (.iload 5, 2) := by decide +kernel
theorem dX9_look_143 : decode cX9_look 143 = .ok (.iaload, 1) := by decide +kernel
theorem dX9_look_144 : decode cX9_look 144 = .ok (.if_icmp .ge 55, 3) := by decide +kernel
theorem dX9_look_147 : decode cX9_look 147 = .ok (.aload_n 0, 1) := by decide +kernel
theorem dX9_look_148 : decode cX9_look 148 = .ok (.getfield 43, 3) := by decide +kernel
theorem dX9_look_151 : decode cX9_look 151 = .ok (.iload 5, 2) := by decide +kernel
theorem dX9_look_153 : decode cX9_look 153 = .ok (.iload 6, 2) := by decide +kernel
theorem dX9_look_155 : decode cX9_look 155 = .ok (.invokevirtual 75, 3) := by decide +kernel
theorem dX9_look_158 : decode cX9_look 158 = .ok (.iconst 1, 1) := by decide +kernel
theorem dX9_look_159 : decode cX9_look 159 = .ok (.if_icmp .ne 34, 3) := by decide +kernel
theorem dX9_look_162 : decode cX9_look 162 = .ok (.aload_n 0, 1) := by decide +kernel
theorem dX9_look_163 : decode cX9_look 163 = .ok (.aload_n 1, 1) := by decide +kernel
theorem dX9_look_164 : decode cX9_look 164 = .ok (.getfield 57, 3) := by decide +kernel
theorem dX9_look_167 : decode cX9_look 167 = .ok (.bipush 8, 2) := by decide +kernel
theorem dX9_look_169 : decode cX9_look 169 = .ok (.aload_n 0, 1) := by decide +kernel
theorem dX9_look_170 : decode cX9_look 170 = .ok (.getfield 18, 3) := by decide +kernel
theorem dX9_look_173 : decode cX9_look 173 = .ok (.iload 4, 2) := by decide +kernel
theorem dX9_look_175 : decode cX9_look 175 = .ok (.iaload, 1) := by decide +kernel
theorem dX9_look_176 : decode cX9_look 176 = .ok (.iadd, 1) := by decide +kernel
theorem dX9_look_177 : decode cX9_look 177 = .ok (.iconst 1, 1) := by decide +kernel
theorem dX9_look_178 : decode cX9_look 178 = .ok (.iadd, 1) := by decide +kernel
theorem dX9_look_179 : decode cX9_look 179 = .ok (.iload 6, 2) := by decide +kernel
theorem dX9_look_181 : decode cX9_look 181 = .ok (.iadd, 1) := by decide +kernel
theorem dX9_look_182 : decode cX9_look 182 = .ok (.iaload, 1) := by decide +kernel
theorem dX9_look_183 : decode cX9_look 183 = .ok (.invokestatic 62, 3) := by decide +kernel
theorem dX9_look_186 : decode cX9_look 186 = .ok (.iload 4, 2) := by decide +kernel
theorem dX9_look_188 : decode cX9_look 188 = .ok (.iload 6, 2) := by decide +kernel
theorem dX9_look_190 : decode cX9_look 190 = .ok (.invokevirtual 66, 3) := by decide +kernel
theorem dX9_look_193 : decode cX9_look 193 = .ok (.iinc 6 1, 3) := by decide +kernel
theorem dX9_look_196 : decode cX9_look 196 = .ok (.goto (-64), 3) := by decide +kernel
theorem dX9_look_199 : decode cX9_look 199 = .ok (.iinc 4 1, 3) := by decide +kernel
theorem dX9_look_202 : decode cX9_look 202 = .ok (.goto (-124), 3) := by decide +kernel
theorem dX9_look_205 : decode cX9_look 205 = .ok (.return_, 1) := by decide +kernel
theorem dX9_reach_0 : decode cX9_reach 0 = .ok (.iload_n 1, 1) := by decide +kernel
theorem dX9_reach_1 : decode cX9_reach 1 = .ok (.iconst (-1), 1) := by decide +kernel
theorem dX9_reach_2 : decode cX9_reach 2 = .ok (.if_icmp .eq 26, 3) := by decide +kernel
theorem dX9_reach_5 : decode cX9_reach 5 = .ok (.aload_n 0, 1) := by decide +kernel
theorem dX9_reach_6 : decode cX9_reach 6 = .ok (.getfield 9, 3) := by decide +kernel
theorem dX9_reach_9 : decode cX9_reach 9 = .ok (.iload_n 1, 1) := by decide +kernel
theorem dX9_reach_10 : decode cX9_reach 10 = .ok (.iaload, 1) := by decide +kernel
theorem dX9_reach_11 : decode cX9_reach 11 = .ok (.iconst (-1), 1) := by decide +kernel
theorem dX9_reach_12 : decode cX9_reach 12 = .ok (.if_icmp .eq 16, 3) := by decide +kernel
theorem dX9_reach_15 : decode cX9_reach 15 = .ok (.aload_n 0, 1) := by decide +kernel
theorem dX9_reach_16 : decode cX9_reach 16 = .ok (.getfield 9, 3) := by decide +kernel
theorem dX9_reach_19 : decode cX9_reach 19 = .ok (.iload_n 1, 1) := by decide +kernel
theorem dX9_reach_20 : decode cX9_reach 20 = .ok (.iaload, 1) := by decide +kernel
theorem dX9_reach_21 : decode cX9_reach 21 = .ok (.aload_n 0, 1) := by decide +kernel
theorem dX9_reach_22 : decode cX9_reach 22 = .ok (.getfield 40, 3) := by decide +kernel
theorem dX9_reach_25 : decode cX9_reach 25 = .ok (.if_icmp .ne 4, 3) := by decide +kernel
theorem dX9_reach_28 : decode cX9_reach 28 = .ok (.return_, 1) := by decide +kernel
theorem dX9_reach_29 : decode cX9_reach 29 = .ok (.aload_n 0, 1) := by decide +kernel
theorem dX9_reach_30 : decode cX9_reach 30 = .ok (.getfield 9, 3) := by decide +kernel
theorem dX9_reach_33 : decode cX9_reach 33 = .ok (.iload_n 1, 1) := by decide +kernel
theorem dX9_reach_34 : decode cX9_reach 34 = .ok (.iaload, 1) := by decide +kernel
theorem dX9_reach_35 : decode cX9_reach 35 = .ok (.istore 4, 2) := by decide +kernel
theorem dX9_reach_37 : decode cX9_reach 37 = .ok (.aload_n 0, 1) := by decide +kernel
theorem dX9_reach_38 : decode cX9_reach 38 = .ok (.getfield 15, 3) := by decide +kernel
theorem dX9_reach_41 : decode cX9_reach 41 = .ok (.iload 4, 2) := by decide +kernel
theorem dX9_reach_43 : decode cX9_reach 43 = .ok (.iaload, 1) := by decide +kernel
theorem dX9_reach_44 : decode cX9_reach 44 = .ok (.iconst (-1), 1) := by decide +kernel
theorem dX9_reach_45 : decode cX9_reach 45 = .ok (.if_icmp .ne 12, 3) := by decide +kernel
theorem dX9_reach_48 : decode cX9_reach 48 = .ok (.aload_n 0, 1) := by decide +kernel
theorem dX9_reach_49 : decode cX9_reach 49 = .ok (.getfield 33, 3) := by decide +kernel
theorem dX9_reach_52 : decode cX9_reach 52 = .ok (.bipush 80, 2) := by decide +kernel
theorem dX9_reach_54 : decode cX9_reach 54 = .ok (.if_icmp .ne 4, 3) := by decide +kernel
theorem dX9_reach_57 : decode cX9_reach 57 = .ok (.return_, 1) := by decide +kernel
theorem dX9_reach_58 : decode cX9_reach 58 = .ok (.aload_n 0, 1) := by decide +kernel
theorem dX9_reach_59 : decode cX9_reach 59 = .ok (.getfield 15, 3) := by decide +kernel
theorem dX9_reach_62 : decode cX9_reach 62 = .ok (.iload 4, 2) := by decide +kernel
theorem dX9_reach_64 : decode cX9_reach 64 = .ok (.aload_n 0, 1) := by decide +kernel
theorem dX9_reach_65 : decode cX9_reach 65 = .ok (.getfield 33, 3) := by decide +kernel
theorem dX9_reach_68 : decode cX9_reach 68 = .ok (.iastore, 1) := by decide +kernel
theorem dX9_reach_69 : decode cX9_reach 69 = .ok (.aload_n 0, 1) := by decide +kernel
theorem dX9_reach_70 : decode cX9_reach 70 = .ok (.getfield 18, 3) := by decide +kernel
theorem dX9_reach_73 : decode cX9_reach 73 = .ok (.aload_n 0, 1) := by decide +kernel
theorem dX9_reach_74 : decode cX9_reach 74 = .ok (.getfield 33, 3) := by decide +kernel
theorem dX9_reach_77 : decode cX9_reach 77 = .ok (.iload 4, 2) := by decide +kernel
theorem dX9_reach_79 : decode cX9_reach 79 = .ok (.iastore, 1) := by decide +kernel
theorem dX9_reach_80 : decode cX9_reach 80 = .ok (.aload_n 0, 1) := by decide +kernel
theorem dX9_reach_81 : decode cX9_reach 81 = .ok (.getfield 24, 3) := by decide +kernel
theorem dX9_reach_84 : decode cX9_reach 84 = .ok (.aload_n 0, 1) := by decide +kernel
theorem dX9_reach_85 : decode cX9_reach 85 = .ok (.getfield 33, 3) := by decide +kernel
theorem dX9_reach_88 : decode cX9_reach 88 = .ok (.iload_n 2, 1) := by decide +kernel
theorem dX9_reach_89 : decode cX9_reach 89 = .ok (.iastore, 1) := by decide +kernel
theorem dX9_reach_90 : decode cX9_reach 90 = .ok (.aload_n 0, 1) := by decide +kernel
theorem dX9_reach_91 : decode cX9_reach 91 = .ok (.getfield 27, 3) := by decide +kernel
theorem dX9_reach_94 : decode cX9_reach 94 = .ok (.aload_n 0, 1) := by decide +kernel
theorem dX9_reach_95 : decode cX9_reach 95 = .ok (.getfield 33, 3) := by decide +kernel
theorem dX9_reach_98 : decode cX9_reach 98 = .ok (.iload_n 3, 1) := by decide +kernel
theorem dX9_reach_99 : decode cX9_reach 99 = .ok (.iastore, 1) := by decide +kernel
theorem dX9_reach_100 : decode cX9_reach 100 = .ok (.aload_n 0, 1) := by decide +kernel
theorem dX9_reach_101 : decode cX9_reach 101 = .ok (.getfield 21, 3) := by decide +kernel
theorem dX9_reach_104 : decode cX9_reach 104 = .ok (.aload_n 0, 1) := by decide +kernel
theorem dX9_reach_105 : decode cX9_reach 105 = .ok (.getfield 33, 3) := by decide +kernel
theorem dX9_reach_108 : decode cX9_reach 108 = .ok (.iload_n 2, 1) := by decide +kernel
theorem dX9_reach_109 : decode cX9_reach 109 = .ok (.iconst (-1), 1) := by decide +kernel
theorem dX9_reach_110 : decode cX9_reach 110 = .ok (.if_icmp .ne 7, 3) := by decide +kernel
theorem dX9_reach_113 : decode cX9_reach 113 = .ok (.iconst 0, 1) := by decide +kernel
theorem dX9_reach_114 : decode cX9_reach 114 = .ok (.goto 11, 3) := by decide +kernel
theorem dX9_reach_117 : decode cX9_reach 117 = .ok (.aload_n 0, 1) := by decide +kernel
theorem dX9_reach_118 : decode cX9_reach 118 = .ok (.getfield 21, 3) := by decide +kernel
theorem dX9_reach_121 : decode cX9_reach 121 = .ok (.iload_n 2, 1) := by decide +kernel
theorem dX9_reach_122 : decode cX9_reach 122 = .ok (.iaload, 1) := by decide +kernel
theorem dX9_reach_123 : decode cX9_reach 123 = .ok (.iconst 1, 1) := by decide +kernel
theorem dX9_reach_124 : decode cX9_reach 124 = .ok (.iadd, 1) := by decide +kernel
theorem dX9_reach_125 : decode cX9_reach 125 = .ok (.iastore, 1) := by decide +kernel
theorem dX9_reach_126 : decode cX9_reach 126 = .ok (.aload_n 0, 1) := by decide +kernel
theorem dX9_reach_127 : decode cX9_reach 127 = .ok (.dup, 1) := by decide +kernel
theorem dX9_reach_128 : decode cX9_reach 128 = .ok (.getfield 33, 3) := by decide +kernel
theorem dX9_reach_131 : decode cX9_reach 131 = .ok (.iconst 1, 1) := by decide +kernel
theorem dX9_reach_132 : decode cX9_reach 132 = .ok (.iadd, 1) := by decide +kernel
theorem dX9_reach_133 : decode cX9_reach 133 = .ok (.putfield 33, 3) := by decide +kernel
theorem dX9_reach_136 : decode cX9_reach 136 = .ok (.return_, 1) := by decide +kernel
theorem dX9_shapeOf_0 : decode cX9_shapeOf 0 = .ok (.iload_n 1, 1) := by decide +kernel
theorem dX9_shapeOf_1 : decode cX9_shapeOf 1 = .ok (.invokestatic 62, 3) := by decide +kernel
theorem dX9_shapeOf_4 : decode cX9_shapeOf 4 = .ok (.istore_n 2, 1) := by decide +kernel
theorem dX9_shapeOf_5 : decode cX9_shapeOf 5 = .ok (.iload_n 2, 1) := by decide +kernel
theorem dX9_shapeOf_6 : decode cX9_shapeOf 6 = .ok (.iconst (-1), 1) := by decide +kernel
theorem dX9_shapeOf_7 : decode cX9_shapeOf 7 = .ok (.if_icmp .ne 5, 3) := by decide +kernel
theorem dX9_shapeOf_10 : decode cX9_shapeOf 10 = .ok (.iload_n 1, 1) := by decide +kernel
theorem dX9_shapeOf_11 : decode cX9_shapeOf 11 = .ok (.ireturn, 1) := by decide +kernel
theorem dX9_shapeOf_12 : decode cX9_shapeOf 12 = .ok (.aload_n 0, 1) := by decide +kernel
theorem dX9_shapeOf_13 : decode cX9_shapeOf 13 = .ok (.iload_n 2, 1) := by decide +kernel
theorem dX9_shapeOf_14 : decode cX9_shapeOf 14 = .ok (.invokevirtual 89, 3) := by decide +kernel
theorem dX9_shapeOf_17 : decode cX9_shapeOf 17 = .ok (.ifCond .ne 7, 3) := by decide +kernel
theorem dX9_shapeOf_20 : decode cX9_shapeOf 20 = .ok (.sipush 3047, 3) := by decide +kernel
theorem dX9_shapeOf_23 : decode cX9_shapeOf 23 = .ok (.ireturn, 1) := by decide +kernel
theorem dX9_shapeOf_24 : decode cX9_shapeOf 24 = .ok (.sipush 3048, 3) := by decide +kernel
theorem dX9_shapeOf_27 : decode cX9_shapeOf 27 = .ok (.aload_n 0, 1) := by decide +kernel
theorem dX9_shapeOf_28 : decode cX9_shapeOf 28 = .ok (.iload_n 2, 1) := by decide +kernel
theorem dX9_shapeOf_29 : decode cX9_shapeOf 29 = .ok (.invokevirtual 102, 3) := by decide +kernel
theorem dX9_shapeOf_32 : decode cX9_shapeOf 32 = .ok (.bipush 7, 2) := by decide +kernel
theorem dX9_shapeOf_34 : decode cX9_shapeOf 34 = .ok (.imul, 1) := by decide +kernel
theorem dX9_shapeOf_35 : decode cX9_shapeOf 35 = .ok (.iadd, 1) := by decide +kernel
theorem dX9_shapeOf_36 : decode cX9_shapeOf 36 = .ok (.iload_n 2, 1) := by decide +kernel
theorem dX9_shapeOf_37 : decode cX9_shapeOf 37 = .ok (.iadd, 1) := by decide +kernel
theorem dX9_shapeOf_38 : decode cX9_shapeOf 38 = .ok (.aload_n 0, 1) := by decide +kernel
theorem dX9_shapeOf_39 : decode cX9_shapeOf 39 = .ok (.getfield 9, 3) := by decide +kernel
theorem dX9_shapeOf_42 : decode cX9_shapeOf 42 = .ok (.iload_n 2, 1) := by decide +kernel
theorem dX9_shapeOf_43 : decode cX9_shapeOf 43 = .ok (.iaload, 1) := by decide +kernel
theorem dX9_shapeOf_44 : decode cX9_shapeOf 44 = .ok (.isub, 1) := by decide +kernel
theorem dX9_shapeOf_45 : decode cX9_shapeOf 45 = .ok (.ireturn, 1) := by decide +kernel
theorem dX9_wayTo_0 : decode cX9_wayTo 0 = .ok (.iload_n 1, 1) := by decide +kernel
theorem dX9_wayTo_1 : decode cX9_wayTo 1 = .ok (.istore_n 3, 1) := by decide +kernel
theorem dX9_wayTo_2 : decode cX9_wayTo 2 = .ok (.iload_n 2, 1) := by decide +kernel
theorem dX9_wayTo_3 : decode cX9_wayTo 3 = .ok (.aload_n 0, 1) := by decide +kernel
theorem dX9_wayTo_4 : decode cX9_wayTo 4 = .ok (.getfield 21, 3) := by decide +kernel
theorem dX9_wayTo_7 : decode cX9_wayTo 7 = .ok (.iload_n 3, 1) := by decide +kernel
theorem dX9_wayTo_8 : decode cX9_wayTo 8 = .ok (.iaload, 1) := by decide +kernel
theorem dX9_wayTo_9 : decode cX9_wayTo 9 = .ok (.if_icmp .le 5, 3) := by decide +kernel
theorem dX9_wayTo_12 : decode cX9_wayTo 12 = .ok (.iconst (-1), 1) := by decide +kernel
theorem dX9_wayTo_13 : decode cX9_wayTo 13 = .ok (.ireturn, 1) := by decide +kernel
theorem dX9_wayTo_14 : decode cX9_wayTo 14 = .ok (.aload_n 0, 1) := by decide +kernel
theorem dX9_wayTo_15 : decode cX9_wayTo 15 = .ok (.getfield 21, 3) := by decide +kernel
theorem dX9_wayTo_18 : decode cX9_wayTo 18 = .ok (.iload_n 3, 1) := by decide +kernel
theorem dX9_wayTo_19 : decode cX9_wayTo 19 = .ok (.iaload, 1) := by decide +kernel
theorem dX9_wayTo_20 : decode cX9_wayTo 20 = .ok (.istore 4, 2) := by decide +kernel
theorem dX9_wayTo_22 : decode cX9_wayTo 22 = .ok (.iload 4, 2) := by decide +kernel
theorem dX9_wayTo_24 : decode cX9_wayTo 24 = .ok (.iload_n 2, 1) := by decide +kernel
theorem dX9_wayTo_25 : decode cX9_wayTo 25 = .ok (.if_icmp .le 16, 3) := by decide +kernel
theorem dX9_wayTo_28 : decode cX9_wayTo 28 = .ok (.aload_n 0, 1) := by decide +kernel
theorem dX9_wayTo_29 : decode cX9_wayTo 29 = .ok (.getfield 24, 3) := by decide +kernel
theorem dX9_wayTo_32 : decode cX9_wayTo 32 = .ok (.iload_n 3, 1) := by decide +kernel
theorem dX9_wayTo_33 : decode cX9_wayTo 33 = .ok (.iaload, 1) := by decide +kernel
theorem dX9_wayTo_34 : decode cX9_wayTo 34 = .ok (.istore_n 3, 1) := by decide +kernel
theorem dX9_wayTo_35 : decode cX9_wayTo 35 = .ok (.iinc 4 (-1), 3) := by decide +kernel
theorem dX9_wayTo_38 : decode cX9_wayTo 38 = .ok (.goto (-16), 3) := by decide +kernel
theorem dX9_wayTo_41 : decode cX9_wayTo 41 = .ok (.aload_n 0, 1) := by decide +kernel
theorem dX9_wayTo_42 : decode cX9_wayTo 42 = .ok (.getfield 27, 3) := by decide +kernel
theorem dX9_wayTo_45 : decode cX9_wayTo 45 = .ok (.iload_n 3, 1) := by decide +kernel
theorem dX9_wayTo_46 : decode cX9_wayTo 46 = .ok (.iaload, 1) := by decide +kernel
theorem dX9_wayTo_47 : decode cX9_wayTo 47 = .ok (.ireturn, 1) := by decide +kernel
theorem dX9_writeShape_0 : decode cX9_writeShape 0 = .ok (.iconst 0, 1) := by decide +kernel
theorem dX9_writeShape_1 : decode cX9_writeShape 1 = .ok (.istore_n 3, 1) := by decide +kernel
theorem dX9_writeShape_2 : decode cX9_writeShape 2 = .ok (.iconst 0, 1) := by decide +kernel
theorem dX9_writeShape_3 : decode cX9_writeShape 3 = .ok (.istore 4, 2) := by decide +kernel
theorem dX9_writeShape_5 : decode cX9_writeShape 5 = .ok (.iload 4, 2) := by decide +kernel
theorem dX9_writeShape_7 : decode cX9_writeShape 7 = .ok (.bipush 8, 2) := by decide +kernel
theorem dX9_writeShape_9 : decode cX9_writeShape 9 = .ok (.if_icmp .ge 26, 3) := by decide +kernel
theorem dX9_writeShape_12 : decode cX9_writeShape 12 = .ok (.aload_n 2, 1) := by decide +kernel
theorem dX9_writeShape_13 : decode cX9_writeShape 13 = .ok (.iload_n 3, 1) := by decide +kernel
theorem dX9_writeShape_14 : decode cX9_writeShape 14 = .ok (.aload_n 0, 1) := by decide +kernel
theorem dX9_writeShape_15 : decode cX9_writeShape 15 = .ok (.aload_n 1, 1) := by decide +kernel
theorem dX9_writeShape_16 : decode cX9_writeShape 16 = .ok (.getfield 57, 3) := by decide +kernel
theorem dX9_writeShape_19 : decode cX9_writeShape 19 = .ok (.iload 4, 2) := by decide +kernel
theorem dX9_writeShape_21 : decode cX9_writeShape 21 = .ok (.iaload, 1) := by decide +kernel
theorem dX9_writeShape_22 : decode cX9_writeShape 22 = .ok (.invokevirtual 96, 3) := by decide +kernel
theorem dX9_writeShape_25 : decode cX9_writeShape 25 = .ok (.iastore, 1) := by decide +kernel
theorem dX9_writeShape_26 : decode cX9_writeShape 26 = .ok (.iinc 3 1, 3) := by decide +kernel
theorem dX9_writeShape_29 : decode cX9_writeShape 29 = .ok (.iinc 4 1, 3) := by decide +kernel
theorem dX9_writeShape_32 : decode cX9_writeShape 32 = .ok (.goto (-27), 3) := by decide +kernel
theorem dX9_writeShape_35 : decode cX9_writeShape 35 = .ok (.iconst 0, 1) := by decide +kernel
theorem dX9_writeShape_36 : decode cX9_writeShape 36 = .ok (.istore 4, 2) := by decide +kernel
theorem dX9_writeShape_38 : decode cX9_writeShape 38 = .ok (.iload 4, 2) := by decide +kernel
theorem dX9_writeShape_40 : decode cX9_writeShape 40 = .ok (.aload_n 0, 1) := by decide +kernel
theorem dX9_writeShape_41 : decode cX9_writeShape 41 = .ok (.getfield 33, 3) := by decide +kernel
theorem dX9_writeShape_44 : decode cX9_writeShape 44 = .ok (.if_icmp .ge 75, 3) := by decide +kernel
theorem dX9_writeShape_47 : decode cX9_writeShape 47 = .ok (.aload_n 0, 1) := by decide +kernel
theorem dX9_writeShape_48 : decode cX9_writeShape 48 = .ok (.getfield 43, 3) := by decide +kernel
theorem dX9_writeShape_51 : decode cX9_writeShape 51 = .ok (.aload_n 1, 1) := by decide +kernel
theorem dX9_writeShape_52 : decode cX9_writeShape 52 = .ok (.aload_n 0, 1) := by decide +kernel
theorem dX9_writeShape_53 : decode cX9_writeShape 53 = .ok (.getfield 18, 3) := by decide +kernel
theorem dX9_writeShape_56 : decode cX9_writeShape 56 = .ok (.iload 4, 2) := by decide +kernel
theorem dX9_writeShape_58 : decode cX9_writeShape 58 = .ok (.iaload, 1) := by decide +kernel
theorem dX9_writeShape_59 : decode cX9_writeShape 59 = .ok (.invokevirtual 93, 3) := by decide +kernel
theorem dX9_writeShape_62 : decode cX9_writeShape 62 = .ok (.invokevirtual 99, 3) := by decide +kernel
theorem dX9_writeShape_65 : decode cX9_writeShape 65 = .ok (.istore 5, 2) := by decide +kernel
theorem dX9_writeShape_67 : decode cX9_writeShape 67 = .ok (.iconst 0, 1) := by decide +kernel
theorem dX9_writeShape_68 : decode cX9_writeShape 68 = .ok (.istore 6, 2) := by decide +kernel
theorem dX9_writeShape_70 : decode cX9_writeShape 70 = .ok (.iload 6, 2) := by decide +kernel
theorem dX9_writeShape_72 : decode cX9_writeShape 72 = .ok (.iload 5, 2) := by decide +kernel
theorem dX9_writeShape_74 : decode cX9_writeShape 74 = .ok (.if_icmp .ge 39, 3) := by decide +kernel
theorem dX9_writeShape_77 : decode cX9_writeShape 77 = .ok (.iload_n 3, 1) := by decide +kernel
theorem dX9_writeShape_78 : decode cX9_writeShape 78 = .ok (.aload_n 2, 1) := by decide +kernel
theorem dX9_writeShape_79 : decode cX9_writeShape 79 = .ok (.arraylength, 1) := by decide +kernel
theorem dX9_writeShape_80 : decode cX9_writeShape 80 = .ok (.if_icmp .ge 33, 3) := by decide +kernel
theorem dX9_writeShape_83 : decode cX9_writeShape 83 = .ok (.aload_n 2, 1) := by decide +kernel
theorem dX9_writeShape_84 : decode cX9_writeShape 84 = .ok (.iload_n 3, 1) := by decide +kernel
theorem dX9_writeShape_85 : decode cX9_writeShape 85 = .ok (.aload_n 0, 1) := by decide +kernel
theorem dX9_writeShape_86 : decode cX9_writeShape 86 = .ok (.aload_n 1, 1) := by decide +kernel
theorem dX9_writeShape_87 : decode cX9_writeShape 87 = .ok (.aload_n 0, 1) := by decide +kernel
theorem dX9_writeShape_88 : decode cX9_writeShape 88 = .ok (.getfield 18, 3) := by decide +kernel
theorem dX9_writeShape_91 : decode cX9_writeShape 91 = .ok (.iload 4, 2) := by decide +kernel
theorem dX9_writeShape_93 : decode cX9_writeShape 93 = .ok (.iaload, 1) := by decide +kernel
theorem dX9_writeShape_94 : decode cX9_writeShape 94 = .ok (.iload 6, 2) := by decide +kernel
theorem dX9_writeShape_96 : decode cX9_writeShape 96 = .ok (.iadd, 1) := by decide +kernel
theorem dX9_writeShape_97 : decode cX9_writeShape 97 = .ok (.invokevirtual 93, 3) := by decide +kernel
theorem dX9_writeShape_100 : decode cX9_writeShape 100 = .ok (.invokevirtual 96, 3) := by decide +kernel
theorem dX9_writeShape_103 : decode cX9_writeShape 103 = .ok (.iastore, 1) := by decide +kernel
theorem dX9_writeShape_104 : decode cX9_writeShape 104 = .ok (.iinc 3 1, 3) := by decide +kernel
theorem dX9_writeShape_107 : decode cX9_writeShape 107 = .ok (.iinc 6 1, 3) := by decide +kernel
theorem dX9_writeShape_110 : decode cX9_writeShape 110 = .ok (.goto (-40), 3) := by decide +kernel
theorem dX9_writeShape_113 : decode cX9_writeShape 113 = .ok (.iinc 4 1, 3) := by decide +kernel
theorem dX9_writeShape_116 : decode cX9_writeShape 116 = .ok (.goto (-78), 3) := by decide +kernel
theorem dX9_writeShape_119 : decode cX9_writeShape 119 = .ok (.iload_n 3, 1) := by decide +kernel
theorem dX9_writeShape_120 : decode cX9_writeShape 120 = .ok (.ireturn, 1) := by decide +kernel
