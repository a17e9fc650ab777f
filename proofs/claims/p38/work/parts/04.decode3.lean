theorem dX12_laysCells_55 : decode cX12_laysCells 55 = .ok (.getfield 78, 3) := by decide +kernel
theorem dX12_laysCells_58 : decode cX12_laysCells 58 = .ok (.iload_n 1, 1) := by decide +kernel
theorem dX12_laysCells_59 : decode cX12_laysCells 59 = .ok (.invokestatic 244, 3) := by decide +kernel
theorem dX12_laysCells_62 : decode cX12_laysCells 62 = .ok (.invokevirtual 346, 3) := by decide +kernel
theorem dX12_laysCells_65 : decode cX12_laysCells 65 = .ok (.istore_n 2, 1) := by decide +kernel
theorem dX12_laysCells_66 : decode cX12_laysCells 66 = .ok (.iconst 0, 1) := by decide +kernel
theorem dX12_laysCells_67 : decode cX12_laysCells 67 = .ok (.istore_n 3, 1) := by decide +kernel
theorem dX12_laysCells_68 : decode cX12_laysCells 68 = .ok (.iload_n 3, 1) := by decide +kernel
theorem dX12_laysCells_69 : decode cX12_laysCells 69 = .ok (.iload_n 2, 1) := by decide +kernel
theorem dX12_laysCells_70 : decode cX12_laysCells 70 = .ok (.if_icmp .ge 21, 3) := by decide +kernel
theorem dX12_laysCells_73 : decode cX12_laysCells 73 = .ok (.aload_n 0, 1) := by decide +kernel
theorem dX12_laysCells_74 : decode cX12_laysCells 74 = .ok (.getfield 90, 3) := by decide +kernel
theorem dX12_laysCells_77 : decode cX12_laysCells 77 = .ok (.iload_n 1, 1) := by decide +kernel
theorem dX12_laysCells_78 : decode cX12_laysCells 78 = .ok (.iload_n 3, 1) := by decide +kernel
theorem dX12_laysCells_79 : decode cX12_laysCells 79 = .ok (.iadd, 1) := by decide +kernel
theorem dX12_laysCells_80 : decode cX12_laysCells 80 = .ok (.aload_n 0, 1) := by decide +kernel
theorem dX12_laysCells_81 : decode cX12_laysCells 81 = .ok (.getfield 343, 3) := by decide +kernel
theorem dX12_laysCells_84 : decode cX12_laysCells 84 = .ok (.iastore, 1) := by decide +kernel
theorem dX12_laysCells_85 : decode cX12_laysCells 85 = .ok (.iinc 3 1, 3) := by decide +kernel
theorem dX12_laysCells_88 : decode cX12_laysCells 88 = .ok (.goto (-20), 3) := by decide +kernel
theorem dX12_laysCells_91 : decode cX12_laysCells 91 = .ok (.iload_n 1, 1) := by decide +kernel
theorem dX12_laysCells_92 : decode cX12_laysCells 92 = .ok (.iload_n 2, 1) := by decide +kernel
theorem dX12_laysCells_93 : decode cX12_laysCells 93 = .ok (.iadd, 1) := by decide +kernel
theorem dX12_laysCells_94 : decode cX12_laysCells 94 = .ok (.istore_n 1, 1) := by decide +kernel
theorem dX12_laysCells_95 : decode cX12_laysCells 95 = .ok (.aload_n 0, 1) := by decide +kernel
theorem dX12_laysCells_96 : decode cX12_laysCells 96 = .ok (.dup, 1) := by decide +kernel
theorem dX12_laysCells_97 : decode cX12_laysCells 97 = .ok (.getfield 343, 3) := by decide +kernel
theorem dX12_laysCells_100 : decode cX12_laysCells 100 = .ok (.iconst 1, 1) := by decide +kernel
theorem dX12_laysCells_101 : decode cX12_laysCells 101 = .ok (.iadd, 1) := by decide +kernel
theorem dX12_laysCells_102 : decode cX12_laysCells 102 = .ok (.putfield 343, 3) := by decide +kernel
theorem dX12_laysCells_105 : decode cX12_laysCells 105 = .ok (.goto (-70), 3) := by decide +kernel
theorem dX12_laysCells_108 : decode cX12_laysCells 108 = .ok (.return_, 1) := by decide +kernel
theorem dX12_laysThen_0 : decode cX12_laysThen 0 = .ok (.aload_n 0, 1) := by decide +kernel
theorem dX12_laysThen_1 : decode cX12_laysThen 1 = .ok (.iconst 0, 1) := by decide +kernel
theorem dX12_laysThen_2 : decode cX12_laysThen 2 = .ok (.invokevirtual 442, 3) := by decide +kernel
theorem dX12_laysThen_5 : decode cX12_laysThen 5 = .ok (.aload_n 0, 1) := by decide +kernel
theorem dX12_laysThen_6 : decode cX12_laysThen 6 = .ok (.iconst 0, 1) := by decide +kernel
theorem dX12_laysThen_7 : decode cX12_laysThen 7 = .ok (.putfield 523, 3) := by decide +kernel
theorem dX12_laysThen_10 : decode cX12_laysThen 10 = .ok (.iconst 0, 1) := by decide +kernel
theorem dX12_laysThen_11 : decode cX12_laysThen 11 = .ok (.istore_n 1, 1) := by decide +kernel
theorem dX12_laysThen_12 : decode cX12_laysThen 12 = .ok (.iload_n 1, 1) := by decide +kernel
theorem dX12_laysThen_13 : decode cX12_laysThen 13 = .ok (.aload_n 0, 1) := by decide +kernel
theorem dX12_laysThen_14 : decode cX12_laysThen 14 = .ok (.invokevirtual 526, 3) := by decide +kernel
theorem dX12_laysThen_17 : decode cX12_laysThen 17 = .ok (.if_icmp .gt 100, 3) := by decide +kernel
theorem dX12_laysThen_20 : decode cX12_laysThen 20 = .ok (.iload_n 1, 1) := by decide +kernel
theorem dX12_laysThen_21 : decode cX12_laysThen 21 = .ok (.ifCond .le 8, 3) := by decide +kernel
theorem dX12_laysThen_24 : decode cX12_laysThen 24 = .ok (.aload_n 0, 1) := by decide +kernel
theorem dX12_laysThen_25 : decode cX12_laysThen 25 = .ok (.iload_n 1, 1) := by decide +kernel
theorem dX12_laysThen_26 : decode cX12_laysThen 26 = .ok (.invokevirtual 439, 3) := by decide +kernel
theorem dX12_laysThen_29 : decode cX12_laysThen 29 = .ok (.aload_n 0, 1) := by decide +kernel
theorem dX12_laysThen_30 : decode cX12_laysThen 30 = .ok (.getfield 130, 3) := by decide +kernel
theorem dX12_laysThen_33 : decode cX12_laysThen 33 = .ok (.iload_n 1, 1) := by decide +kernel
theorem dX12_laysThen_34 : decode cX12_laysThen 34 = .ok (.aload_n 0, 1) := by decide +kernel
theorem dX12_laysThen_35 : decode cX12_laysThen 35 = .ok (.invokevirtual 529, 3) := by decide +kernel
theorem dX12_laysThen_38 : decode cX12_laysThen 38 = .ok (.bastore, 1) := by decide +kernel
theorem dX12_laysThen_39 : decode cX12_laysThen 39 = .ok (.aload_n 0, 1) := by decide +kernel
theorem dX12_laysThen_40 : decode cX12_laysThen 40 = .ok (.getfield 130, 3) := by decide +kernel
theorem dX12_laysThen_43 : decode cX12_laysThen 43 = .ok (.iload_n 1, 1) := by decide +kernel
theorem dX12_laysThen_44 : decode cX12_laysThen 44 = .ok (.baload, 1) := by decide +kernel
theorem dX12_laysThen_45 : decode cX12_laysThen 45 = .ok (.ifCond .eq 13, 3) := by decide +kernel
theorem dX12_laysThen_48 : decode cX12_laysThen 48 = .ok (.aload_n 0, 1) := by decide +kernel
theorem dX12_laysThen_49 : decode cX12_laysThen 49 = .ok (.dup, 1) := by decide +kernel
theorem dX12_laysThen_50 : decode cX12_laysThen 50 = .ok (.getfield 523, 3) := by decide +kernel
theorem dX12_laysThen_53 : decode cX12_laysThen 53 = .ok (.iconst 1, 1) := by decide +kernel
theorem dX12_laysThen_54 : decode cX12_laysThen 54 = .ok (.iadd, 1) := by decide +kernel
theorem dX12_laysThen_55 : decode cX12_laysThen 55 = .ok (.putfield 523, 3) := by decide +kernel
theorem dX12_laysThen_58 : decode cX12_laysThen 58 = .ok (.iconst 0, 1) := by decide +kernel
theorem dX12_laysThen_59 : decode cX12_laysThen 59 = .ok (.istore_n 2, 1) := by decide +kernel
theorem dX12_laysThen_60 : decode cX12_laysThen 60 = .ok (.iload_n 2, 1) := by decide +kernel
theorem dX12_laysThen_61 : decode cX12_laysThen 61 = .ok (.aload_n 0, 1) := by decide +kernel
theorem dX12_laysThen_62 : decode cX12_laysThen 62 = .ok (.getfield 325, 3) := by decide +kernel
theorem dX12_laysThen_65 : decode cX12_laysThen 65 = .ok (.if_icmp .ge 46, 3) := by decide +kernel
theorem dX12_laysThen_68 : decode cX12_laysThen 68 = .ok (.aload_n 0, 1) := by decide +kernel
theorem dX12_laysThen_69 : decode cX12_laysThen 69 = .ok (.getfield 134, 3) := by decide +kernel
theorem dX12_laysThen_72 : decode cX12_laysThen 72 = .ok (.sipush 160, 3) := by decide +kernel
theorem dX12_laysThen_75 : decode cX12_laysThen 75 = .ok (.iload_n 1, 1) := by decide +kernel
theorem dX12_laysThen_76 : decode cX12_laysThen 76 = .ok (.imul, 1) := by decide +kernel
theorem dX12_laysThen_77 : decode cX12_laysThen 77 = .ok (.iload_n 2, 1) := by decide +kernel
theorem dX12_laysThen_78 : decode cX12_laysThen 78 = .ok (.iadd, 1) := by decide +kernel
theorem dX12_laysThen_79 : decode cX12_laysThen 79 = .ok (.sipush 2400, 3) := by decide +kernel
theorem dX12_laysThen_82 : decode cX12_laysThen 82 = .ok (.aload_n 0, 1) := by decide +kernel
theorem dX12_laysThen_83 : decode cX12_laysThen 83 = .ok (.getfield 84, 3) := by decide +kernel
theorem dX12_laysThen_86 : decode cX12_laysThen 86 = .ok (.iload_n 2, 1) := by decide +kernel
theorem dX12_laysThen_87 : decode cX12_laysThen 87 = .ok (.invokestatic 240, 3) := by decide +kernel
theorem dX12_laysThen_90 : decode cX12_laysThen 90 = .ok (.imul, 1) := by decide +kernel
theorem dX12_laysThen_91 : decode cX12_laysThen 91 = .ok (.sipush 1000, 3) := by decide +kernel
theorem dX12_laysThen_94 : decode cX12_laysThen 94 = .ok (.iadd, 1) := by decide +kernel
theorem dX12_laysThen_95 : decode cX12_laysThen 95 = .ok (.aload_n 0, 1) := by decide +kernel
theorem dX12_laysThen_96 : decode cX12_laysThen 96 = .ok (.getfield 84, 3) := by decide +kernel
theorem dX12_laysThen_99 : decode cX12_laysThen 99 = .ok (.iload_n 2, 1) := by decide +kernel
theorem dX12_laysThen_100 : decode cX12_laysThen 100 = .ok (.invokestatic 244, 3) := by decide +kernel
theorem dX12_laysThen_103 : decode cX12_laysThen 103 = .ok (.iadd, 1) := by decide +kernel
theorem dX12_laysThen_104 : decode cX12_laysThen 104 = .ok (.iastore, 1) := by decide +kernel
theorem dX12_laysThen_105 : decode cX12_laysThen 105 = .ok (.iinc 2 1, 3) := by decide +kernel
theorem dX12_laysThen_108 : decode cX12_laysThen 108 = .ok (.goto (-48), 3) := by decide +kernel
theorem dX12_laysThen_111 : decode cX12_laysThen 111 = .ok (.iinc 1 1, 3) := by decide +kernel
theorem dX12_laysThen_114 : decode cX12_laysThen 114 = .ok (.goto (-102), 3) := by decide +kernel
theorem dX12_laysThen_117 : decode cX12_laysThen 117 = .ok (.return_, 1) := by decide +kernel
theorem dX12_liveWords_0 : decode cX12_liveWords 0 = .ok (.iconst 0, 1) := by decide +kernel
theorem dX12_liveWords_1 : decode cX12_liveWords 1 = .ok (.istore_n 1, 1) := by decide +kernel
theorem dX12_liveWords_2 : decode cX12_liveWords 2 = .ok (.iconst 0, 1) := by decide +kernel
theorem dX12_liveWords_3 : decode cX12_liveWords 3 = .ok (.istore_n 2, 1) := by decide +kernel
theorem dX12_liveWords_4 : decode cX12_liveWords 4 = .ok (.iload_n 2, 1) := by decide +kernel
theorem dX12_liveWords_5 : decode cX12_liveWords 5 = .ok (.aload_n 0, 1) := by decide +kernel
theorem dX12_liveWords_6 : decode cX12_liveWords 6 = .ok (.getfield 343, 3) := by decide +kernel
theorem dX12_liveWords_9 : decode cX12_liveWords 9 = .ok (.if_icmp .ge 30, 3) := by decide +kernel
theorem dX12_liveWords_12 : decode cX12_liveWords 12 = .ok (.aload_n 0, 1) := by decide +kernel
theorem dX12_liveWords_13 : decode cX12_liveWords 13 = .ok (.getfield 93, 3) := by decide +kernel
theorem dX12_liveWords_16 : decode cX12_liveWords 16 = .ok (.iload_n 2, 1) := by decide +kernel
theorem dX12_liveWords_17 : decode cX12_liveWords 17 = .ok (.baload, 1) := by decide +kernel
theorem dX12_liveWords_18 : decode cX12_liveWords 18 = .ok (.ifCond .eq 15, 3) := by decide +kernel
theorem dX12_liveWords_21 : decode cX12_liveWords 21 = .ok (.iload_n 1, 1) := by decide +kernel
theorem dX12_liveWords_22 : decode cX12_liveWords 22 = .ok (.aload_n 0, 1) := by decide +kernel
theorem dX12_liveWords_23 : decode cX12_liveWords 23 = .ok (.aload_n 0, 1) := by decide +kernel
theorem dX12_liveWords_24 : decode cX12_liveWords 24 = .ok (.iload_n 2, 1) := by decide +kernel
theorem dX12_liveWords_25 : decode cX12_liveWords 25 = .ok (.invokevirtual 353, 3) := by decide +kernel
theorem dX12_liveWords_28 : decode cX12_liveWords 28 = .ok (.invokevirtual 346, 3) := by decide +kernel
theorem dX12_liveWords_31 : decode cX12_liveWords 31 = .ok (.iadd, 1) := by decide +kernel
theorem dX12_liveWords_32 : decode cX12_liveWords 32 = .ok (.istore_n 1, 1) := by decide +kernel
theorem dX12_liveWords_33 : decode cX12_liveWords 33 = .ok (.iinc 2 1, 3) := by decide +kernel
theorem dX12_liveWords_36 : decode cX12_liveWords 36 = .ok (.goto (-32), 3) := by decide +kernel
theorem dX12_liveWords_39 : decode cX12_liveWords 39 = .ok (.iload_n 1, 1) := by decide +kernel
theorem dX12_liveWords_40 : decode cX12_liveWords 40 = .ok (.ireturn, 1) := by decide +kernel
theorem dX12_longest_0 : decode cX12_longest 0 = .ok (.aload_n 0, 1) := by decide +kernel
theorem dX12_longest_1 : decode cX12_longest 1 = .ok (.invokevirtual 452, 3) := by decide +kernel
theorem dX12_longest_4 : decode cX12_longest 4 = .ok (.ifCond .eq 13, 3) := by decide +kernel
theorem dX12_longest_7 : decode cX12_longest 7 = .ok (.iload_n 1, 1) := by decide +kernel
theorem dX12_longest_8 : decode cX12_longest 8 = .ok (.i2l, 1) := by decide +kernel
theorem dX12_longest_9 : decode cX12_longest 9 = .ok (.lconst 0, 1) := by decide +kernel
theorem dX12_longest_10 : decode cX12_longest 10 = .ok (.lconst 1, 1) := by decide +kernel
theorem dX12_longest_11 : decode cX12_longest 11 = .ok (.invokestatic 178, 3) := by decide +kernel
theorem dX12_longest_14 : decode cX12_longest 14 = .ok (.ifCond .ne 5, 3) := by decide +kernel
theorem dX12_longest_17 : decode cX12_longest 17 = .ok (.iconst (-1), 1) := by decide +kernel
theorem dX12_longest_18 : decode cX12_longest 18 = .ok (.ireturn, 1) := by decide +kernel
theorem dX12_longest_19 : decode cX12_longest 19 = .ok (.iconst 0, 1) := by decide +kernel
theorem dX12_longest_20 : decode cX12_longest 20 = .ok (.istore_n 2, 1) := by decide +kernel
theorem dX12_longest_21 : decode cX12_longest 21 = .ok (.iconst 0, 1) := by decide +kernel
theorem dX12_longest_22 : decode cX12_longest 22 = .ok (.istore_n 3, 1) := by decide +kernel
theorem dX12_longest_23 : decode cX12_longest 23 = .ok (.iload_n 3, 1) := by decide +kernel
theorem dX12_longest_24 : decode cX12_longest 24 = .ok (.aload_n 0, 1) := by decide +kernel
theorem dX12_longest_25 : decode cX12_longest 25 = .ok (.getfield 372, 3) := by decide +kernel
theorem dX12_longest_28 : decode cX12_longest 28 = .ok (.if_icmp .ge 31, 3) := by decide +kernel
theorem dX12_longest_31 : decode cX12_longest 31 = .ok (.aload_n 0, 1) := by decide +kernel
theorem dX12_longest_32 : decode cX12_longest 32 = .ok (.aload_n 0, 1) := by decide +kernel
theorem dX12_longest_33 : decode cX12_longest 33 = .ok (.getfield 97, 3) := by decide +kernel
theorem dX12_longest_36 : decode cX12_longest 36 = .ok (.iload_n 3, 1) := by decide +kernel
theorem dX12_longest_37 : decode cX12_longest 37 = .ok (.iaload, 1) := by decide +kernel
theorem dX12_longest_38 : decode cX12_longest 38 = .ok (.iload_n 1, 1) := by decide +kernel
theorem dX12_longest_39 : decode cX12_longest 39 = .ok (.invokevirtual 458, 3) := by decide +kernel
theorem dX12_longest_42 : decode cX12_longest 42 = .ok (.istore 4, 2) := by decide +kernel
theorem dX12_longest_44 : decode cX12_longest 44 = .ok (.iload 4, 2) := by decide +kernel
theorem dX12_longest_46 : decode cX12_longest 46 = .ok (.iload_n 2, 1) := by decide +kernel
theorem dX12_longest_47 : decode cX12_longest 47 = .ok (.if_icmp .le 6, 3) := by decide +kernel
theorem dX12_longest_50 : decode cX12_longest 50 = .ok (.iload 4, 2) := by decide +kernel
theorem dX12_longest_52 : decode cX12_longest 52 = .ok (.istore_n 2, 1) := by decide +kernel
theorem dX12_longest_53 : decode cX12_longest 53 = .ok (.iinc 3 1, 3) := by decide +kernel
theorem dX12_longest_56 : decode cX12_longest 56 = .ok (.goto (-33), 3) := by decide +kernel
theorem dX12_longest_59 : decode cX12_longest 59 = .ok (.iload_n 2, 1) := by decide +kernel
theorem dX12_longest_60 : decode cX12_longest 60 = .ok (.ireturn, 1) := by decide +kernel
theorem dX12_look_0 : decode cX12_look 0 = .ok (.aload_n 0, 1) := by decide +kernel
theorem dX12_look_1 : decode cX12_look 1 = .ok (.getfield 188, 3) := by decide +kernel
theorem dX12_look_4 : decode cX12_look 4 = .ok (.aload_n 0, 1) := by decide +kernel
theorem dX12_look_5 : decode cX12_look 5 = .ok (.getfield 185, 3) := by decide +kernel
theorem dX12_look_8 : decode cX12_look 8 = .ok (.if_icmp .ge 44, 3) := by decide +kernel
theorem dX12_look_11 : decode cX12_look 11 = .ok (.aload_n 0, 1) := by decide +kernel
theorem dX12_look_12 : decode cX12_look 12 = .ok (.getfield 7, 3) := by decide +kernel
theorem dX12_look_15 : decode cX12_look 15 = .ok (.aload_n 0, 1) := by decide +kernel
theorem dX12_look_16 : decode cX12_look 16 = .ok (.getfield 188, 3) := by decide +kernel
theorem dX12_look_19 : decode cX12_look 19 = .ok (.iaload, 1) := by decide +kernel
theorem dX12_look_20 : decode cX12_look 20 = .ok (.bipush 10, 2) := by decide +kernel
theorem dX12_look_22 : decode cX12_look 22 = .ok (.if_icmp .eq 17, 3) := by decide +kernel
theorem dX12_look_25 : decode cX12_look 25 = .ok (.aload_n 0, 1) := by decide +kernel
theorem dX12_look_26 : decode cX12_look 26 = .ok (.getfield 7, 3) := by decide +kernel
theorem dX12_look_29 : decode cX12_look 29 = .ok (.aload_n 0, 1) := by decide +kernel
theorem dX12_look_30 : decode cX12_look 30 = .ok (.getfield 188, 3) := by decide +kernel
theorem dX12_look_33 : decode cX12_look 33 = .ok (.iaload, 1) := by decide +kernel
theorem dX12_look_34 : decode cX12_look 34 = .ok (.bipush 32, 2) := by decide +kernel
theorem dX12_look_36 : decode cX12_look 36 = .ok (.if_icmp .ne 16, 3) := by decide +kernel
theorem dX12_look_39 : decode cX12_look 39 = .ok (.aload_n 0, 1) := by decide +kernel
theorem dX12_look_40 : decode cX12_look 40 = .ok (.dup, 1) := by decide +kernel
theorem dX12_look_41 : decode cX12_look 41 = .ok (.getfield 188, 3) := by decide +kernel
theorem dX12_look_44 : decode cX12_look 44 = .ok (.iconst 1, 1) := by decide +kernel
theorem dX12_look_45 : decode cX12_look 45 = .ok (.iadd, 1) := by decide +kernel
theorem dX12_look_46 : decode cX12_look 46 = .ok (.putfield 188, 3) := by decide +kernel
theorem dX12_look_49 : decode cX12_look 49 = .ok (.goto (-49), 3) := by decide +kernel
theorem dX12_look_52 : decode cX12_look 52 = .ok (.aload_n 0, 1) := by decide +kernel
theorem dX12_look_53 : decode cX12_look 53 = .ok (.getfield 188, 3) := by decide +kernel
theorem dX12_look_56 : decode cX12_look 56 = .ok (.aload_n 0, 1) := by decide +kernel
theorem dX12_look_57 : decode cX12_look 57 = .ok (.getfield 185, 3) := by decide +kernel
theorem dX12_look_60 : decode cX12_look 60 = .ok (.if_icmp .ge 15, 3) := by decide +kernel
theorem dX12_look_63 : decode cX12_look 63 = .ok (.aload_n 0, 1) := by decide +kernel
theorem dX12_look_64 : decode cX12_look 64 = .ok (.getfield 7, 3) := by decide +kernel
theorem dX12_look_67 : decode cX12_look 67 = .ok (.aload_n 0, 1) := by decide +kernel
theorem dX12_look_68 : decode cX12_look 68 = .ok (.getfield 188, 3) := by decide +kernel
theorem dX12_look_71 : decode cX12_look 71 = .ok (.iaload, 1) := by decide +kernel
theorem dX12_look_72 : decode cX12_look 72 = .ok (.goto 4, 3) := by decide +kernel
theorem dX12_look_75 : decode cX12_look 75 = .ok (.iconst (-1), 1) := by decide +kernel
theorem dX12_look_76 : decode cX12_look 76 = .ok (.ireturn, 1) := by decide +kernel
theorem dX12_lowest_0 : decode cX12_lowest 0 = .ok (.aload_n 0, 1) := by decide +kernel
theorem dX12_lowest_1 : decode cX12_lowest 1 = .ok (.getfield 372, 3) := by decide +kernel
theorem dX12_lowest_4 : decode cX12_lowest 4 = .ok (.ifCond .ne 10, 3) := by decide +kernel
theorem dX12_lowest_7 : decode cX12_lowest 7 = .ok (.aload_n 0, 1) := by decide +kernel
theorem dX12_lowest_8 : decode cX12_lowest 8 = .ok (.getfield 325, 3) := by decide +kernel
theorem dX12_lowest_11 : decode cX12_lowest 11 = .ok (.goto 12, 3) := by decide +kernel
theorem dX12_lowest_14 : decode cX12_lowest 14 = .ok (.aload_n 0, 1) := by decide +kernel
theorem dX12_lowest_15 : decode cX12_lowest 15 = .ok (.getfield 325, 3) := by decide +kernel
theorem dX12_lowest_18 : decode cX12_lowest 18 = .ok (.aload_n 0, 1) := by decide +kernel
theorem dX12_lowest_19 : decode cX12_lowest 19 = .ok (.getfield 372, 3) := by decide +kernel
theorem dX12_lowest_22 : decode cX12_lowest 22 = .ok (.isub, 1) := by decide +kernel
theorem dX12_lowest_23 : decode cX12_lowest 23 = .ok (.ireturn, 1) := by decide +kernel
theorem dX12_marks_0 : decode cX12_marks 0 = .ok (.iconst 0, 1) := by decide +kernel
theorem dX12_marks_1 : decode cX12_marks 1 = .ok (.istore_n 3, 1) := by decide +kernel
theorem dX12_marks_2 : decode cX12_marks 2 = .ok (.iload_n 3, 1) := by decide +kernel
theorem dX12_marks_3 : decode cX12_marks 3 = .ok (.aload_n 0, 1) := by decide +kernel
theorem dX12_marks_4 : decode cX12_marks 4 = .ok (.getfield 343, 3) := by decide +kernel
theorem dX12_marks_7 : decode cX12_marks 7 = .ok (.if_icmp .ge 16, 3) := by decide +kernel
theorem dX12_marks_10 : decode cX12_marks 10 = .ok (.aload_n 0, 1) := by decide +kernel
theorem dX12_marks_11 : decode cX12_marks 11 = .ok (.getfield 93, 3) := by decide +kernel
theorem dX12_marks_14 : decode cX12_marks 14 = .ok (.iload_n 3, 1) := by decide +kernel
theorem dX12_marks_15 : decode cX12_marks 15 = .ok (.iconst 0, 1) := by decide +kernel
theorem dX12_marks_16 : decode cX12_marks 16 = .ok (.bastore, 1) := by decide +kernel
theorem dX12_marks_17 : decode cX12_marks 17 = .ok (.iinc 3 1, 3) := by decide +kernel
theorem dX12_marks_20 : decode cX12_marks 20 = .ok (.goto (-18), 3) := by decide +kernel
theorem dX12_marks_23 : decode cX12_marks 23 = .ok (.iconst 0, 1) := by decide +kernel
theorem dX12_marks_24 : decode cX12_marks 24 = .ok (.istore_n 3, 1) := by decide +kernel
theorem dX12_marks_25 : decode cX12_marks 25 = .ok (.iload_n 3, 1) := by decide +kernel
theorem dX12_marks_26 : decode cX12_marks 26 = .ok (.bipush 8, 2) := by decide +kernel
theorem dX12_marks_28 : decode cX12_marks 28 = .ok (.if_icmp .ge 39, 3) := by decide +kernel
theorem dX12_marks_31 : decode cX12_marks 31 = .ok (.iload_n 3, 1) := by decide +kernel
theorem dX12_marks_32 : decode cX12_marks 32 = .ok (.iload_n 1, 1) := by decide +kernel
theorem dX12_marks_33 : decode cX12_marks 33 = .ok (.if_icmp .eq 28, 3) := by decide +kernel
theorem dX12_marks_36 : decode cX12_marks 36 = .ok (.aload_n 0, 1) := by decide +kernel
theorem dX12_marks_37 : decode cX12_marks 37 = .ok (.iload_n 3, 1) := by decide +kernel
theorem dX12_marks_38 : decode cX12_marks 38 = .ok (.bipush 8, 2) := by decide +kernel
theorem dX12_marks_40 : decode cX12_marks 40 = .ok (.isub, 1) := by decide +kernel
theorem dX12_marks_41 : decode cX12_marks 41 = .ok (.invokevirtual 359, 3) := by decide +kernel
theorem dX12_marks_44 : decode cX12_marks 44 = .ok (.iload_n 2, 1) := by decide +kernel
theorem dX12_marks_45 : decode cX12_marks 45 = .ok (.if_icmp .eq 16, 3) := by decide +kernel
theorem dX12_marks_48 : decode cX12_marks 48 = .ok (.aload_n 0, 1) := by decide +kernel
theorem dX12_marks_49 : decode cX12_marks 49 = .ok (.aload_n 0, 1) := by decide +kernel
theorem dX12_marks_50 : decode cX12_marks 50 = .ok (.iload_n 3, 1) := by decide +kernel
theorem dX12_marks_51 : decode cX12_marks 51 = .ok (.bipush 8, 2) := by decide +kernel
theorem dX12_marks_53 : decode cX12_marks 53 = .ok (.isub, 1) := by decide +kernel
theorem dX12_marks_54 : decode cX12_marks 54 = .ok (.invokevirtual 359, 3) := by decide +kernel
theorem dX12_marks_57 : decode cX12_marks 57 = .ok (.invokevirtual 362, 3) := by decide +kernel
theorem dX12_marks_60 : decode cX12_marks 60 = .ok (.pop, 1) := by decide +kernel
theorem dX12_marks_61 : decode cX12_marks 61 = .ok (.iinc 3 1, 3) := by decide +kernel
theorem dX12_marks_64 : decode cX12_marks 64 = .ok (.goto (-39), 3) := by decide +kernel
theorem dX12_marks_67 : decode cX12_marks 67 = .ok (.iconst 1, 1) := by decide +kernel
theorem dX12_marks_68 : decode cX12_marks 68 = .ok (.istore_n 3, 1) := by decide +kernel
theorem dX12_marks_69 : decode cX12_marks 69 = .ok (.iload_n 3, 1) := by decide +kernel
theorem dX12_marks_70 : decode cX12_marks 70 = .ok (.ifCond .eq 46, 3) := by decide +kernel
theorem dX12_marks_73 : decode cX12_marks 73 = .ok (.iconst 0, 1) := by decide +kernel
theorem dX12_marks_74 : decode cX12_marks 74 = .ok (.istore_n 3, 1) := by decide +kernel
theorem dX12_marks_75 : decode cX12_marks 75 = .ok (.iconst 0, 1) := by decide +kernel
theorem dX12_marks_76 : decode cX12_marks 76 = .ok (.istore 4, 2) := by decide +kernel
theorem dX12_marks_78 : decode cX12_marks 78 = .ok (.iload 4, 2) := by decide +kernel
theorem dX12_marks_80 : decode cX12_marks 80 = .ok (.aload_n 0, 1) := by decide +kernel
theorem dX12_marks_81 : decode cX12_marks 81 = .ok (.getfield 343, 3) := by decide +kernel
theorem dX12_marks_84 : decode cX12_marks 84 = .ok (.if_icmp .ge 29, 3) := by decide +kernel
theorem dX12_marks_87 : decode cX12_marks 87 = .ok (.aload_n 0, 1) := by decide +kernel
theorem dX12_marks_88 : decode cX12_marks 88 = .ok (.getfield 93, 3) := by decide +kernel
theorem dX12_marks_91 : decode cX12_marks 91 = .ok (.iload 4, 2) := by decide +kernel
theorem dX12_marks_93 : decode cX12_marks 93 = .ok (.baload, 1) := by decide +kernel
theorem dX12_marks_94 : decode cX12_marks 94 = .ok (.ifCond .eq 13, 3) := by decide +kernel
theorem dX12_marks_97 : decode cX12_marks 97 = .ok (.iload_n 3, 1) := by decide +kernel
theorem dX12_marks_98 : decode cX12_marks 98 = .ok (.aload_n 0, 1) := by decide +kernel
theorem dX12_marks_99 : decode cX12_marks 99 = .ok (.iload 4, 2) := by decide +kernel
theorem dX12_marks_101 : decode cX12_marks 101 = .ok (.iload_n 2, 1) := by decide +kernel
theorem dX12_marks_102 : decode cX12_marks 102 = .ok (.invokevirtual 365, 3) := by decide +kernel
theorem dX12_marks_105 : decode cX12_marks 105 = .ok (.ior, 1) := by decide +kernel
theorem dX12_marks_106 : decode cX12_marks 106 = .ok (.istore_n 3, 1) := by decide +kernel
theorem dX12_marks_107 : decode cX12_marks 107 = .ok (.iinc 4 1, 3) := by decide +kernel
theorem dX12_marks_110 : decode cX12_marks 110 = .ok (.goto (-32), 3) := by decide +kernel
theorem dX12_marks_113 : decode cX12_marks 113 = .ok (.goto (-44), 3) := by decide +kernel
theorem dX12_marks_116 : decode cX12_marks 116 = .ok (.return_, 1) := by decide +kernel
theorem dX12_marksFrom_0 : decode cX12_marksFrom 0 = .ok (.iconst 0, 1) := by decide +kernel
theorem dX12_marksFrom_1 : decode cX12_marksFrom 1 = .ok (.istore_n 3, 1) := by decide +kernel
theorem dX12_marksFrom_2 : decode cX12_marksFrom 2 = .ok (.iconst 0, 1) := by decide +kernel
theorem dX12_marksFrom_3 : decode cX12_marksFrom 3 = .ok (.istore 4, 2) := by decide +kernel
theorem dX12_marksFrom_5 : decode cX12_marksFrom 5 = .ok (.iload 4, 2) := by decide +kernel
theorem dX12_marksFrom_7 : decode cX12_marksFrom 7 = .ok (.aload_n 0, 1) := by decide +kernel
theorem dX12_marksFrom_8 : decode cX12_marksFrom 8 = .ok (.aload_n 0, 1) := by decide +kernel
theorem dX12_marksFrom_9 : decode cX12_marksFrom 9 = .ok (.iload_n 1, 1) := by decide +kernel
theorem dX12_marksFrom_10 : decode cX12_marksFrom 10 = .ok (.invokevirtual 353, 3) := by decide +kernel
theorem dX12_marksFrom_13 : decode cX12_marksFrom 13 = .ok (.invokevirtual 234, 3) := by decide +kernel
theorem dX12_marksFrom_16 : decode cX12_marksFrom 16 = .ok (.if_icmp .ge 35, 3) := by decide +kernel
theorem dX12_marksFrom_19 : decode cX12_marksFrom 19 = .ok (.aload_n 0, 1) := by decide +kernel
theorem dX12_marksFrom_20 : decode cX12_marksFrom 20 = .ok (.iload_n 1, 1) := by decide +kernel
theorem dX12_marksFrom_21 : decode cX12_marksFrom 21 = .ok (.iload 4, 2) := by decide +kernel
theorem dX12_marksFrom_23 : decode cX12_marksFrom 23 = .ok (.invokevirtual 369, 3) := by decide +kernel
theorem dX12_marksFrom_26 : decode cX12_marksFrom 26 = .ok (.istore 5, 2) := by decide +kernel
theorem dX12_marksFrom_28 : decode cX12_marksFrom 28 = .ok (.iload 5, 2) := by decide +kernel
theorem dX12_marksFrom_30 : decode cX12_marksFrom 30 = .ok (.iload_n 2, 1) := by decide +kernel
theorem dX12_marksFrom_31 : decode cX12_marksFrom 31 = .ok (.if_icmp .eq 14, 3) := by decide +kernel
theorem dX12_marksFrom_34 : decode cX12_marksFrom 34 = .ok (.aload_n 0, 1) := by decide +kernel
theorem dX12_marksFrom_35 : decode cX12_marksFrom 35 = .ok (.iload 5, 2) := by decide +kernel
theorem dX12_marksFrom_37 : decode cX12_marksFrom 37 = .ok (.invokevirtual 362, 3) := by decide +kernel
theorem dX12_marksFrom_40 : decode cX12_marksFrom 40 = .ok (.ifCond .eq 5, 3) := by decide +kernel
theorem dX12_marksFrom_43 : decode cX12_marksFrom 43 = .ok (.iconst 1, 1) := by decide +kernel
theorem dX12_marksFrom_44 : decode cX12_marksFrom 44 = .ok (.istore_n 3, 1) := by decide +kernel
theorem dX12_marksFrom_45 : decode cX12_marksFrom 45 = .ok (.iinc 4 1, 3) := by decide +kernel
theorem dX12_marksFrom_48 : decode cX12_marksFrom 48 = .ok (.goto (-43), 3) := by decide +kernel
theorem dX12_marksFrom_51 : decode cX12_marksFrom 51 = .ok (.iload_n 3, 1) := by decide +kernel
theorem dX12_marksFrom_52 : decode cX12_marksFrom 52 = .ok (.ireturn, 1) := by decide +kernel
theorem dX12_measures_0 : decode cX12_measures 0 = .ok (.iconst 0, 1) := by decide +kernel
theorem dX12_measures_1 : decode cX12_measures 1 = .ok (.istore_n 1, 1) := by decide +kernel
theorem dX12_measures_2 : decode cX12_measures 2 = .ok (.iload_n 1, 1) := by decide +kernel
theorem dX12_measures_3 : decode cX12_measures 3 = .ok (.aload_n 0, 1) := by decide +kernel
theorem dX12_measures_4 : decode cX12_measures 4 = .ok (.getfield 343, 3) := by decide +kernel
theorem dX12_measures_7 : decode cX12_measures 7 = .ok (.if_icmp .ge 18, 3) := by decide +kernel
theorem dX12_measures_10 : decode cX12_measures 10 = .ok (.aload_n 0, 1) := by decide +kernel
theorem dX12_measures_11 : decode cX12_measures 11 = .ok (.getfield 109, 3) := by decide +kernel
theorem dX12_measures_14 : decode cX12_measures 14 = .ok (.iload_n 1, 1) := by decide +kernel
theorem dX12_measures_15 : decode cX12_measures 15 = .ok (.sipush 1000, 3) := by decide +kernel
theorem dX12_measures_18 : decode cX12_measures 18 = .ok (.iastore, 1) := by decide +kernel
theorem dX12_measures_19 : decode cX12_measures 19 = .ok (.iinc 1 1, 3) := by decide +kernel
theorem dX12_measures_22 : decode cX12_measures 22 = .ok (.goto (-20), 3) := by decide +kernel
theorem dX12_measures_25 : decode cX12_measures 25 = .ok (.bipush (-8), 2) := by decide +kernel
theorem dX12_measures_27 : decode cX12_measures 27 = .ok (.istore_n 1, 1) := by decide +kernel
theorem dX12_measures_28 : decode cX12_measures 28 = .ok (.iload_n 1, 1) := by decide +kernel
theorem dX12_measures_29 : decode cX12_measures 29 = .ok (.ifCond .ge 29, 3) := by decide +kernel
theorem dX12_measures_32 : decode cX12_measures 32 = .ok (.aload_n 0, 1) := by decide +kernel
theorem dX12_measures_33 : decode cX12_measures 33 = .ok (.iload_n 1, 1) := by decide +kernel
theorem dX12_measures_34 : decode cX12_measures 34 = .ok (.invokevirtual 359, 3) := by decide +kernel
theorem dX12_measures_37 : decode cX12_measures 37 = .ok (.iconst (-1), 1) := by decide +kernel
theorem dX12_measures_38 : decode cX12_measures 38 = .ok (.if_icmp .eq 14, 3) := by decide +kernel
theorem dX12_measures_41 : decode cX12_measures 41 = .ok (.aload_n 0, 1) := by decide +kernel
theorem dX12_measures_42 : decode cX12_measures 42 = .ok (.getfield 109, 3) := by decide +kernel
theorem dX12_measures_45 : decode cX12_measures 45 = .ok (.aload_n 0, 1) := by decide +kernel
theorem dX12_measures_46 : decode cX12_measures 46 = .ok (.iload_n 1, 1) := by decide +kernel
theorem dX12_measures_47 : decode cX12_measures 47 = .ok (.invokevirtual 359, 3) := by decide +kernel
theorem dX12_measures_50 : decode cX12_measures 50 = .ok (.iconst 0, 1) := by decide +kernel
theorem dX12_measures_51 : decode cX12_measures 51 = .ok (.iastore, 1) := by decide +kernel
theorem dX12_measures_52 : decode cX12_measures 52 = .ok (.iinc 1 1, 3) := by decide +kernel
theorem dX12_measures_55 : decode cX12_measures 55 = .ok (.goto (-27), 3) := by decide +kernel
theorem dX12_measures_58 : decode cX12_measures 58 = .ok (.iconst 1, 1) := by decide +kernel
theorem dX12_measures_59 : decode cX12_measures 59 = .ok (.istore_n 1, 1) := by decide +kernel
theorem dX12_measures_60 : decode cX12_measures 60 = .ok (.iload_n 1, 1) := by decide +kernel
theorem dX12_measures_61 : decode cX12_measures 61 = .ok (.ifCond .eq 44, 3) := by decide +kernel
theorem dX12_measures_64 : decode cX12_measures 64 = .ok (.iconst 0, 1) := by decide +kernel
theorem dX12_measures_65 : decode cX12_measures 65 = .ok (.istore_n 1, 1) := by decide +kernel
theorem dX12_measures_66 : decode cX12_measures 66 = .ok (.iconst 0, 1) := by decide +kernel
theorem dX12_measures_67 : decode cX12_measures 67 = .ok (.istore_n 2, 1) := by decide +kernel
theorem dX12_measures_68 : decode cX12_measures 68 = .ok (.iload_n 2, 1) := by decide +kernel
theorem dX12_measures_69 : decode cX12_measures 69 = .ok (.aload_n 0, 1) := by decide +kernel
theorem dX12_measures_70 : decode cX12_measures 70 = .ok (.getfield 343, 3) := by decide +kernel
theorem dX12_measures_73 : decode cX12_measures 73 = .ok (.if_icmp .ge 29, 3) := by decide +kernel
theorem dX12_measures_76 : decode cX12_measures 76 = .ok (.aload_n 0, 1) := by decide +kernel
theorem dX12_measures_77 : decode cX12_measures 77 = .ok (.getfield 109, 3) := by decide +kernel
theorem dX12_measures_80 : decode cX12_measures 80 = .ok (.iload_n 2, 1) := by decide +kernel
theorem dX12_measures_81 : decode cX12_measures 81 = .ok (.iaload, 1) := by decide +kernel
theorem dX12_measures_82 : decode cX12_measures 82 = .ok (.sipush 1000, 3) := by decide +kernel
theorem dX12_measures_85 : decode cX12_measures 85 = .ok (.if_icmp .ge 11, 3) := by decide +kernel
theorem dX12_measures_88 : decode cX12_measures 88 = .ok (.iload_n 1, 1) := by decide +kernel
theorem dX12_measures_89 : decode cX12_measures 89 = .ok (.aload_n 0, 1) := by decide +kernel
theorem dX12_measures_90 : decode cX12_measures 90 = .ok (.iload_n 2, 1) := by decide +kernel
theorem dX12_measures_91 : decode cX12_measures 91 = .ok (.invokevirtual 461, 3) := by decide +kernel
theorem dX12_measures_94 : decode cX12_measures 94 = .ok (.ior, 1) := by decide +kernel
theorem dX12_measures_95 : decode cX12_measures 95 = .ok (.istore_n 1, 1) := by decide +kernel
theorem dX12_measures_96 : decode cX12_measures 96 = .ok (.iinc 2 1, 3) := by decide +kernel
theorem dX12_measures_99 : decode cX12_measures 99 = .ok (.goto (-31), 3) := by decide +kernel
theorem dX12_measures_102 : decode cX12_measures 102 = .ok (.goto (-42), 3) := by decide +kernel
theorem dX12_measures_105 : decode cX12_measures 105 = .ok (.return_, 1) := by decide +kernel
theorem dX12_method_0 : decode cX12_method 0 = .ok (.aload_n 0, 1) := by decide +kernel
theorem dX12_method_1 : decode cX12_method 1 = .ok (.invokevirtual 541, 3) := by decide +kernel
theorem dX12_method_4 : decode cX12_method 4 = .ok (.ifCond .eq 23, 3) := by decide +kernel
theorem dX12_method_7 : decode cX12_method 7 = .ok (.iload_n 1, 1) := by decide +kernel
theorem dX12_method_8 : decode cX12_method 8 = .ok (.i2l, 1) := by decide +kernel
theorem dX12_method_9 : decode cX12_method 9 = .ok (.lconst 0, 1) := by decide +kernel
theorem dX12_method_10 : decode cX12_method 10 = .ok (.lconst 1, 1) := by decide +kernel
theorem dX12_method_11 : decode cX12_method 11 = .ok (.invokestatic 178, 3) := by decide +kernel
theorem dX12_method_14 : decode cX12_method 14 = .ok (.ifCond .eq 13, 3) := by decide +kernel
theorem dX12_method_17 : decode cX12_method 17 = .ok (.aload_n 0, 1) := by decide +kernel
theorem dX12_method_18 : decode cX12_method 18 = .ok (.getfield 78, 3) := by decide +kernel
theorem dX12_method_21 : decode cX12_method 21 = .ok (.iconst 0, 1) := by decide +kernel
theorem dX12_method_22 : decode cX12_method 22 = .ok (.iaload, 1) := by decide +kernel
theorem dX12_method_23 : decode cX12_method 23 = .ok (.iload_n 1, 1) := by decide +kernel
theorem dX12_method_24 : decode cX12_method 24 = .ok (.if_icmp .ne 9, 3) := by decide +kernel
theorem dX12_method_27 : decode cX12_method 27 = .ok (.aload_n 0, 1) := by decide +kernel
theorem dX12_method_28 : decode cX12_method 28 = .ok (.iconst 3, 1) := by decide +kernel
theorem dX12_method_29 : decode cX12_method 29 = .ok (.invokevirtual 172, 3) := by decide +kernel
theorem dX12_method_32 : decode cX12_method 32 = .ok (.ireturn, 1) := by decide +kernel
theorem dX12_method_33 : decode cX12_method 33 = .ok (.aload_n 0, 1) := by decide +kernel
theorem dX12_method_34 : decode cX12_method 34 = .ok (.invokevirtual 544, 3) := by decide +kernel
theorem dX12_method_37 : decode cX12_method 37 = .ok (.aload_n 0, 1) := by decide +kernel
theorem dX12_method_38 : decode cX12_method 38 = .ok (.getfield 78, 3) := by decide +kernel
theorem dX12_method_41 : decode cX12_method 41 = .ok (.iconst 0, 1) := by decide +kernel
theorem dX12_method_42 : decode cX12_method 42 = .ok (.iload_n 1, 1) := by decide +kernel
theorem dX12_method_43 : decode cX12_method 43 = .ok (.iastore, 1) := by decide +kernel
theorem dX12_method_44 : decode cX12_method 44 = .ok (.iconst 1, 1) := by decide +kernel
theorem dX12_method_45 : decode cX12_method 45 = .ok (.ireturn, 1) := by decide +kernel
theorem dX12_mostAlike_0 : decode cX12_mostAlike 0 = .ok (.iconst 0, 1) := by decide +kernel
theorem dX12_mostAlike_1 : decode cX12_mostAlike 1 = .ok (.istore_n 2, 1) := by decide +kernel
theorem dX12_mostAlike_2 : decode cX12_mostAlike 2 = .ok (.iconst 0, 1) := by decide +kernel
theorem dX12_mostAlike_3 : decode cX12_mostAlike 3 = .ok (.istore_n 3, 1) := by decide +kernel
theorem dX12_mostAlike_4 : decode cX12_mostAlike 4 = .ok (.iload_n 3, 1) := by decide +kernel
theorem dX12_mostAlike_5 : decode cX12_mostAlike 5 = .ok (.sipush 9600, 3) := by decide +kernel
theorem dX12_mostAlike_8 : decode cX12_mostAlike 8 = .ok (.if_icmp .ge 16, 3) := by decide +kernel
theorem dX12_mostAlike_11 : decode cX12_mostAlike 11 = .ok (.aload_n 0, 1) := by decide +kernel
theorem dX12_mostAlike_12 : decode cX12_mostAlike 12 = .ok (.getfield 137, 3) := by decide +kernel
theorem dX12_mostAlike_15 : decode cX12_mostAlike 15 = .ok (.iload_n 3, 1) := by decide +kernel
theorem dX12_mostAlike_16 : decode cX12_mostAlike 16 = .ok (.iconst 0, 1) := by decide +kernel
theorem dX12_mostAlike_17 : decode cX12_mostAlike 17 = .ok (.iastore, 1) := by decide +kernel
theorem dX12_mostAlike_18 : decode cX12_mostAlike 18 = .ok (.iinc 3 1, 3) := by decide +kernel
theorem dX12_mostAlike_21 : decode cX12_mostAlike 21 = .ok (.goto (-17), 3) := by decide +kernel
theorem dX12_mostAlike_24 : decode cX12_mostAlike 24 = .ok (.iconst 0, 1) := by decide +kernel
theorem dX12_mostAlike_25 : decode cX12_mostAlike 25 = .ok (.istore_n 3, 1) := by decide +kernel
theorem dX12_mostAlike_26 : decode cX12_mostAlike 26 = .ok (.iload_n 3, 1) := by decide +kernel
theorem dX12_mostAlike_27 : decode cX12_mostAlike 27 = .ok (.aload_n 0, 1) := by decide +kernel
theorem dX12_mostAlike_28 : decode cX12_mostAlike 28 = .ok (.invokevirtual 526, 3) := by decide +kernel
theorem dX12_mostAlike_31 : decode cX12_mostAlike 31 = .ok (.if_icmp .gt 65, 3) := by decide +kernel
theorem dX12_mostAlike_34 : decode cX12_mostAlike 34 = .ok (.aload_n 0, 1) := by decide +kernel
theorem dX12_mostAlike_35 : decode cX12_mostAlike 35 = .ok (.getfield 130, 3) := by decide +kernel
theorem dX12_mostAlike_38 : decode cX12_mostAlike 38 = .ok (.iload_n 3, 1) := by decide +kernel
theorem dX12_mostAlike_39 : decode cX12_mostAlike 39 = .ok (.baload, 1) := by decide +kernel
theorem dX12_mostAlike_40 : decode cX12_mostAlike 40 = .ok (.ifCond .ne 6, 3) := by decide +kernel
theorem dX12_mostAlike_43 : decode cX12_mostAlike 43 = .ok (.goto 47, 3) := by decide +kernel
theorem dX12_mostAlike_46 : decode cX12_mostAlike 46 = .ok (.aload_n 0, 1) := by decide +kernel
theorem dX12_mostAlike_47 : decode cX12_mostAlike 47 = .ok (.getfield 134, 3) := by decide +kernel
theorem dX12_mostAlike_50 : decode cX12_mostAlike 50 = .ok (.sipush 160, 3) := by decide +kernel
theorem dX12_mostAlike_53 : decode cX12_mostAlike 53 = .ok (.iload_n 3, 1) := by decide +kernel
theorem dX12_mostAlike_54 : decode cX12_mostAlike 54 = .ok (.imul, 1) := by decide +kernel
theorem dX12_mostAlike_55 : decode cX12_mostAlike 55 = .ok (.iload_n 1, 1) := by decide +kernel
theorem dX12_mostAlike_56 : decode cX12_mostAlike 56 = .ok (.iadd, 1) := by decide +kernel
theorem dX12_mostAlike_57 : decode cX12_mostAlike 57 = .ok (.iaload, 1) := by decide +kernel
theorem dX12_mostAlike_58 : decode cX12_mostAlike 58 = .ok (.istore 4, 2) := by decide +kernel
theorem dX12_mostAlike_60 : decode cX12_mostAlike 60 = .ok (.aload_n 0, 1) := by decide +kernel
theorem dX12_mostAlike_61 : decode cX12_mostAlike 61 = .ok (.getfield 137, 3) := by decide +kernel
theorem dX12_mostAlike_64 : decode cX12_mostAlike 64 = .ok (.iload 4, 2) := by decide +kernel
theorem dX12_mostAlike_66 : decode cX12_mostAlike 66 = .ok (.dup2, 1) := by decide +kernel
theorem dX12_mostAlike_67 : decode cX12_mostAlike 67 = .ok (.iaload, 1) := by decide +kernel
theorem dX12_mostAlike_68 : decode cX12_mostAlike 68 = .ok (.iconst 1, 1) := by decide +kernel
theorem dX12_mostAlike_69 : decode cX12_mostAlike 69 = .ok (.iadd, 1) := by decide +kernel
theorem dX12_mostAlike_70 : decode cX12_mostAlike 70 = .ok (.iastore, 1) := by decide +kernel
theorem dX12_mostAlike_71 : decode cX12_mostAlike 71 = .ok (.aload_n 0, 1) := by decide +kernel
theorem dX12_mostAlike_72 : decode cX12_mostAlike 72 = .ok (.getfield 137, 3) := by decide +kernel
theorem dX12_mostAlike_75 : decode cX12_mostAlike 75 = .ok (.iload 4, 2) := by decide +kernel
theorem dX12_mostAlike_77 : decode cX12_mostAlike 77 = .ok (.iaload, 1) := by decide +kernel
theorem dX12_mostAlike_78 : decode cX12_mostAlike 78 = .ok (.iload_n 2, 1) := by decide +kernel
theorem dX12_mostAlike_79 : decode cX12_mostAlike 79 = .ok (.if_icmp .le 11, 3) := by decide +kernel
theorem dX12_mostAlike_82 : decode cX12_mostAlike 82 = .ok (.aload_n 0, 1) := by decide +kernel
theorem dX12_mostAlike_83 : decode cX12_mostAlike 83 = .ok (.getfield 137, 3) := by decide +kernel
theorem dX12_mostAlike_86 : decode cX12_mostAlike 86 = .ok (.iload 4, 2) := by decide +kernel
theorem dX12_mostAlike_88 : decode cX12_mostAlike 88 = .ok (.iaload, 1) := by decide +kernel
theorem dX12_mostAlike_89 : decode cX12_mostAlike 89 = .ok (.istore_n 2, 1) := by decide +kernel
theorem dX12_mostAlike_90 : decode cX12_mostAlike 90 = .ok (.iinc 3 1, 3) := by decide +kernel
theorem dX12_mostAlike_93 : decode cX12_mostAlike 93 = .ok (.goto (-67), 3) := by decide +kernel
theorem dX12_mostAlike_96 : decode cX12_mostAlike 96 = .ok (.iload_n 2, 1) := by decide +kernel
theorem dX12_mostAlike_97 : decode cX12_mostAlike 97 = .ok (.ireturn, 1) := by decide +kernel
theorem dX12_moves_0 : decode cX12_moves 0 = .ok (.aload_n 0, 1) := by decide +kernel
theorem dX12_moves_1 : decode cX12_moves 1 = .ok (.getfield 340, 3) := by decide +kernel
theorem dX12_moves_4 : decode cX12_moves 4 = .ok (.ifCond .eq 4, 3) := by decide +kernel
theorem dX12_moves_7 : decode cX12_moves 7 = .ok (.return_, 1) := by decide +kernel
theorem dX12_moves_8 : decode cX12_moves 8 = .ok (.aload_n 0, 1) := by decide +kernel
theorem dX12_moves_9 : decode cX12_moves 9 = .ok (.getfield 613, 3) := by decide +kernel
theorem dX12_moves_12 : decode cX12_moves 12 = .ok (.iload_n 1, 1) := by decide +kernel
theorem dX12_moves_13 : decode cX12_moves 13 = .ok (.iadd, 1) := by decide +kernel
theorem dX12_moves_14 : decode cX12_moves 14 = .ok (.istore_n 3, 1) := by decide +kernel
theorem dX12_moves_15 : decode cX12_moves 15 = .ok (.aload_n 0, 1) := by decide +kernel
theorem dX12_moves_16 : decode cX12_moves 16 = .ok (.getfield 610, 3) := by decide +kernel
theorem dX12_moves_19 : decode cX12_moves 19 = .ok (.ifCond .ne 35, 3) := by decide +kernel
theorem dX12_moves_22 : decode cX12_moves 22 = .ok (.aload_n 0, 1) := by decide +kernel
theorem dX12_moves_23 : decode cX12_moves 23 = .ok (.iload_n 3, 1) := by decide +kernel
theorem dX12_moves_24 : decode cX12_moves 24 = .ok (.sipush 999, 3) := by decide +kernel
theorem dX12_moves_27 : decode cX12_moves 27 = .ok (.if_icmp .le 9, 3) := by decide +kernel
theorem dX12_moves_30 : decode cX12_moves 30 = .ok (.sipush 999, 3) := by decide +kernel
theorem dX12_moves_33 : decode cX12_moves 33 = .ok (.goto 17, 3) := by decide +kernel
theorem dX12_moves_36 : decode cX12_moves 36 = .ok (.iload_n 3, 1) := by decide +kernel
theorem dX12_moves_37 : decode cX12_moves 37 = .ok (.sipush (-999), 3) := by decide +kernel
theorem dX12_moves_40 : decode cX12_moves 40 = .ok (.if_icmp .ge 9, 3) := by decide +kernel
theorem dX12_moves_43 : decode cX12_moves 43 = .ok (.sipush (-999), 3) := by decide +kernel
theorem dX12_moves_46 : decode cX12_moves 46 = .ok (.goto 4, 3) := by decide +kernel
theorem dX12_moves_49 : decode cX12_moves 49 = .ok (.iload_n 3, 1) := by decide +kernel
theorem dX12_moves_50 : decode cX12_moves 50 = .ok (.putfield 613, 3) := by decide +kernel
theorem dX12_moves_53 : decode cX12_moves 53 = .ok (.return_, 1) := by decide +kernel
theorem dX12_moves_54 : decode cX12_moves 54 = .ok (.aload_n 0, 1) := by decide +kernel
theorem dX12_moves_55 : decode cX12_moves 55 = .ok (.getfield 613, 3) := by decide +kernel
theorem dX12_moves_58 : decode cX12_moves 58 = .ok (.iconst (-1), 1) := by decide +kernel
theorem dX12_moves_59 : decode cX12_moves 59 = .ok (.if_icmp .ne 7, 3) := by decide +kernel
theorem dX12_moves_62 : decode cX12_moves 62 = .ok (.iconst (-1), 1) := by decide +kernel
theorem dX12_moves_63 : decode cX12_moves 63 = .ok (.goto 11, 3) := by decide +kernel
theorem dX12_moves_66 : decode cX12_moves 66 = .ok (.aload_n 0, 1) := by decide +kernel
theorem dX12_moves_67 : decode cX12_moves 67 = .ok (.aload_n 0, 1) := by decide +kernel
theorem dX12_moves_68 : decode cX12_moves 68 = .ok (.getfield 613, 3) := by decide +kernel
theorem dX12_moves_71 : decode cX12_moves 71 = .ok (.invokevirtual 563, 3) := by decide +kernel
theorem dX12_moves_74 : decode cX12_moves 74 = .ok (.istore 4, 2) := by decide +kernel
theorem dX12_moves_76 : decode cX12_moves 76 = .ok (.iload 4, 2) := by decide +kernel
theorem dX12_moves_78 : decode cX12_moves 78 = .ok (.iconst (-1), 1) := by decide +kernel
theorem dX12_moves_79 : decode cX12_moves 79 = .ok (.if_icmp .eq 31, 3) := by decide +kernel
theorem dX12_moves_82 : decode cX12_moves 82 = .ok (.iload_n 3, 1) := by decide +kernel
theorem dX12_moves_83 : decode cX12_moves 83 = .ok (.i2l, 1) := by decide +kernel
theorem dX12_moves_84 : decode cX12_moves 84 = .ok (.iload 4, 2) := by decide +kernel
theorem dX12_moves_86 : decode cX12_moves 86 = .ok (.i2l, 1) := by decide +kernel
theorem dX12_moves_87 : decode cX12_moves 87 = .ok (.iload 4, 2) := by decide +kernel
theorem dX12_moves_89 : decode cX12_moves 89 = .ok (.aload_n 0, 1) := by decide +kernel
theorem dX12_moves_90 : decode cX12_moves 90 = .ok (.aload_n 0, 1) := by decide +kernel
theorem dX12_moves_91 : decode cX12_moves 91 = .ok (.getfield 78, 3) := by decide +kernel
theorem dX12_moves_94 : decode cX12_moves 94 = .ok (.iload 4, 2) := by decide +kernel
theorem dX12_moves_96 : decode cX12_moves 96 = .ok (.invokestatic 244, 3) := by decide +kernel
theorem dX12_moves_99 : decode cX12_moves 99 = .ok (.invokevirtual 234, 3) := by decide +kernel
theorem dX12_moves_102 : decode cX12_moves 102 = .ok (.iadd, 1) := by decide +kernel
theorem dX12_moves_103 : decode cX12_moves 103 = .ok (.i2l, 1) := by decide +kernel
theorem dX12_moves_104 : decode cX12_moves 104 = .ok (.invokestatic 178, 3) := by decide +kernel
theorem dX12_moves_107 : decode cX12_moves 107 = .ok (.ifCond .ne 12, 3) := by decide +kernel
theorem dX12_moves_110 : decode cX12_moves 110 = .ok (.aload_n 0, 1) := by decide +kernel
theorem dX12_moves_111 : decode cX12_moves 111 = .ok (.iconst 4, 1) := by decide +kernel
theorem dX12_moves_112 : decode cX12_moves 112 = .ok (.iload_n 2, 1) := by decide +kernel
theorem dX12_moves_113 : decode cX12_moves 113 = .ok (.invokevirtual 616, 3) := by decide +kernel
theorem dX12_moves_116 : decode cX12_moves 116 = .ok (.goto 8, 3) := by decide +kernel
theorem dX12_moves_119 : decode cX12_moves 119 = .ok (.aload_n 0, 1) := by decide +kernel
theorem dX12_moves_120 : decode cX12_moves 120 = .ok (.iload_n 3, 1) := by decide +kernel
theorem dX12_moves_121 : decode cX12_moves 121 = .ok (.putfield 613, 3) := by decide +kernel
theorem dX12_moves_124 : decode cX12_moves 124 = .ok (.return_, 1) := by decide +kernel
theorem dX12_name_0 : decode cX12_name 0 = .ok (.aload_n 0, 1) := by decide +kernel
theorem dX12_name_1 : decode cX12_name 1 = .ok (.getfield 194, 3) := by decide +kernel
theorem dX12_name_4 : decode cX12_name 4 = .ok (.ifCond .eq 5, 3) := by decide +kernel
theorem dX12_name_7 : decode cX12_name 7 = .ok (.iconst 0, 1) := by decide +kernel
theorem dX12_name_8 : decode cX12_name 8 = .ok (.ireturn, 1) := by decide +kernel
theorem dX12_name_9 : decode cX12_name 9 = .ok (.aload_n 0, 1) := by decide +kernel
theorem dX12_name_10 : decode cX12_name 10 = .ok (.invokevirtual 200, 3) := by decide +kernel
theorem dX12_name_13 : decode cX12_name 13 = .ok (.invokestatic 204, 3) := by decide +kernel
theorem dX12_name_16 : decode cX12_name 16 = .ok (.ifCond .eq 21, 3) := by decide +kernel
theorem dX12_name_19 : decode cX12_name 19 = .ok (.aload_n 0, 1) := by decide +kernel
theorem dX12_name_20 : decode cX12_name 20 = .ok (.getfield 188, 3) := by decide +kernel
theorem dX12_name_23 : decode cX12_name 23 = .ok (.aload_n 0, 1) := by decide +kernel
theorem dX12_name_24 : decode cX12_name 24 = .ok (.getfield 191, 3) := by decide +kernel
theorem dX12_name_27 : decode cX12_name 27 = .ok (.if_icmp .eq 10, 3) := by decide +kernel
theorem dX12_name_30 : decode cX12_name 30 = .ok (.aload_n 0, 1) := by decide +kernel
theorem dX12_name_31 : decode cX12_name 31 = .ok (.invokevirtual 228, 3) := by decide +kernel
theorem dX12_name_34 : decode cX12_name 34 = .ok (.ifCond .eq 14, 3) := by decide +kernel
theorem dX12_name_37 : decode cX12_name 37 = .ok (.aload_n 0, 1) := by decide +kernel
theorem dX12_name_38 : decode cX12_name 38 = .ok (.iconst 1, 1) := by decide +kernel
theorem dX12_name_39 : decode cX12_name 39 = .ok (.aload_n 0, 1) := by decide +kernel
theorem dX12_name_40 : decode cX12_name 40 = .ok (.getfield 188, 3) := by decide +kernel
theorem dX12_name_43 : decode cX12_name 43 = .ok (.invokevirtual 214, 3) := by decide +kernel
theorem dX12_name_46 : decode cX12_name 46 = .ok (.iconst 0, 1) := by decide +kernel
theorem dX12_name_47 : decode cX12_name 47 = .ok (.ireturn, 1) := by decide +kernel
theorem dX12_name_48 : decode cX12_name 48 = .ok (.aload_n 0, 1) := by decide +kernel
theorem dX12_name_49 : decode cX12_name 49 = .ok (.aload_n 0, 1) := by decide +kernel
theorem dX12_name_50 : decode cX12_name 50 = .ok (.getfield 188, 3) := by decide +kernel
theorem dX12_name_53 : decode cX12_name 53 = .ok (.putfield 231, 3) := by decide +kernel
theorem dX12_name_56 : decode cX12_name 56 = .ok (.iconst 0, 1) := by decide +kernel
theorem dX12_name_57 : decode cX12_name 57 = .ok (.istore_n 1, 1) := by decide +kernel
theorem dX12_name_58 : decode cX12_name 58 = .ok (.aload_n 0, 1) := by decide +kernel
theorem dX12_name_59 : decode cX12_name 59 = .ok (.getfield 188, 3) := by decide +kernel
theorem dX12_name_62 : decode cX12_name 62 = .ok (.aload_n 0, 1) := by decide +kernel
theorem dX12_name_63 : decode cX12_name 63 = .ok (.getfield 185, 3) := by decide +kernel
theorem dX12_name_66 : decode cX12_name 66 = .ok (.if_icmp .ge 76, 3) := by decide +kernel
theorem dX12_name_69 : decode cX12_name 69 = .ok (.aload_n 0, 1) := by decide +kernel
theorem dX12_name_70 : decode cX12_name 70 = .ok (.getfield 7, 3) := by decide +kernel
theorem dX12_name_73 : decode cX12_name 73 = .ok (.aload_n 0, 1) := by decide +kernel
theorem dX12_name_74 : decode cX12_name 74 = .ok (.getfield 188, 3) := by decide +kernel
theorem dX12_name_77 : decode cX12_name 77 = .ok (.iaload, 1) := by decide +kernel
theorem dX12_name_78 : decode cX12_name 78 = .ok (.invokestatic 204, 3) := by decide +kernel
theorem dX12_name_81 : decode cX12_name 81 = .ok (.ifCond .eq 61, 3) := by decide +kernel
theorem dX12_name_84 : decode cX12_name 84 = .ok (.aload_n 0, 1) := by decide +kernel
theorem dX12_name_85 : decode cX12_name 85 = .ok (.getfield 188, 3) := by decide +kernel
theorem dX12_name_88 : decode cX12_name 88 = .ok (.aload_n 0, 1) := by decide +kernel
theorem dX12_name_89 : decode cX12_name 89 = .ok (.getfield 231, 3) := by decide +kernel
theorem dX12_name_92 : decode cX12_name 92 = .ok (.isub, 1) := by decide +kernel
theorem dX12_name_93 : decode cX12_name 93 = .ok (.bipush 6, 2) := by decide +kernel
theorem dX12_name_95 : decode cX12_name 95 = .ok (.if_icmp .ne 14, 3) := by decide +kernel
theorem dX12_name_98 : decode cX12_name 98 = .ok (.aload_n 0, 1) := by decide +kernel
theorem dX12_name_99 : decode cX12_name 99 = .ok (.iconst 1, 1) := by decide +kernel
theorem dX12_name_100 : decode cX12_name 100 = .ok (.aload_n 0, 1) := by decide +kernel
theorem dX12_name_101 : decode cX12_name 101 = .ok (.getfield 188, 3) := by decide +kernel
theorem dX12_name_104 : decode cX12_name 104 = .ok (.invokevirtual 214, 3) := by decide +kernel
theorem dX12_name_107 : decode cX12_name 107 = .ok (.iconst 0, 1) := by decide +kernel
theorem dX12_name_108 : decode cX12_name 108 = .ok (.ireturn, 1) := by decide +kernel
theorem dX12_name_109 : decode cX12_name 109 = .ok (.bipush 27, 2) := by decide +kernel
theorem dX12_name_111 : decode cX12_name 111 = .ok (.iload_n 1, 1) := by decide +kernel
theorem dX12_name_112 : decode cX12_name 112 = .ok (.imul, 1) := by decide +kernel
theorem dX12_name_113 : decode cX12_name 113 = .ok (.aload_n 0, 1) := by decide +kernel
theorem dX12_name_114 : decode cX12_name 114 = .ok (.getfield 7, 3) := by decide +kernel
theorem dX12_name_117 : decode cX12_name 117 = .ok (.aload_n 0, 1) := by decide +kernel
theorem dX12_name_118 : decode cX12_name 118 = .ok (.getfield 188, 3) := by decide +kernel
theorem dX12_name_121 : decode cX12_name 121 = .ok (.iaload, 1) := by decide +kernel
theorem dX12_name_122 : decode cX12_name 122 = .ok (.iadd, 1) := by decide +kernel
theorem dX12_name_123 : decode cX12_name 123 = .ok (.bipush 97, 2) := by decide +kernel
theorem dX12_name_125 : decode cX12_name 125 = .ok (.isub, 1) := by decide +kernel
theorem dX12_name_126 : decode cX12_name 126 = .ok (.iconst 1, 1) := by decide +kernel
theorem dX12_name_127 : decode cX12_name 127 = .ok (.iadd, 1) := by decide +kernel
theorem dX12_name_128 : decode cX12_name 128 = .ok (.istore_n 1, 1) := by decide +kernel
theorem dX12_name_129 : decode cX12_name 129 = .ok (.aload_n 0, 1) := by decide +kernel
theorem dX12_name_130 : decode cX12_name 130 = .ok (.dup, 1) := by decide +kernel
theorem dX12_name_131 : decode cX12_name 131 = .ok (.getfield 188, 3) := by decide +kernel
theorem dX12_name_134 : decode cX12_name 134 = .ok (.iconst 1, 1) := by decide +kernel
theorem dX12_name_135 : decode cX12_name 135 = .ok (.iadd, 1) := by decide +kernel
theorem dX12_name_136 : decode cX12_name 136 = .ok (.putfield 188, 3) := by decide +kernel
theorem dX12_name_139 : decode cX12_name 139 = .ok (.goto (-81), 3) := by decide +kernel
theorem dX12_name_142 : decode cX12_name 142 = .ok (.aload_n 0, 1) := by decide +kernel
theorem dX12_name_143 : decode cX12_name 143 = .ok (.aload_n 0, 1) := by decide +kernel
theorem dX12_name_144 : decode cX12_name 144 = .ok (.getfield 188, 3) := by decide +kernel
theorem dX12_name_147 : decode cX12_name 147 = .ok (.putfield 191, 3) := by decide +kernel
theorem dX12_name_150 : decode cX12_name 150 = .ok (.iload_n 1, 1) := by decide +kernel
theorem dX12_name_151 : decode cX12_name 151 = .ok (.ireturn, 1) := by decide +kernel
theorem dX12_nears_0 : decode cX12_nears 0 = .ok (.iconst 0, 1) := by decide +kernel
theorem dX12_nears_1 : decode cX12_nears 1 = .ok (.istore_n 2, 1) := by decide +kernel
theorem dX12_nears_2 : decode cX12_nears 2 = .ok (.iload_n 2, 1) := by decide +kernel
theorem dX12_nears_3 : decode cX12_nears 3 = .ok (.aload_n 0, 1) := by decide +kernel
theorem dX12_nears_4 : decode cX12_nears 4 = .ok (.getfield 343, 3) := by decide +kernel
theorem dX12_nears_7 : decode cX12_nears 7 = .ok (.if_icmp .ge 27, 3) := by decide +kernel
theorem dX12_nears_10 : decode cX12_nears 10 = .ok (.aload_n 0, 1) := by decide +kernel
theorem dX12_nears_11 : decode cX12_nears 11 = .ok (.getfield 112, 3) := by decide +kernel
theorem dX12_nears_14 : decode cX12_nears 14 = .ok (.iload_n 2, 1) := by decide +kernel
theorem dX12_nears_15 : decode cX12_nears 15 = .ok (.iload_n 2, 1) := by decide +kernel
theorem dX12_nears_16 : decode cX12_nears 16 = .ok (.iload_n 1, 1) := by decide +kernel
theorem dX12_nears_17 : decode cX12_nears 17 = .ok (.if_icmp .ne 7, 3) := by decide +kernel
theorem dX12_nears_20 : decode cX12_nears 20 = .ok (.iconst 0, 1) := by decide +kernel
theorem dX12_nears_21 : decode cX12_nears 21 = .ok (.goto 6, 3) := by decide +kernel
theorem dX12_nears_24 : decode cX12_nears 24 = .ok (.sipush 1000, 3) := by decide +kernel
theorem dX12_nears_27 : decode cX12_nears 27 = .ok (.iastore, 1) := by decide +kernel
theorem dX12_nears_28 : decode cX12_nears 28 = .ok (.iinc 2 1, 3) := by decide +kernel
theorem dX12_nears_31 : decode cX12_nears 31 = .ok (.goto (-29), 3) := by decide +kernel
theorem dX12_nears_34 : decode cX12_nears 34 = .ok (.iconst 1, 1) := by decide +kernel
theorem dX12_nears_35 : decode cX12_nears 35 = .ok (.istore_n 2, 1) := by decide +kernel
theorem dX12_nears_36 : decode cX12_nears 36 = .ok (.iload_n 2, 1) := by decide +kernel
theorem dX12_nears_37 : decode cX12_nears 37 = .ok (.ifCond .eq 88, 3) := by decide +kernel
theorem dX12_nears_40 : decode cX12_nears 40 = .ok (.iconst 0, 1) := by decide +kernel
theorem dX12_nears_41 : decode cX12_nears 41 = .ok (.istore_n 2, 1) := by decide +kernel
theorem dX12_nears_42 : decode cX12_nears 42 = .ok (.iconst 0, 1) := by decide +kernel
theorem dX12_nears_43 : decode cX12_nears 43 = .ok (.istore_n 3, 1) := by decide +kernel
theorem dX12_nears_44 : decode cX12_nears 44 = .ok (.iload_n 3, 1) := by decide +kernel
theorem dX12_nears_45 : decode cX12_nears 45 = .ok (.aload_n 0, 1) := by decide +kernel
theorem dX12_nears_46 : decode cX12_nears 46 = .ok (.getfield 343, 3) := by decide +kernel
theorem dX12_nears_49 : decode cX12_nears 49 = .ok (.if_icmp .ge 73, 3) := by decide +kernel
theorem dX12_nears_52 : decode cX12_nears 52 = .ok (.aload_n 0, 1) := by decide +kernel
theorem dX12_nears_53 : decode cX12_nears 53 = .ok (.iload_n 3, 1) := by decide +kernel
theorem dX12_nears_54 : decode cX12_nears 54 = .ok (.sipush 1000, 3) := by decide +kernel
theorem dX12_nears_57 : decode cX12_nears 57 = .ok (.invokevirtual 467, 3) := by decide +kernel
theorem dX12_nears_60 : decode cX12_nears 60 = .ok (.istore 4, 2) := by decide +kernel
theorem dX12_nears_62 : decode cX12_nears 62 = .ok (.iload 4, 2) := by decide +kernel
theorem dX12_nears_64 : decode cX12_nears 64 = .ok (.iconst (-1), 1) := by decide +kernel
theorem dX12_nears_65 : decode cX12_nears 65 = .ok (.if_icmp .eq 51, 3) := by decide +kernel
theorem dX12_nears_68 : decode cX12_nears 68 = .ok (.aload_n 0, 1) := by decide +kernel
theorem dX12_nears_69 : decode cX12_nears 69 = .ok (.getfield 112, 3) := by decide +kernel
theorem dX12_nears_72 : decode cX12_nears 72 = .ok (.aload_n 0, 1) := by decide +kernel
theorem dX12_nears_73 : decode cX12_nears 73 = .ok (.iload_n 3, 1) := by decide +kernel
theorem dX12_nears_74 : decode cX12_nears 74 = .ok (.iload 4, 2) := by decide +kernel
theorem dX12_nears_76 : decode cX12_nears 76 = .ok (.invokevirtual 369, 3) := by decide +kernel
theorem dX12_nears_79 : decode cX12_nears 79 = .ok (.iaload, 1) := by decide +kernel
theorem dX12_nears_80 : decode cX12_nears 80 = .ok (.iconst 1, 1) := by decide +kernel
theorem dX12_nears_81 : decode cX12_nears 81 = .ok (.iadd, 1) := by decide +kernel
theorem dX12_nears_82 : decode cX12_nears 82 = .ok (.aload_n 0, 1) := by decide +kernel
theorem dX12_nears_83 : decode cX12_nears 83 = .ok (.getfield 112, 3) := by decide +kernel
theorem dX12_nears_86 : decode cX12_nears 86 = .ok (.iload_n 3, 1) := by decide +kernel
theorem dX12_nears_87 : decode cX12_nears 87 = .ok (.iaload, 1) := by decide +kernel
theorem dX12_nears_88 : decode cX12_nears 88 = .ok (.if_icmp .lt 6, 3) := by decide +kernel
theorem dX12_nears_91 : decode cX12_nears 91 = .ok (.goto 25, 3) := by decide +kernel
theorem dX12_nears_94 : decode cX12_nears 94 = .ok (.aload_n 0, 1) := by decide +kernel
theorem dX12_nears_95 : decode cX12_nears 95 = .ok (.getfield 112, 3) := by decide +kernel
theorem dX12_nears_98 : decode cX12_nears 98 = .ok (.iload_n 3, 1) := by decide +kernel
theorem dX12_nears_99 : decode cX12_nears 99 = .ok (.aload_n 0, 1) := by decide +kernel
theorem dX12_nears_100 : decode cX12_nears 100 = .ok (.getfield 112, 3) := by decide +kernel
theorem dX12_nears_103 : decode cX12_nears 103 = .ok (.aload_n 0, 1) := by decide +kernel
theorem dX12_nears_104 : decode cX12_nears 104 = .ok (.iload_n 3, 1) := by decide +kernel
theorem dX12_nears_105 : decode cX12_nears 105 = .ok (.iload 4, 2) := by decide +kernel
theorem dX12_nears_107 : decode cX12_nears 107 = .ok (.invokevirtual 369, 3) := by decide +kernel
theorem dX12_nears_110 : decode cX12_nears 110 = .ok (.iaload, 1) := by decide +kernel
theorem dX12_nears_111 : decode cX12_nears 111 = .ok (.iconst 1, 1) := by decide +kernel
theorem dX12_nears_112 : decode cX12_nears 112 = .ok (.iadd, 1) := by decide +kernel
theorem dX12_nears_113 : decode cX12_nears 113 = .ok (.iastore, 1) := by decide +kernel
theorem dX12_nears_114 : decode cX12_nears 114 = .ok (.iconst 1, 1) := by decide +kernel
theorem dX12_nears_115 : decode cX12_nears 115 = .ok (.istore_n 2, 1) := by decide +kernel
theorem dX12_nears_116 : decode cX12_nears 116 = .ok (.iinc 3 1, 3) := by decide +kernel
theorem dX12_nears_119 : decode cX12_nears 119 = .ok (.goto (-75), 3) := by decide +kernel
theorem dX12_nears_122 : decode cX12_nears 122 = .ok (.goto (-86), 3) := by decide +kernel
theorem dX12_nears_125 : decode cX12_nears 125 = .ok (.return_, 1) := by decide +kernel
theorem dX12_newCell_0 : decode cX12_newCell 0 = .ok (.aload_n 0, 1) := by decide +kernel
theorem dX12_newCell_1 : decode cX12_newCell 1 = .ok (.getfield 78, 3) := by decide +kernel
theorem dX12_newCell_4 : decode cX12_newCell 4 = .ok (.iconst 1, 1) := by decide +kernel
theorem dX12_newCell_5 : decode cX12_newCell 5 = .ok (.iaload, 1) := by decide +kernel
theorem dX12_newCell_6 : decode cX12_newCell 6 = .ok (.aload_n 0, 1) := by decide +kernel
theorem dX12_newCell_7 : decode cX12_newCell 7 = .ok (.iload_n 1, 1) := by decide +kernel
theorem dX12_newCell_8 : decode cX12_newCell 8 = .ok (.invokevirtual 346, 3) := by decide +kernel
theorem dX12_newCell_11 : decode cX12_newCell 11 = .ok (.if_icmp .ge 7, 3) := by decide +kernel
theorem dX12_newCell_14 : decode cX12_newCell 14 = .ok (.aload_n 0, 1) := by decide +kernel
theorem dX12_newCell_15 : decode cX12_newCell 15 = .ok (.invokevirtual 547, 3) := by decide +kernel
theorem dX12_newCell_18 : decode cX12_newCell 18 = .ok (.aload_n 0, 1) := by decide +kernel
theorem dX12_newCell_19 : decode cX12_newCell 19 = .ok (.getfield 78, 3) := by decide +kernel
theorem dX12_newCell_22 : decode cX12_newCell 22 = .ok (.iconst 1, 1) := by decide +kernel
theorem dX12_newCell_23 : decode cX12_newCell 23 = .ok (.iaload, 1) := by decide +kernel
theorem dX12_newCell_24 : decode cX12_newCell 24 = .ok (.aload_n 0, 1) := by decide +kernel
theorem dX12_newCell_25 : decode cX12_newCell 25 = .ok (.iload_n 1, 1) := by decide +kernel
theorem dX12_newCell_26 : decode cX12_newCell 26 = .ok (.invokevirtual 346, 3) := by decide +kernel
theorem dX12_newCell_29 : decode cX12_newCell 29 = .ok (.if_icmp .ge 5, 3) := by decide +kernel
theorem dX12_newCell_32 : decode cX12_newCell 32 = .ok (.iconst (-1), 1) := by decide +kernel
theorem dX12_newCell_33 : decode cX12_newCell 33 = .ok (.ireturn, 1) := by decide +kernel
theorem dX12_newCell_34 : decode cX12_newCell 34 = .ok (.aload_n 0, 1) := by decide +kernel
theorem dX12_newCell_35 : decode cX12_newCell 35 = .ok (.getfield 78, 3) := by decide +kernel
theorem dX12_newCell_38 : decode cX12_newCell 38 = .ok (.iconst 1, 1) := by decide +kernel
theorem dX12_newCell_39 : decode cX12_newCell 39 = .ok (.dup2, 1) := by decide +kernel
theorem dX12_newCell_40 : decode cX12_newCell 40 = .ok (.iaload, 1) := by decide +kernel
theorem dX12_newCell_41 : decode cX12_newCell 41 = .ok (.aload_n 0, 1) := by decide +kernel
theorem dX12_newCell_42 : decode cX12_newCell 42 = .ok (.iload_n 1, 1) := by decide +kernel
theorem dX12_newCell_43 : decode cX12_newCell 43 = .ok (.invokevirtual 346, 3) := by decide +kernel
theorem dX12_newCell_46 : decode cX12_newCell 46 = .ok (.isub, 1) := by decide +kernel
theorem dX12_newCell_47 : decode cX12_newCell 47 = .ok (.iastore, 1) := by decide +kernel
theorem dX12_newCell_48 : decode cX12_newCell 48 = .ok (.aload_n 0, 1) := by decide +kernel
theorem dX12_newCell_49 : decode cX12_newCell 49 = .ok (.getfield 78, 3) := by decide +kernel
theorem dX12_newCell_52 : decode cX12_newCell 52 = .ok (.iconst 1, 1) := by decide +kernel
theorem dX12_newCell_53 : decode cX12_newCell 53 = .ok (.iaload, 1) := by decide +kernel
theorem dX12_newCell_54 : decode cX12_newCell 54 = .ok (.istore_n 2, 1) := by decide +kernel
theorem dX12_newCell_55 : decode cX12_newCell 55 = .ok (.aload_n 0, 1) := by decide +kernel
theorem dX12_newCell_56 : decode cX12_newCell 56 = .ok (.getfield 78, 3) := by decide +kernel
theorem dX12_newCell_59 : decode cX12_newCell 59 = .ok (.iload_n 2, 1) := by decide +kernel
theorem dX12_newCell_60 : decode cX12_newCell 60 = .ok (.iconst 2, 1) := by decide +kernel
theorem dX12_newCell_61 : decode cX12_newCell 61 = .ok (.iload_n 1, 1) := by decide +kernel
theorem dX12_newCell_62 : decode cX12_newCell 62 = .ok (.invokestatic 247, 3) := by decide +kernel
theorem dX12_newCell_65 : decode cX12_newCell 65 = .ok (.iconst 0, 1) := by decide +kernel
theorem dX12_newCell_66 : decode cX12_newCell 66 = .ok (.istore_n 3, 1) := by decide +kernel
theorem dX12_newCell_67 : decode cX12_newCell 67 = .ok (.iload_n 3, 1) := by decide +kernel
theorem dX12_newCell_68 : decode cX12_newCell 68 = .ok (.aload_n 0, 1) := by decide +kernel
theorem dX12_newCell_69 : decode cX12_newCell 69 = .ok (.iload_n 1, 1) := by decide +kernel
theorem dX12_newCell_70 : decode cX12_newCell 70 = .ok (.invokevirtual 234, 3) := by decide +kernel
theorem dX12_newCell_73 : decode cX12_newCell 73 = .ok (.if_icmp .ge 27, 3) := by decide +kernel
theorem dX12_newCell_76 : decode cX12_newCell 76 = .ok (.aload_n 0, 1) := by decide +kernel
theorem dX12_newCell_77 : decode cX12_newCell 77 = .ok (.getfield 78, 3) := by decide +kernel
theorem dX12_newCell_80 : decode cX12_newCell 80 = .ok (.iload_n 2, 1) := by decide +kernel
theorem dX12_newCell_81 : decode cX12_newCell 81 = .ok (.iconst 1, 1) := by decide +kernel
theorem dX12_newCell_82 : decode cX12_newCell 82 = .ok (.iadd, 1) := by decide +kernel
theorem dX12_newCell_83 : decode cX12_newCell 83 = .ok (.iload_n 3, 1) := by decide +kernel
theorem dX12_newCell_84 : decode cX12_newCell 84 = .ok (.iadd, 1) := by decide +kernel
theorem dX12_newCell_85 : decode cX12_newCell 85 = .ok (.aload_n 0, 1) := by decide +kernel
theorem dX12_newCell_86 : decode cX12_newCell 86 = .ok (.iload_n 1, 1) := by decide +kernel
theorem dX12_newCell_87 : decode cX12_newCell 87 = .ok (.iload_n 3, 1) := by decide +kernel
theorem dX12_newCell_88 : decode cX12_newCell 88 = .ok (.invokevirtual 356, 3) := by decide +kernel
theorem dX12_newCell_91 : decode cX12_newCell 91 = .ok (.invokestatic 286, 3) := by decide +kernel
theorem dX12_newCell_94 : decode cX12_newCell 94 = .ok (.iinc 3 1, 3) := by decide +kernel
theorem dX12_newCell_97 : decode cX12_newCell 97 = .ok (.goto (-30), 3) := by decide +kernel
theorem dX12_newCell_100 : decode cX12_newCell 100 = .ok (.iload_n 2, 1) := by decide +kernel
theorem dX12_newCell_101 : decode cX12_newCell 101 = .ok (.ireturn, 1) := by decide +kernel
theorem dX12_newName_0 : decode cX12_newName 0 = .ok (.aload_n 0, 1) := by decide +kernel
theorem dX12_newName_1 : decode cX12_newName 1 = .ok (.invokevirtual 257, 3) := by decide +kernel
theorem dX12_newName_4 : decode cX12_newName 4 = .ok (.istore_n 1, 1) := by decide +kernel
theorem dX12_newName_5 : decode cX12_newName 5 = .ok (.aload_n 0, 1) := by decide +kernel
theorem dX12_newName_6 : decode cX12_newName 6 = .ok (.getfield 194, 3) := by decide +kernel
theorem dX12_newName_9 : decode cX12_newName 9 = .ok (.ifCond .ne 30, 3) := by decide +kernel
theorem dX12_newName_12 : decode cX12_newName 12 = .ok (.aload_n 0, 1) := by decide +kernel
theorem dX12_newName_13 : decode cX12_newName 13 = .ok (.iload_n 1, 1) := by decide +kernel
theorem dX12_newName_14 : decode cX12_newName 14 = .ok (.invokevirtual 260, 3) := by decide +kernel
theorem dX12_newName_17 : decode cX12_newName 17 = .ok (.iconst (-1), 1) := by decide +kernel
theorem dX12_newName_18 : decode cX12_newName 18 = .ok (.if_icmp .ne 12, 3) := by decide +kernel
theorem dX12_newName_21 : decode cX12_newName 21 = .ok (.aload_n 0, 1) := by decide +kernel
theorem dX12_newName_22 : decode cX12_newName 22 = .ok (.iload_n 1, 1) := by decide +kernel
theorem dX12_newName_23 : decode cX12_newName 23 = .ok (.invokevirtual 263, 3) := by decide +kernel
theorem dX12_newName_26 : decode cX12_newName 26 = .ok (.iconst (-1), 1) := by decide +kernel
theorem dX12_newName_27 : decode cX12_newName 27 = .ok (.if_icmp .eq 12, 3) := by decide +kernel
theorem dX12_newName_30 : decode cX12_newName 30 = .ok (.aload_n 0, 1) := by decide +kernel
theorem dX12_newName_31 : decode cX12_newName 31 = .ok (.iconst 3, 1) := by decide +kernel
theorem dX12_newName_32 : decode cX12_newName 32 = .ok (.aload_n 0, 1) := by decide +kernel
theorem dX12_newName_33 : decode cX12_newName 33 = .ok (.getfield 231, 3) := by decide +kernel
theorem dX12_newName_36 : decode cX12_newName 36 = .ok (.invokevirtual 214, 3) := by decide +kernel
theorem dX12_newName_39 : decode cX12_newName 39 = .ok (.iload_n 1, 1) := by decide +kernel
theorem dX12_newName_40 : decode cX12_newName 40 = .ok (.ireturn, 1) := by decide +kernel
theorem dX12_newTaken_0 : decode cX12_newTaken 0 = .ok (.aload_n 0, 1) := by decide +kernel
theorem dX12_newTaken_1 : decode cX12_newTaken 1 = .ok (.aload_n 0, 1) := by decide +kernel
theorem dX12_newTaken_2 : decode cX12_newTaken 2 = .ok (.invokevirtual 592, 3) := by decide +kernel
theorem dX12_newTaken_5 : decode cX12_newTaken 5 = .ok (.invokevirtual 566, 3) := by decide +kernel
theorem dX12_newTaken_8 : decode cX12_newTaken 8 = .ok (.istore_n 2, 1) := by decide +kernel
theorem dX12_newTaken_9 : decode cX12_newTaken 9 = .ok (.iload_n 2, 1) := by decide +kernel
theorem dX12_newTaken_10 : decode cX12_newTaken 10 = .ok (.iconst (-1), 1) := by decide +kernel
theorem dX12_newTaken_11 : decode cX12_newTaken 11 = .ok (.if_icmp .ne 12, 3) := by decide +kernel
theorem dX12_newTaken_14 : decode cX12_newTaken 14 = .ok (.aload_n 0, 1) := by decide +kernel
theorem dX12_newTaken_15 : decode cX12_newTaken 15 = .ok (.iconst 5, 1) := by decide +kernel
theorem dX12_newTaken_16 : decode cX12_newTaken 16 = .ok (.iload_n 1, 1) := by decide +kernel
theorem dX12_newTaken_17 : decode cX12_newTaken 17 = .ok (.invokevirtual 616, 3) := by decide +kernel
theorem dX12_newTaken_20 : decode cX12_newTaken 20 = .ok (.goto 9, 3) := by decide +kernel
theorem dX12_newTaken_23 : decode cX12_newTaken 23 = .ok (.aload_n 0, 1) := by decide +kernel
theorem dX12_newTaken_24 : decode cX12_newTaken 24 = .ok (.iconst 1, 1) := by decide +kernel
theorem dX12_newTaken_25 : decode cX12_newTaken 25 = .ok (.iload_n 2, 1) := by decide +kernel
theorem dX12_newTaken_26 : decode cX12_newTaken 26 = .ok (.invokevirtual 622, 3) := by decide +kernel
theorem dX12_newTaken_29 : decode cX12_newTaken 29 = .ok (.return_, 1) := by decide +kernel
theorem dX12_nextFrom_0 : decode cX12_nextFrom 0 = .ok (.iconst (-1), 1) := by decide +kernel
theorem dX12_nextFrom_1 : decode cX12_nextFrom 1 = .ok (.istore_n 3, 1) := by decide +kernel
theorem dX12_nextFrom_2 : decode cX12_nextFrom 2 = .ok (.iload_n 2, 1) := by decide +kernel
theorem dX12_nextFrom_3 : decode cX12_nextFrom 3 = .ok (.istore 4, 2) := by decide +kernel
theorem dX12_nextFrom_5 : decode cX12_nextFrom 5 = .ok (.iconst 0, 1) := by decide +kernel
theorem dX12_nextFrom_6 : decode cX12_nextFrom 6 = .ok (.istore 5, 2) := by decide +kernel
theorem dX12_nextFrom_8 : decode cX12_nextFrom 8 = .ok (.iload 5, 2) := by decide +kernel
theorem dX12_nextFrom_10 : decode cX12_nextFrom 10 = .ok (.aload_n 0, 1) := by decide +kernel
theorem dX12_nextFrom_11 : decode cX12_nextFrom 11 = .ok (.aload_n 0, 1) := by decide +kernel
theorem dX12_nextFrom_12 : decode cX12_nextFrom 12 = .ok (.iload_n 1, 1) := by decide +kernel
theorem dX12_nextFrom_13 : decode cX12_nextFrom 13 = .ok (.invokevirtual 353, 3) := by decide +kernel
theorem dX12_nextFrom_16 : decode cX12_nextFrom 16 = .ok (.invokevirtual 234, 3) := by decide +kernel
theorem dX12_nextFrom_19 : decode cX12_nextFrom 19 = .ok (.if_icmp .ge 51, 3) := by decide +kernel
theorem dX12_nextFrom_22 : decode cX12_nextFrom 22 = .ok (.aload_n 0, 1) := by decide +kernel
theorem dX12_nextFrom_23 : decode cX12_nextFrom 23 = .ok (.iload_n 1, 1) := by decide +kernel
theorem dX12_nextFrom_24 : decode cX12_nextFrom 24 = .ok (.iload 5, 2) := by decide +kernel
theorem dX12_nextFrom_26 : decode cX12_nextFrom 26 = .ok (.invokevirtual 369, 3) := by decide +kernel
theorem dX12_nextFrom_29 : decode cX12_nextFrom 29 = .ok (.istore 6, 2) := by decide +kernel
theorem dX12_nextFrom_31 : decode cX12_nextFrom 31 = .ok (.iload 6, 2) := by decide +kernel
theorem dX12_nextFrom_33 : decode cX12_nextFrom 33 = .ok (.iconst (-1), 1) := by decide +kernel
theorem dX12_nextFrom_34 : decode cX12_nextFrom 34 = .ok (.if_icmp .eq 30, 3) := by decide +kernel
theorem dX12_nextFrom_37 : decode cX12_nextFrom 37 = .ok (.aload_n 0, 1) := by decide +kernel
theorem dX12_nextFrom_38 : decode cX12_nextFrom 38 = .ok (.getfield 112, 3) := by decide +kernel
theorem dX12_nextFrom_41 : decode cX12_nextFrom 41 = .ok (.iload 6, 2) := by decide +kernel
theorem dX12_nextFrom_43 : decode cX12_nextFrom 43 = .ok (.iaload, 1) := by decide +kernel
theorem dX12_nextFrom_44 : decode cX12_nextFrom 44 = .ok (.iload 4, 2) := by decide +kernel
theorem dX12_nextFrom_46 : decode cX12_nextFrom 46 = .ok (.if_icmp .lt 6, 3) := by decide +kernel
theorem dX12_nextFrom_49 : decode cX12_nextFrom 49 = .ok (.goto 15, 3) := by decide +kernel
theorem dX12_nextFrom_52 : decode cX12_nextFrom 52 = .ok (.iload 5, 2) := by decide +kernel
theorem dX12_nextFrom_54 : decode cX12_nextFrom 54 = .ok (.istore_n 3, 1) := by decide +kernel
theorem dX12_nextFrom_55 : decode cX12_nextFrom 55 = .ok (.aload_n 0, 1) := by decide +kernel
theorem dX12_nextFrom_56 : decode cX12_nextFrom 56 = .ok (.getfield 112, 3) := by decide +kernel
theorem dX12_nextFrom_59 : decode cX12_nextFrom 59 = .ok (.iload 6, 2) := by decide +kernel
theorem dX12_nextFrom_61 : decode cX12_nextFrom 61 = .ok (.iaload, 1) := by decide +kernel
theorem dX12_nextFrom_62 : decode cX12_nextFrom 62 = .ok (.istore 4, 2) := by decide +kernel
theorem dX12_nextFrom_64 : decode cX12_nextFrom 64 = .ok (.iinc 5 1, 3) := by decide +kernel
theorem dX12_nextFrom_67 : decode cX12_nextFrom 67 = .ok (.goto (-59), 3) := by decide +kernel
theorem dX12_nextFrom_70 : decode cX12_nextFrom 70 = .ok (.iload_n 3, 1) := by decide +kernel
theorem dX12_nextFrom_71 : decode cX12_nextFrom 71 = .ok (.ireturn, 1) := by decide +kernel
theorem dX12_number_0 : decode cX12_number 0 = .ok (.aload_n 0, 1) := by decide +kernel
theorem dX12_number_1 : decode cX12_number 1 = .ok (.getfield 194, 3) := by decide +kernel
theorem dX12_number_4 : decode cX12_number 4 = .ok (.ifCond .eq 5, 3) := by decide +kernel
theorem dX12_number_7 : decode cX12_number 7 = .ok (.iconst 0, 1) := by decide +kernel
theorem dX12_number_8 : decode cX12_number 8 = .ok (.ireturn, 1) := by decide +kernel
theorem dX12_number_9 : decode cX12_number 9 = .ok (.aload_n 0, 1) := by decide +kernel
theorem dX12_number_10 : decode cX12_number 10 = .ok (.invokevirtual 224, 3) := by decide +kernel
theorem dX12_number_13 : decode cX12_number 13 = .ok (.ifCond .ne 14, 3) := by decide +kernel
theorem dX12_number_16 : decode cX12_number 16 = .ok (.aload_n 0, 1) := by decide +kernel
theorem dX12_number_17 : decode cX12_number 17 = .ok (.iconst 1, 1) := by decide +kernel
theorem dX12_number_18 : decode cX12_number 18 = .ok (.aload_n 0, 1) := by decide +kernel
theorem dX12_number_19 : decode cX12_number 19 = .ok (.getfield 188, 3) := by decide +kernel
theorem dX12_number_22 : decode cX12_number 22 = .ok (.invokevirtual 214, 3) := by decide +kernel
theorem dX12_number_25 : decode cX12_number 25 = .ok (.iconst 0, 1) := by decide +kernel
theorem dX12_number_26 : decode cX12_number 26 = .ok (.ireturn, 1) := by decide +kernel
theorem dX12_number_27 : decode cX12_number 27 = .ok (.aload_n 0, 1) := by decide +kernel
theorem dX12_number_28 : decode cX12_number 28 = .ok (.getfield 188, 3) := by decide +kernel
theorem dX12_number_31 : decode cX12_number 31 = .ok (.istore_n 3, 1) := by decide +kernel
theorem dX12_number_32 : decode cX12_number 32 = .ok (.iconst 0, 1) := by decide +kernel
theorem dX12_number_33 : decode cX12_number 33 = .ok (.istore 4, 2) := by decide +kernel
theorem dX12_number_35 : decode cX12_number 35 = .ok (.aload_n 0, 1) := by decide +kernel
theorem dX12_number_36 : decode cX12_number 36 = .ok (.getfield 188, 3) := by decide +kernel
theorem dX12_number_39 : decode cX12_number 39 = .ok (.aload_n 0, 1) := by decide +kernel
theorem dX12_number_40 : decode cX12_number 40 = .ok (.getfield 185, 3) := by decide +kernel
theorem dX12_number_43 : decode cX12_number 43 = .ok (.if_icmp .ge 72, 3) := by decide +kernel
theorem dX12_number_46 : decode cX12_number 46 = .ok (.aload_n 0, 1) := by decide +kernel
theorem dX12_number_47 : decode cX12_number 47 = .ok (.getfield 7, 3) := by decide +kernel
theorem dX12_number_50 : decode cX12_number 50 = .ok (.aload_n 0, 1) := by decide +kernel
theorem dX12_number_51 : decode cX12_number 51 = .ok (.getfield 188, 3) := by decide +kernel
theorem dX12_number_54 : decode cX12_number 54 = .ok (.iaload, 1) := by decide +kernel
theorem dX12_number_55 : decode cX12_number 55 = .ok (.invokestatic 221, 3) := by decide +kernel
theorem dX12_number_58 : decode cX12_number 58 = .ok (.ifCond .eq 57, 3) := by decide +kernel
theorem dX12_number_61 : decode cX12_number 61 = .ok (.aload_n 0, 1) := by decide +kernel
theorem dX12_number_62 : decode cX12_number 62 = .ok (.getfield 188, 3) := by decide +kernel
theorem dX12_number_65 : decode cX12_number 65 = .ok (.iload_n 3, 1) := by decide +kernel
theorem dX12_number_66 : decode cX12_number 66 = .ok (.isub, 1) := by decide +kernel
theorem dX12_number_67 : decode cX12_number 67 = .ok (.iconst 3, 1) := by decide +kernel
theorem dX12_number_68 : decode cX12_number 68 = .ok (.if_icmp .ne 14, 3) := by decide +kernel
theorem dX12_number_71 : decode cX12_number 71 = .ok (.aload_n 0, 1) := by decide +kernel
theorem dX12_number_72 : decode cX12_number 72 = .ok (.iconst 1, 1) := by decide +kernel
theorem dX12_number_73 : decode cX12_number 73 = .ok (.aload_n 0, 1) := by decide +kernel
theorem dX12_number_74 : decode cX12_number 74 = .ok (.getfield 188, 3) := by decide +kernel
theorem dX12_number_77 : decode cX12_number 77 = .ok (.invokevirtual 214, 3) := by decide +kernel
theorem dX12_number_80 : decode cX12_number 80 = .ok (.iconst 0, 1) := by decide +kernel
theorem dX12_number_81 : decode cX12_number 81 = .ok (.ireturn, 1) := by decide +kernel
theorem dX12_number_82 : decode cX12_number 82 = .ok (.bipush 10, 2) := by decide +kernel
theorem dX12_number_84 : decode cX12_number 84 = .ok (.iload 4, 2) := by decide +kernel
theorem dX12_number_86 : decode cX12_number 86 = .ok (.imul, 1) := by decide +kernel
theorem dX12_number_87 : decode cX12_number 87 = .ok (.aload_n 0, 1) := by decide +kernel
theorem dX12_number_88 : decode cX12_number 88 = .ok (.getfield 7, 3) := by decide +kernel
theorem dX12_number_91 : decode cX12_number 91 = .ok (.aload_n 0, 1) := by decide +kernel
theorem dX12_number_92 : decode cX12_number 92 = .ok (.getfield 188, 3) := by decide +kernel
theorem dX12_number_95 : decode cX12_number 95 = .ok (.iaload, 1) := by decide +kernel
theorem dX12_number_96 : decode cX12_number 96 = .ok (.iadd, 1) := by decide +kernel
theorem dX12_number_97 : decode cX12_number 97 = .ok (.bipush 48, 2) := by decide +kernel
theorem dX12_number_99 : decode cX12_number 99 = .ok (.isub, 1) := by decide +kernel
theorem dX12_number_100 : decode cX12_number 100 = .ok (.istore 4, 2) := by decide +kernel
theorem dX12_number_102 : decode cX12_number 102 = .ok (.aload_n 0, 1) := by decide +kernel
theorem dX12_number_103 : decode cX12_number 103 = .ok (.dup, 1) := by decide +kernel
theorem dX12_number_104 : decode cX12_number 104 = .ok (.getfield 188, 3) := by decide +kernel
theorem dX12_number_107 : decode cX12_number 107 = .ok (.iconst 1, 1) := by decide +kernel
theorem dX12_number_108 : decode cX12_number 108 = .ok (.iadd, 1) := by decide +kernel
theorem dX12_number_109 : decode cX12_number 109 = .ok (.putfield 188, 3) := by decide +kernel
theorem dX12_number_112 : decode cX12_number 112 = .ok (.goto (-77), 3) := by decide +kernel
theorem dX12_number_115 : decode cX12_number 115 = .ok (.aload_n 0, 1) := by decide +kernel
theorem dX12_number_116 : decode cX12_number 116 = .ok (.aload_n 0, 1) := by decide +kernel
theorem dX12_number_117 : decode cX12_number 117 = .ok (.getfield 188, 3) := by decide +kernel
theorem dX12_number_120 : decode cX12_number 120 = .ok (.putfield 191, 3) := by decide +kernel
theorem dX12_number_123 : decode cX12_number 123 = .ok (.iload 4, 2) := by decide +kernel
theorem dX12_number_125 : decode cX12_number 125 = .ok (.i2l, 1) := by decide +kernel
theorem dX12_number_126 : decode cX12_number 126 = .ok (.iload_n 1, 1) := by decide +kernel
theorem dX12_number_127 : decode cX12_number 127 = .ok (.i2l, 1) := by decide +kernel
theorem dX12_number_128 : decode cX12_number 128 = .ok (.iload_n 2, 1) := by decide +kernel
theorem dX12_number_129 : decode cX12_number 129 = .ok (.i2l, 1) := by decide +kernel
theorem dX12_number_130 : decode cX12_number 130 = .ok (.invokestatic 178, 3) := by decide +kernel
theorem dX12_number_133 : decode cX12_number 133 = .ok (.ifCond .ne 9, 3) := by decide +kernel
theorem dX12_number_136 : decode cX12_number 136 = .ok (.aload_n 0, 1) := by decide +kernel
theorem dX12_number_137 : decode cX12_number 137 = .ok (.iconst 2, 1) := by decide +kernel
theorem dX12_number_138 : decode cX12_number 138 = .ok (.iload_n 3, 1) := by decide +kernel
theorem dX12_number_139 : decode cX12_number 139 = .ok (.invokevirtual 214, 3) := by decide +kernel
theorem dX12_number_142 : decode cX12_number 142 = .ok (.iload 4, 2) := by decide +kernel
theorem dX12_number_144 : decode cX12_number 144 = .ok (.ireturn, 1) := by decide +kernel
theorem dX12_numberAt_0 : decode cX12_numberAt 0 = .ok (.aload_n 0, 1) := by decide +kernel
theorem dX12_numberAt_1 : decode cX12_numberAt 1 = .ok (.iload_n 1, 1) := by decide +kernel
theorem dX12_numberAt_2 : decode cX12_numberAt 2 = .ok (.invokestatic 237, 3) := by decide +kernel
theorem dX12_numberAt_5 : decode cX12_numberAt 5 = .ok (.iconst 1, 1) := by decide +kernel
theorem dX12_numberAt_6 : decode cX12_numberAt 6 = .ok (.iadd, 1) := by decide +kernel
theorem dX12_numberAt_7 : decode cX12_numberAt 7 = .ok (.iaload, 1) := by decide +kernel
theorem dX12_numberAt_8 : decode cX12_numberAt 8 = .ok (.ireturn, 1) := by decide +kernel
theorem dX12_octet_0 : decode cX12_octet 0 = .ok (.iload_n 1, 1) := by decide +kernel
theorem dX12_octet_1 : decode cX12_octet 1 = .ok (.ifCond .lt 20, 3) := by decide +kernel
theorem dX12_octet_4 : decode cX12_octet 4 = .ok (.iload_n 1, 1) := by decide +kernel
theorem dX12_octet_5 : decode cX12_octet 5 = .ok (.aload_n 0, 1) := by decide +kernel
theorem dX12_octet_6 : decode cX12_octet 6 = .ok (.getfield 667, 3) := by decide +kernel
theorem dX12_octet_9 : decode cX12_octet 9 = .ok (.if_icmp .ge 12, 3) := by decide +kernel
theorem dX12_octet_12 : decode cX12_octet 12 = .ok (.aload_n 0, 1) := by decide +kernel
theorem dX12_octet_13 : decode cX12_octet 13 = .ok (.getfield 162, 3) := by decide +kernel
theorem dX12_octet_16 : decode cX12_octet 16 = .ok (.iload_n 1, 1) := by decide +kernel
theorem dX12_octet_17 : decode cX12_octet 17 = .ok (.iaload, 1) := by decide +kernel
theorem dX12_octet_18 : decode cX12_octet 18 = .ok (.goto 4, 3) := by decide +kernel
theorem dX12_octet_21 : decode cX12_octet 21 = .ok (.iconst (-1), 1) := by decide +kernel
theorem dX12_octet_22 : decode cX12_octet 22 = .ok (.ireturn, 1) := by decide +kernel
theorem dX12_on_0 : decode cX12_on 0 = .ok (.aload_n 0, 1) := by decide +kernel
theorem dX12_on_1 : decode cX12_on 1 = .ok (.getfield 165, 3) := by decide +kernel
theorem dX12_on_4 : decode cX12_on 4 = .ok (.istore_n 1, 1) := by decide +kernel
theorem dX12_on_5 : decode cX12_on 5 = .ok (.aload_n 0, 1) := by decide +kernel
theorem dX12_on_6 : decode cX12_on 6 = .ok (.iconst 0, 1) := by decide +kernel
theorem dX12_on_7 : decode cX12_on 7 = .ok (.putfield 165, 3) := by decide +kernel
theorem dX12_on_10 : decode cX12_on 10 = .ok (.aload_n 0, 1) := by decide +kernel
theorem dX12_on_11 : decode cX12_on 11 = .ok (.iload_n 1, 1) := by decide +kernel
theorem dX12_on_12 : decode cX12_on 12 = .ok (.invokevirtual 688, 3) := by decide +kernel
theorem dX12_on_15 : decode cX12_on 15 = .ok (.ifCond .ne 10, 3) := by decide +kernel
theorem dX12_on_18 : decode cX12_on 18 = .ok (.aload_n 0, 1) := by decide +kernel
theorem dX12_on_19 : decode cX12_on 19 = .ok (.bipush 6, 2) := by decide +kernel
theorem dX12_on_21 : decode cX12_on 21 = .ok (.invokevirtual 172, 3) := by decide +kernel
theorem dX12_on_24 : decode cX12_on 24 = .ok (.ireturn, 1) := by decide +kernel
theorem dX12_on_25 : decode cX12_on 25 = .ok (.iconst 0, 1) := by decide +kernel
theorem dX12_on_26 : decode cX12_on 26 = .ok (.istore_n 2, 1) := by decide +kernel
theorem dX12_on_27 : decode cX12_on 27 = .ok (.iload_n 2, 1) := by decide +kernel
theorem dX12_on_28 : decode cX12_on 28 = .ok (.sipush 422, 3) := by decide +kernel
theorem dX12_on_31 : decode cX12_on 31 = .ok (.if_icmp .ge 21, 3) := by decide +kernel
theorem dX12_on_34 : decode cX12_on 34 = .ok (.aload_n 0, 1) := by decide +kernel
theorem dX12_on_35 : decode cX12_on 35 = .ok (.getfield 78, 3) := by decide +kernel
theorem dX12_on_38 : decode cX12_on 38 = .ok (.iload_n 2, 1) := by decide +kernel
theorem dX12_on_39 : decode cX12_on 39 = .ok (.aload_n 0, 1) := by decide +kernel
theorem dX12_on_40 : decode cX12_on 40 = .ok (.getfield 81, 3) := by decide +kernel
theorem dX12_on_43 : decode cX12_on 43 = .ok (.iload_n 2, 1) := by decide +kernel
theorem dX12_on_44 : decode cX12_on 44 = .ok (.iaload, 1) := by decide +kernel
theorem dX12_on_45 : decode cX12_on 45 = .ok (.iastore, 1) := by decide +kernel
theorem dX12_on_46 : decode cX12_on 46 = .ok (.iinc 2 1, 3) := by decide +kernel
theorem dX12_on_49 : decode cX12_on 49 = .ok (.goto (-22), 3) := by decide +kernel
theorem dX12_on_52 : decode cX12_on 52 = .ok (.aload_n 0, 1) := by decide +kernel
theorem dX12_on_53 : decode cX12_on 53 = .ok (.iconst 0, 1) := by decide +kernel
theorem dX12_on_54 : decode cX12_on 54 = .ok (.putfield 331, 3) := by decide +kernel
theorem dX12_on_57 : decode cX12_on 57 = .ok (.iconst 1, 1) := by decide +kernel
theorem dX12_on_58 : decode cX12_on 58 = .ok (.ireturn, 1) := by decide +kernel
theorem dX12_opensTold_0 : decode cX12_opensTold 0 = .ok (.aload_n 0, 1) := by decide +kernel
theorem dX12_opensTold_1 : decode cX12_opensTold 1 = .ok (.getfield 194, 3) := by decide +kernel
theorem dX12_opensTold_4 : decode cX12_opensTold 4 = .ok (.ifCond .ne 29, 3) := by decide +kernel
theorem dX12_opensTold_7 : decode cX12_opensTold 7 = .ok (.aload_n 0, 1) := by decide +kernel
theorem dX12_opensTold_8 : decode cX12_opensTold 8 = .ok (.invokevirtual 200, 3) := by decide +kernel
theorem dX12_opensTold_11 : decode cX12_opensTold 11 = .ok (.bipush 91, 2) := by decide +kernel
theorem dX12_opensTold_13 : decode cX12_opensTold 13 = .ok (.if_icmp .ne 20, 3) := by decide +kernel
theorem dX12_opensTold_16 : decode cX12_opensTold 16 = .ok (.aload_n 0, 1) := by decide +kernel
theorem dX12_opensTold_17 : decode cX12_opensTold 17 = .ok (.getfield 583, 3) := by decide +kernel
theorem dX12_opensTold_20 : decode cX12_opensTold 20 = .ok (.iconst 4, 1) := by decide +kernel
theorem dX12_opensTold_21 : decode cX12_opensTold 21 = .ok (.if_icmp .ne 12, 3) := by decide +kernel
theorem dX12_opensTold_24 : decode cX12_opensTold 24 = .ok (.aload_n 0, 1) := by decide +kernel
theorem dX12_opensTold_25 : decode cX12_opensTold 25 = .ok (.iconst 4, 1) := by decide +kernel
theorem dX12_opensTold_26 : decode cX12_opensTold 26 = .ok (.aload_n 0, 1) := by decide +kernel
theorem dX12_opensTold_27 : decode cX12_opensTold 27 = .ok (.getfield 188, 3) := by decide +kernel
theorem dX12_opensTold_30 : decode cX12_opensTold 30 = .ok (.invokevirtual 214, 3) := by decide +kernel
theorem dX12_opensTold_33 : decode cX12_opensTold 33 = .ok (.aload_n 0, 1) := by decide +kernel
theorem dX12_opensTold_34 : decode cX12_opensTold 34 = .ok (.bipush 91, 2) := by decide +kernel
theorem dX12_opensTold_36 : decode cX12_opensTold 36 = .ok (.invokevirtual 290, 3) := by decide +kernel
theorem dX12_opensTold_39 : decode cX12_opensTold 39 = .ok (.aload_n 0, 1) := by decide +kernel
theorem dX12_opensTold_40 : decode cX12_opensTold 40 = .ok (.dup, 1) := by decide +kernel
theorem dX12_opensTold_41 : decode cX12_opensTold 41 = .ok (.getfield 583, 3) := by decide +kernel
theorem dX12_opensTold_44 : decode cX12_opensTold 44 = .ok (.iconst 1, 1) := by decide +kernel
theorem dX12_opensTold_45 : decode cX12_opensTold 45 = .ok (.iadd, 1) := by decide +kernel
theorem dX12_opensTold_46 : decode cX12_opensTold 46 = .ok (.putfield 583, 3) := by decide +kernel
theorem dX12_opensTold_49 : decode cX12_opensTold 49 = .ok (.return_, 1) := by decide +kernel
theorem dX12_pathTaken_0 : decode cX12_pathTaken 0 = .ok (.aload_n 0, 1) := by decide +kernel
theorem dX12_pathTaken_1 : decode cX12_pathTaken 1 = .ok (.invokevirtual 619, 3) := by decide +kernel
theorem dX12_pathTaken_4 : decode cX12_pathTaken 4 = .ok (.istore_n 2, 1) := by decide +kernel
theorem dX12_pathTaken_5 : decode cX12_pathTaken 5 = .ok (.aload_n 0, 1) := by decide +kernel
theorem dX12_pathTaken_6 : decode cX12_pathTaken 6 = .ok (.aload_n 0, 1) := by decide +kernel
theorem dX12_pathTaken_7 : decode cX12_pathTaken 7 = .ok (.getfield 78, 3) := by decide +kernel
theorem dX12_pathTaken_10 : decode cX12_pathTaken 10 = .ok (.iload_n 2, 1) := by decide +kernel
theorem dX12_pathTaken_11 : decode cX12_pathTaken 11 = .ok (.invokestatic 240, 3) := by decide +kernel
theorem dX12_pathTaken_14 : decode cX12_pathTaken 14 = .ok (.aload_n 0, 1) := by decide +kernel
theorem dX12_pathTaken_15 : decode cX12_pathTaken 15 = .ok (.getfield 78, 3) := by decide +kernel
theorem dX12_pathTaken_18 : decode cX12_pathTaken 18 = .ok (.iload_n 2, 1) := by decide +kernel
theorem dX12_pathTaken_19 : decode cX12_pathTaken 19 = .ok (.invokestatic 244, 3) := by decide +kernel
theorem dX12_pathTaken_22 : decode cX12_pathTaken 22 = .ok (.invokevirtual 622, 3) := by decide +kernel
theorem dX12_pathTaken_25 : decode cX12_pathTaken 25 = .ok (.aload_n 0, 1) := by decide +kernel
theorem dX12_pathTaken_26 : decode cX12_pathTaken 26 = .ok (.bipush 46, 2) := by decide +kernel
theorem dX12_pathTaken_28 : decode cX12_pathTaken 28 = .ok (.invokevirtual 218, 3) := by decide +kernel
theorem dX12_pathTaken_31 : decode cX12_pathTaken 31 = .ok (.ifCond .eq 58, 3) := by decide +kernel
theorem dX12_pathTaken_34 : decode cX12_pathTaken 34 = .ok (.aload_n 0, 1) := by decide +kernel
theorem dX12_pathTaken_35 : decode cX12_pathTaken 35 = .ok (.iconst 0, 1) := by decide +kernel
theorem dX12_pathTaken_36 : decode cX12_pathTaken 36 = .ok (.sipush 999, 3) := by decide +kernel
theorem dX12_pathTaken_39 : decode cX12_pathTaken 39 = .ok (.invokevirtual 276, 3) := by decide +kernel
theorem dX12_pathTaken_42 : decode cX12_pathTaken 42 = .ok (.istore_n 3, 1) := by decide +kernel
theorem dX12_pathTaken_43 : decode cX12_pathTaken 43 = .ok (.aload_n 0, 1) := by decide +kernel
theorem dX12_pathTaken_44 : decode cX12_pathTaken 44 = .ok (.getfield 340, 3) := by decide +kernel
theorem dX12_pathTaken_47 : decode cX12_pathTaken 47 = .ok (.ifCond .eq 7, 3) := by decide +kernel
theorem dX12_pathTaken_50 : decode cX12_pathTaken 50 = .ok (.iconst (-1), 1) := by decide +kernel
theorem dX12_pathTaken_51 : decode cX12_pathTaken 51 = .ok (.goto 9, 3) := by decide +kernel
theorem dX12_pathTaken_54 : decode cX12_pathTaken 54 = .ok (.aload_n 0, 1) := by decide +kernel
theorem dX12_pathTaken_55 : decode cX12_pathTaken 55 = .ok (.iload_n 3, 1) := by decide +kernel
theorem dX12_pathTaken_56 : decode cX12_pathTaken 56 = .ok (.iload_n 1, 1) := by decide +kernel
theorem dX12_pathTaken_57 : decode cX12_pathTaken 57 = .ok (.invokevirtual 625, 3) := by decide +kernel
theorem dX12_pathTaken_60 : decode cX12_pathTaken 60 = .ok (.istore_n 2, 1) := by decide +kernel
theorem dX12_pathTaken_61 : decode cX12_pathTaken 61 = .ok (.iload_n 2, 1) := by decide +kernel
theorem dX12_pathTaken_62 : decode cX12_pathTaken 62 = .ok (.iconst (-1), 1) := by decide +kernel
theorem dX12_pathTaken_63 : decode cX12_pathTaken 63 = .ok (.if_icmp .eq 23, 3) := by decide +kernel
theorem dX12_pathTaken_66 : decode cX12_pathTaken 66 = .ok (.aload_n 0, 1) := by decide +kernel
theorem dX12_pathTaken_67 : decode cX12_pathTaken 67 = .ok (.aload_n 0, 1) := by decide +kernel
theorem dX12_pathTaken_68 : decode cX12_pathTaken 68 = .ok (.getfield 78, 3) := by decide +kernel
theorem dX12_pathTaken_71 : decode cX12_pathTaken 71 = .ok (.iload_n 2, 1) := by decide +kernel
theorem dX12_pathTaken_72 : decode cX12_pathTaken 72 = .ok (.invokestatic 240, 3) := by decide +kernel
theorem dX12_pathTaken_75 : decode cX12_pathTaken 75 = .ok (.aload_n 0, 1) := by decide +kernel
theorem dX12_pathTaken_76 : decode cX12_pathTaken 76 = .ok (.getfield 78, 3) := by decide +kernel
theorem dX12_pathTaken_79 : decode cX12_pathTaken 79 = .ok (.iload_n 2, 1) := by decide +kernel
theorem dX12_pathTaken_80 : decode cX12_pathTaken 80 = .ok (.invokestatic 244, 3) := by decide +kernel
theorem dX12_pathTaken_83 : decode cX12_pathTaken 83 = .ok (.invokevirtual 622, 3) := by decide +kernel
theorem dX12_pathTaken_86 : decode cX12_pathTaken 86 = .ok (.goto (-61), 3) := by decide +kernel
theorem dX12_pathTaken_89 : decode cX12_pathTaken 89 = .ok (.return_, 1) := by decide +kernel
theorem dX12_pathTold_0 : decode cX12_pathTold 0 = .ok (.aload_n 0, 1) := by decide +kernel
theorem dX12_pathTold_1 : decode cX12_pathTold 1 = .ok (.getfield 194, 3) := by decide +kernel
theorem dX12_pathTold_4 : decode cX12_pathTold 4 = .ok (.ifCond .ne 20, 3) := by decide +kernel
theorem dX12_pathTold_7 : decode cX12_pathTold 7 = .ok (.aload_n 0, 1) := by decide +kernel
theorem dX12_pathTold_8 : decode cX12_pathTold 8 = .ok (.invokevirtual 577, 3) := by decide +kernel
theorem dX12_pathTold_11 : decode cX12_pathTold 11 = .ok (.iconst (-1), 1) := by decide +kernel
theorem dX12_pathTold_12 : decode cX12_pathTold 12 = .ok (.if_icmp .ne 12, 3) := by decide +kernel
theorem dX12_pathTold_15 : decode cX12_pathTold 15 = .ok (.aload_n 0, 1) := by decide +kernel
theorem dX12_pathTold_16 : decode cX12_pathTold 16 = .ok (.iconst 1, 1) := by decide +kernel
theorem dX12_pathTold_17 : decode cX12_pathTold 17 = .ok (.aload_n 0, 1) := by decide +kernel
theorem dX12_pathTold_18 : decode cX12_pathTold 18 = .ok (.getfield 188, 3) := by decide +kernel
theorem dX12_pathTold_21 : decode cX12_pathTold 21 = .ok (.invokevirtual 214, 3) := by decide +kernel
theorem dX12_pathTold_24 : decode cX12_pathTold 24 = .ok (.aload_n 0, 1) := by decide +kernel
theorem dX12_pathTold_25 : decode cX12_pathTold 25 = .ok (.getfield 194, 3) := by decide +kernel
theorem dX12_pathTold_28 : decode cX12_pathTold 28 = .ok (.ifCond .eq 4, 3) := by decide +kernel
theorem dX12_pathTold_31 : decode cX12_pathTold 31 = .ok (.return_, 1) := by decide +kernel
theorem dX12_pathTold_32 : decode cX12_pathTold 32 = .ok (.aload_n 0, 1) := by decide +kernel
theorem dX12_pathTold_33 : decode cX12_pathTold 33 = .ok (.dup, 1) := by decide +kernel
theorem dX12_pathTold_34 : decode cX12_pathTold 34 = .ok (.getfield 188, 3) := by decide +kernel
theorem dX12_pathTold_37 : decode cX12_pathTold 37 = .ok (.iconst 1, 1) := by decide +kernel
theorem dX12_pathTold_38 : decode cX12_pathTold 38 = .ok (.iadd, 1) := by decide +kernel
theorem dX12_pathTold_39 : decode cX12_pathTold 39 = .ok (.putfield 188, 3) := by decide +kernel
theorem dX12_pathTold_42 : decode cX12_pathTold 42 = .ok (.aload_n 0, 1) := by decide +kernel
theorem dX12_pathTold_43 : decode cX12_pathTold 43 = .ok (.aload_n 0, 1) := by decide +kernel
theorem dX12_pathTold_44 : decode cX12_pathTold 44 = .ok (.getfield 188, 3) := by decide +kernel
theorem dX12_pathTold_47 : decode cX12_pathTold 47 = .ok (.putfield 191, 3) := by decide +kernel
theorem dX12_pathTold_50 : decode cX12_pathTold 50 = .ok (.iconst 0, 1) := by decide +kernel
theorem dX12_pathTold_51 : decode cX12_pathTold 51 = .ok (.istore_n 1, 1) := by decide +kernel
theorem dX12_pathTold_52 : decode cX12_pathTold 52 = .ok (.aload_n 0, 1) := by decide +kernel
theorem dX12_pathTold_53 : decode cX12_pathTold 53 = .ok (.invokevirtual 200, 3) := by decide +kernel
theorem dX12_pathTold_56 : decode cX12_pathTold 56 = .ok (.bipush 46, 2) := by decide +kernel
theorem dX12_pathTold_58 : decode cX12_pathTold 58 = .ok (.if_icmp .ne 46, 3) := by decide +kernel
theorem dX12_pathTold_61 : decode cX12_pathTold 61 = .ok (.aload_n 0, 1) := by decide +kernel
theorem dX12_pathTold_62 : decode cX12_pathTold 62 = .ok (.getfield 194, 3) := by decide +kernel
theorem dX12_pathTold_65 : decode cX12_pathTold 65 = .ok (.ifCond .ne 39, 3) := by decide +kernel
theorem dX12_pathTold_68 : decode cX12_pathTold 68 = .ok (.iload_n 1, 1) := by decide +kernel
theorem dX12_pathTold_69 : decode cX12_pathTold 69 = .ok (.bipush 6, 2) := by decide +kernel
theorem dX12_pathTold_71 : decode cX12_pathTold 71 = .ok (.if_icmp .ne 12, 3) := by decide +kernel
theorem dX12_pathTold_74 : decode cX12_pathTold 74 = .ok (.aload_n 0, 1) := by decide +kernel
theorem dX12_pathTold_75 : decode cX12_pathTold 75 = .ok (.iconst 5, 1) := by decide +kernel
theorem dX12_pathTold_76 : decode cX12_pathTold 76 = .ok (.aload_n 0, 1) := by decide +kernel
theorem dX12_pathTold_77 : decode cX12_pathTold 77 = .ok (.getfield 188, 3) := by decide +kernel
theorem dX12_pathTold_80 : decode cX12_pathTold 80 = .ok (.invokevirtual 214, 3) := by decide +kernel
theorem dX12_pathTold_83 : decode cX12_pathTold 83 = .ok (.aload_n 0, 1) := by decide +kernel
theorem dX12_pathTold_84 : decode cX12_pathTold 84 = .ok (.bipush 46, 2) := by decide +kernel
theorem dX12_pathTold_86 : decode cX12_pathTold 86 = .ok (.invokevirtual 290, 3) := by decide +kernel
theorem dX12_pathTold_89 : decode cX12_pathTold 89 = .ok (.aload_n 0, 1) := by decide +kernel
theorem dX12_pathTold_90 : decode cX12_pathTold 90 = .ok (.iconst 0, 1) := by decide +kernel
theorem dX12_pathTold_91 : decode cX12_pathTold 91 = .ok (.sipush 999, 3) := by decide +kernel
theorem dX12_pathTold_94 : decode cX12_pathTold 94 = .ok (.invokevirtual 276, 3) := by decide +kernel
theorem dX12_pathTold_97 : decode cX12_pathTold 97 = .ok (.pop, 1) := by decide +kernel
theorem dX12_pathTold_98 : decode cX12_pathTold 98 = .ok (.iinc 1 1, 3) := by decide +kernel
theorem dX12_pathTold_101 : decode cX12_pathTold 101 = .ok (.goto (-49), 3) := by decide +kernel
theorem dX12_pathTold_104 : decode cX12_pathTold 104 = .ok (.return_, 1) := by decide +kernel
theorem dX12_places_0 : decode cX12_places 0 = .ok (.aload_n 0, 1) := by decide +kernel
theorem dX12_places_1 : decode cX12_places 1 = .ok (.iconst 0, 1) := by decide +kernel
theorem dX12_places_2 : decode cX12_places 2 = .ok (.putfield 372, 3) := by decide +kernel
theorem dX12_places_5 : decode cX12_places 5 = .ok (.iconst 0, 1) := by decide +kernel
theorem dX12_places_6 : decode cX12_places 6 = .ok (.istore_n 1, 1) := by decide +kernel
theorem dX12_places_7 : decode cX12_places 7 = .ok (.iload_n 1, 1) := by decide +kernel
theorem dX12_places_8 : decode cX12_places 8 = .ok (.aload_n 0, 1) := by decide +kernel
theorem dX12_places_9 : decode cX12_places 9 = .ok (.getfield 325, 3) := by decide +kernel
theorem dX12_places_12 : decode cX12_places 12 = .ok (.if_icmp .ge 47, 3) := by decide +kernel
theorem dX12_places_15 : decode cX12_places 15 = .ok (.aload_n 0, 1) := by decide +kernel
theorem dX12_places_16 : decode cX12_places 16 = .ok (.getfield 100, 3) := by decide +kernel
theorem dX12_places_19 : decode cX12_places 19 = .ok (.iload_n 1, 1) := by decide +kernel
theorem dX12_places_20 : decode cX12_places 20 = .ok (.iconst (-1), 1) := by decide +kernel
theorem dX12_places_21 : decode cX12_places 21 = .ok (.iastore, 1) := by decide +kernel
theorem dX12_places_22 : decode cX12_places 22 = .ok (.aload_n 0, 1) := by decide +kernel
theorem dX12_places_23 : decode cX12_places 23 = .ok (.iload_n 1, 1) := by decide +kernel
theorem dX12_places_24 : decode cX12_places 24 = .ok (.invokevirtual 375, 3) := by decide +kernel
theorem dX12_places_27 : decode cX12_places 27 = .ok (.ifCond .ne 6, 3) := by decide +kernel
theorem dX12_places_30 : decode cX12_places 30 = .ok (.goto 23, 3) := by decide +kernel
theorem dX12_places_33 : decode cX12_places 33 = .ok (.aload_n 0, 1) := by decide +kernel
theorem dX12_places_34 : decode cX12_places 34 = .ok (.getfield 97, 3) := by decide +kernel
theorem dX12_places_37 : decode cX12_places 37 = .ok (.aload_n 0, 1) := by decide +kernel
theorem dX12_places_38 : decode cX12_places 38 = .ok (.getfield 372, 3) := by decide +kernel
theorem dX12_places_41 : decode cX12_places 41 = .ok (.iload_n 1, 1) := by decide +kernel
theorem dX12_places_42 : decode cX12_places 42 = .ok (.iastore, 1) := by decide +kernel
theorem dX12_places_43 : decode cX12_places 43 = .ok (.aload_n 0, 1) := by decide +kernel
theorem dX12_places_44 : decode cX12_places 44 = .ok (.dup, 1) := by decide +kernel
theorem dX12_places_45 : decode cX12_places 45 = .ok (.getfield 372, 3) := by decide +kernel
theorem dX12_places_48 : decode cX12_places 48 = .ok (.iconst 1, 1) := by decide +kernel
theorem dX12_places_49 : decode cX12_places 49 = .ok (.iadd, 1) := by decide +kernel
theorem dX12_places_50 : decode cX12_places 50 = .ok (.putfield 372, 3) := by decide +kernel
theorem dX12_places_53 : decode cX12_places 53 = .ok (.iinc 1 1, 3) := by decide +kernel
theorem dX12_places_56 : decode cX12_places 56 = .ok (.goto (-49), 3) := by decide +kernel
theorem dX12_places_59 : decode cX12_places 59 = .ok (.iconst 0, 1) := by decide +kernel
theorem dX12_places_60 : decode cX12_places 60 = .ok (.istore_n 1, 1) := by decide +kernel
theorem dX12_places_61 : decode cX12_places 61 = .ok (.iload_n 1, 1) := by decide +kernel
theorem dX12_places_62 : decode cX12_places 62 = .ok (.aload_n 0, 1) := by decide +kernel
theorem dX12_places_63 : decode cX12_places 63 = .ok (.getfield 372, 3) := by decide +kernel
theorem dX12_places_66 : decode cX12_places 66 = .ok (.if_icmp .ge 31, 3) := by decide +kernel
theorem dX12_places_69 : decode cX12_places 69 = .ok (.aload_n 0, 1) := by decide +kernel
theorem dX12_places_70 : decode cX12_places 70 = .ok (.getfield 100, 3) := by decide +kernel
theorem dX12_places_73 : decode cX12_places 73 = .ok (.aload_n 0, 1) := by decide +kernel
theorem dX12_places_74 : decode cX12_places 74 = .ok (.getfield 97, 3) := by decide +kernel
theorem dX12_places_77 : decode cX12_places 77 = .ok (.iload_n 1, 1) := by decide +kernel
theorem dX12_places_78 : decode cX12_places 78 = .ok (.iaload, 1) := by decide +kernel
theorem dX12_places_79 : decode cX12_places 79 = .ok (.aload_n 0, 1) := by decide +kernel
theorem dX12_places_80 : decode cX12_places 80 = .ok (.getfield 325, 3) := by decide +kernel
theorem dX12_places_83 : decode cX12_places 83 = .ok (.aload_n 0, 1) := by decide +kernel
theorem dX12_places_84 : decode cX12_places 84 = .ok (.getfield 372, 3) := by decide +kernel
theorem dX12_places_87 : decode cX12_places 87 = .ok (.isub, 1) := by decide +kernel
theorem dX12_places_88 : decode cX12_places 88 = .ok (.iload_n 1, 1) := by decide +kernel
theorem dX12_places_89 : decode cX12_places 89 = .ok (.iadd, 1) := by decide +kernel
theorem dX12_places_90 : decode cX12_places 90 = .ok (.iastore, 1) := by decide +kernel
theorem dX12_places_91 : decode cX12_places 91 = .ok (.iinc 1 1, 3) := by decide +kernel
theorem dX12_places_94 : decode cX12_places 94 = .ok (.goto (-33), 3) := by decide +kernel
theorem dX12_places_97 : decode cX12_places 97 = .ok (.aload_n 0, 1) := by decide +kernel
theorem dX12_places_98 : decode cX12_places 98 = .ok (.iconst 0, 1) := by decide +kernel
theorem dX12_places_99 : decode cX12_places 99 = .ok (.putfield 378, 3) := by decide +kernel
theorem dX12_places_102 : decode cX12_places 102 = .ok (.iconst 0, 1) := by decide +kernel
theorem dX12_places_103 : decode cX12_places 103 = .ok (.istore_n 1, 1) := by decide +kernel
theorem dX12_places_104 : decode cX12_places 104 = .ok (.iload_n 1, 1) := by decide +kernel
theorem dX12_places_105 : decode cX12_places 105 = .ok (.aload_n 0, 1) := by decide +kernel
theorem dX12_places_106 : decode cX12_places 106 = .ok (.getfield 372, 3) := by decide +kernel
theorem dX12_places_109 : decode cX12_places 109 = .ok (.if_icmp .ge 82, 3) := by decide +kernel
theorem dX12_places_112 : decode cX12_places 112 = .ok (.iload_n 1, 1) := by decide +kernel
theorem dX12_places_113 : decode cX12_places 113 = .ok (.ifCond .eq 22, 3) := by decide +kernel
theorem dX12_places_116 : decode cX12_places 116 = .ok (.aload_n 0, 1) := by decide +kernel
theorem dX12_places_117 : decode cX12_places 117 = .ok (.getfield 97, 3) := by decide +kernel
theorem dX12_places_120 : decode cX12_places 120 = .ok (.iload_n 1, 1) := by decide +kernel
theorem dX12_places_121 : decode cX12_places 121 = .ok (.iaload, 1) := by decide +kernel
theorem dX12_places_122 : decode cX12_places 122 = .ok (.aload_n 0, 1) := by decide +kernel
theorem dX12_places_123 : decode cX12_places 123 = .ok (.getfield 97, 3) := by decide +kernel
theorem dX12_places_126 : decode cX12_places 126 = .ok (.iload_n 1, 1) := by decide +kernel
theorem dX12_places_127 : decode cX12_places 127 = .ok (.iconst 1, 1) := by decide +kernel
theorem dX12_places_128 : decode cX12_places 128 = .ok (.isub, 1) := by decide +kernel
theorem dX12_places_129 : decode cX12_places 129 = .ok (.iaload, 1) := by decide +kernel
theorem dX12_places_130 : decode cX12_places 130 = .ok (.iconst 1, 1) := by decide +kernel
theorem dX12_places_131 : decode cX12_places 131 = .ok (.iadd, 1) := by decide +kernel
theorem dX12_places_132 : decode cX12_places 132 = .ok (.if_icmp .eq 38, 3) := by decide +kernel
theorem dX12_places_135 : decode cX12_places 135 = .ok (.aload_n 0, 1) := by decide +kernel
theorem dX12_places_136 : decode cX12_places 136 = .ok (.getfield 103, 3) := by decide +kernel
theorem dX12_places_139 : decode cX12_places 139 = .ok (.aload_n 0, 1) := by decide +kernel
theorem dX12_places_140 : decode cX12_places 140 = .ok (.getfield 378, 3) := by decide +kernel
theorem dX12_places_143 : decode cX12_places 143 = .ok (.aload_n 0, 1) := by decide +kernel
theorem dX12_places_144 : decode cX12_places 144 = .ok (.getfield 97, 3) := by decide +kernel
theorem dX12_places_147 : decode cX12_places 147 = .ok (.iload_n 1, 1) := by decide +kernel
theorem dX12_places_148 : decode cX12_places 148 = .ok (.iaload, 1) := by decide +kernel
theorem dX12_places_149 : decode cX12_places 149 = .ok (.iastore, 1) := by decide +kernel
theorem dX12_places_150 : decode cX12_places 150 = .ok (.aload_n 0, 1) := by decide +kernel
theorem dX12_places_151 : decode cX12_places 151 = .ok (.getfield 106, 3) := by decide +kernel
theorem dX12_places_154 : decode cX12_places 154 = .ok (.aload_n 0, 1) := by decide +kernel
theorem dX12_places_155 : decode cX12_places 155 = .ok (.getfield 378, 3) := by decide +kernel
theorem dX12_places_158 : decode cX12_places 158 = .ok (.iconst 0, 1) := by decide +kernel
theorem dX12_places_159 : decode cX12_places 159 = .ok (.iastore, 1) := by decide +kernel
theorem dX12_places_160 : decode cX12_places 160 = .ok (.aload_n 0, 1) := by decide +kernel
theorem dX12_places_161 : decode cX12_places 161 = .ok (.dup, 1) := by decide +kernel
theorem dX12_places_162 : decode cX12_places 162 = .ok (.getfield 378, 3) := by decide +kernel
theorem dX12_places_165 : decode cX12_places 165 = .ok (.iconst 1, 1) := by decide +kernel
theorem dX12_places_166 : decode cX12_places 166 = .ok (.iadd, 1) := by decide +kernel
theorem dX12_places_167 : decode cX12_places 167 = .ok (.putfield 378, 3) := by decide +kernel
theorem dX12_places_170 : decode cX12_places 170 = .ok (.aload_n 0, 1) := by decide +kernel
theorem dX12_places_171 : decode cX12_places 171 = .ok (.getfield 106, 3) := by decide +kernel
theorem dX12_places_174 : decode cX12_places 174 = .ok (.aload_n 0, 1) := by decide +kernel
theorem dX12_places_175 : decode cX12_places 175 = .ok (.getfield 378, 3) := by decide +kernel
theorem dX12_places_178 : decode cX12_places 178 = .ok (.iconst 1, 1) := by decide +kernel
theorem dX12_places_179 : decode cX12_places 179 = .ok (.isub, 1) := by decide +kernel
theorem dX12_places_180 : decode cX12_places 180 = .ok (.dup2, 1) := by decide +kernel
theorem dX12_places_181 : decode cX12_places 181 = .ok (.iaload, 1) := by decide +kernel
theorem dX12_places_182 : decode cX12_places 182 = .ok (.iconst 1, 1) := by decide +kernel
theorem dX12_places_183 : decode cX12_places 183 = .ok (.iadd, 1) := by decide +kernel
theorem dX12_places_184 : decode cX12_places 184 = .ok (.iastore, 1) := by decide +kernel
theorem dX12_places_185 : decode cX12_places 185 = .ok (.iinc 1 1, 3) := by decide +kernel
theorem dX12_places_188 : decode cX12_places 188 = .ok (.goto (-84), 3) := by decide +kernel
theorem dX12_places_191 : decode cX12_places 191 = .ok (.return_, 1) := by decide +kernel
theorem dX12_pointerTold_0 : decode cX12_pointerTold 0 = .ok (.aload_n 0, 1) := by decide +kernel
theorem dX12_pointerTold_1 : decode cX12_pointerTold 1 = .ok (.invokevirtual 273, 3) := by decide +kernel
theorem dX12_pointerTold_4 : decode cX12_pointerTold 4 = .ok (.istore_n 1, 1) := by decide +kernel
theorem dX12_pointerTold_5 : decode cX12_pointerTold 5 = .ok (.aload_n 0, 1) := by decide +kernel
theorem dX12_pointerTold_6 : decode cX12_pointerTold 6 = .ok (.bipush 43, 2) := by decide +kernel
theorem dX12_pointerTold_8 : decode cX12_pointerTold 8 = .ok (.invokevirtual 218, 3) := by decide +kernel
theorem dX12_pointerTold_11 : decode cX12_pointerTold 11 = .ok (.ifCond .ne 5, 3) := by decide +kernel
theorem dX12_pointerTold_14 : decode cX12_pointerTold 14 = .ok (.iload_n 1, 1) := by decide +kernel
theorem dX12_pointerTold_15 : decode cX12_pointerTold 15 = .ok (.ireturn, 1) := by decide +kernel
theorem dX12_pointerTold_16 : decode cX12_pointerTold 16 = .ok (.aload_n 0, 1) := by decide +kernel
theorem dX12_pointerTold_17 : decode cX12_pointerTold 17 = .ok (.getfield 194, 3) := by decide +kernel
theorem dX12_pointerTold_20 : decode cX12_pointerTold 20 = .ok (.ifCond .eq 7, 3) := by decide +kernel
theorem dX12_pointerTold_23 : decode cX12_pointerTold 23 = .ok (.iconst 0, 1) := by decide +kernel
theorem dX12_pointerTold_24 : decode cX12_pointerTold 24 = .ok (.goto 11, 3) := by decide +kernel
theorem dX12_pointerTold_27 : decode cX12_pointerTold 27 = .ok (.aload_n 0, 1) := by decide +kernel
theorem dX12_pointerTold_28 : decode cX12_pointerTold 28 = .ok (.getfield 81, 3) := by decide +kernel
theorem dX12_pointerTold_31 : decode cX12_pointerTold 31 = .ok (.iload_n 1, 1) := by decide +kernel
theorem dX12_pointerTold_32 : decode cX12_pointerTold 32 = .ok (.invokestatic 244, 3) := by decide +kernel
theorem dX12_pointerTold_35 : decode cX12_pointerTold 35 = .ok (.istore_n 2, 1) := by decide +kernel
theorem dX12_pointerTold_36 : decode cX12_pointerTold 36 = .ok (.iload_n 1, 1) := by decide +kernel
theorem dX12_pointerTold_37 : decode cX12_pointerTold 37 = .ok (.aload_n 0, 1) := by decide +kernel
theorem dX12_pointerTold_38 : decode cX12_pointerTold 38 = .ok (.iconst 0, 1) := by decide +kernel
theorem dX12_pointerTold_39 : decode cX12_pointerTold 39 = .ok (.aload_n 0, 1) := by decide +kernel
theorem dX12_pointerTold_40 : decode cX12_pointerTold 40 = .ok (.getfield 63, 3) := by decide +kernel
theorem dX12_pointerTold_43 : decode cX12_pointerTold 43 = .ok (.iload_n 2, 1) := by decide +kernel
theorem dX12_pointerTold_44 : decode cX12_pointerTold 44 = .ok (.iaload, 1) := by decide +kernel
theorem dX12_pointerTold_45 : decode cX12_pointerTold 45 = .ok (.invokevirtual 276, 3) := by decide +kernel
theorem dX12_pointerTold_48 : decode cX12_pointerTold 48 = .ok (.iadd, 1) := by decide +kernel
theorem dX12_pointerTold_49 : decode cX12_pointerTold 49 = .ok (.ireturn, 1) := by decide +kernel
theorem dX12_readsWord_0 : decode cX12_readsWord 0 = .ok (.aload_n 0, 1) := by decide +kernel
theorem dX12_readsWord_1 : decode cX12_readsWord 1 = .ok (.getfield 81, 3) := by decide +kernel
theorem dX12_readsWord_4 : decode cX12_readsWord 4 = .ok (.iload_n 1, 1) := by decide +kernel
theorem dX12_readsWord_5 : decode cX12_readsWord 5 = .ok (.aload_n 0, 1) := by decide +kernel
theorem dX12_readsWord_6 : decode cX12_readsWord 6 = .ok (.getfield 7, 3) := by decide +kernel
theorem dX12_readsWord_9 : decode cX12_readsWord 9 = .ok (.iload_n 2, 1) := by decide +kernel
theorem dX12_readsWord_10 : decode cX12_readsWord 10 = .ok (.iaload, 1) := by decide +kernel
theorem dX12_readsWord_11 : decode cX12_readsWord 11 = .ok (.aload_n 0, 1) := by decide +kernel
theorem dX12_readsWord_12 : decode cX12_readsWord 12 = .ok (.iload_n 2, 1) := by decide +kernel
theorem dX12_readsWord_13 : decode cX12_readsWord 13 = .ok (.iconst 1, 1) := by decide +kernel
theorem dX12_readsWord_14 : decode cX12_readsWord 14 = .ok (.iadd, 1) := by decide +kernel
theorem dX12_readsWord_15 : decode cX12_readsWord 15 = .ok (.invokevirtual 517, 3) := by decide +kernel
theorem dX12_readsWord_18 : decode cX12_readsWord 18 = .ok (.invokestatic 247, 3) := by decide +kernel
theorem dX12_readsWord_21 : decode cX12_readsWord 21 = .ok (.return_, 1) := by decide +kernel
theorem dX12_refuses_0 : decode cX12_refuses 0 = .ok (.aload_n 0, 1) := by decide +kernel
theorem dX12_refuses_1 : decode cX12_refuses 1 = .ok (.getfield 17, 3) := by decide +kernel
theorem dX12_refuses_4 : decode cX12_refuses 4 = .ok (.iload_n 1, 1) := by decide +kernel
theorem dX12_refuses_5 : decode cX12_refuses 5 = .ok (.dup2, 1) := by decide +kernel
theorem dX12_refuses_6 : decode cX12_refuses 6 = .ok (.iaload, 1) := by decide +kernel
theorem dX12_refuses_7 : decode cX12_refuses 7 = .ok (.iconst 1, 1) := by decide +kernel
theorem dX12_refuses_8 : decode cX12_refuses 8 = .ok (.iadd, 1) := by decide +kernel
theorem dX12_refuses_9 : decode cX12_refuses 9 = .ok (.iastore, 1) := by decide +kernel
theorem dX12_refuses_10 : decode cX12_refuses 10 = .ok (.iconst (-1), 1) := by decide +kernel
theorem dX12_refuses_11 : decode cX12_refuses 11 = .ok (.ireturn, 1) := by decide +kernel
theorem dX12_registerHere_0 : decode cX12_registerHere 0 = .ok (.iconst 0, 1) := by decide +kernel
theorem dX12_registerHere_1 : decode cX12_registerHere 1 = .ok (.istore_n 1, 1) := by decide +kernel
theorem dX12_registerHere_2 : decode cX12_registerHere 2 = .ok (.iload_n 1, 1) := by decide +kernel
theorem dX12_registerHere_3 : decode cX12_registerHere 3 = .ok (.bipush 8, 2) := by decide +kernel
theorem dX12_registerHere_5 : decode cX12_registerHere 5 = .ok (.if_icmp .ge 33, 3) := by decide +kernel
theorem dX12_registerHere_8 : decode cX12_registerHere 8 = .ok (.aload_n 0, 1) := by decide +kernel
theorem dX12_registerHere_9 : decode cX12_registerHere 9 = .ok (.getfield 147, 3) := by decide +kernel
theorem dX12_registerHere_12 : decode cX12_registerHere 12 = .ok (.iconst 0, 1) := by decide +kernel
theorem dX12_registerHere_13 : decode cX12_registerHere 13 = .ok (.bipush 97, 2) := by decide +kernel
theorem dX12_registerHere_15 : decode cX12_registerHere 15 = .ok (.iload_n 1, 1) := by decide +kernel
theorem dX12_registerHere_16 : decode cX12_registerHere 16 = .ok (.iadd, 1) := by decide +kernel
theorem dX12_registerHere_17 : decode cX12_registerHere 17 = .ok (.i2c, 1) := by decide +kernel
theorem dX12_registerHere_18 : decode cX12_registerHere 18 = .ok (.castore, 1) := by decide +kernel
theorem dX12_registerHere_19 : decode cX12_registerHere 19 = .ok (.aload_n 0, 1) := by decide +kernel
theorem dX12_registerHere_20 : decode cX12_registerHere 20 = .ok (.aload_n 0, 1) := by decide +kernel
theorem dX12_registerHere_21 : decode cX12_registerHere 21 = .ok (.getfield 147, 3) := by decide +kernel
theorem dX12_registerHere_24 : decode cX12_registerHere 24 = .ok (.invokevirtual 207, 3) := by decide +kernel
theorem dX12_registerHere_27 : decode cX12_registerHere 27 = .ok (.ifCond .eq 5, 3) := by decide +kernel
theorem dX12_registerHere_30 : decode cX12_registerHere 30 = .ok (.iload_n 1, 1) := by decide +kernel
theorem dX12_registerHere_31 : decode cX12_registerHere 31 = .ok (.ireturn, 1) := by decide +kernel
theorem dX12_registerHere_32 : decode cX12_registerHere 32 = .ok (.iinc 1 1, 3) := by decide +kernel
theorem dX12_registerHere_35 : decode cX12_registerHere 35 = .ok (.goto (-33), 3) := by decide +kernel
theorem dX12_registerHere_38 : decode cX12_registerHere 38 = .ok (.iconst (-1), 1) := by decide +kernel
theorem dX12_registerHere_39 : decode cX12_registerHere 39 = .ok (.ireturn, 1) := by decide +kernel
theorem dX12_registerTaken_0 : decode cX12_registerTaken 0 = .ok (.aload_n 0, 1) := by decide +kernel
theorem dX12_registerTaken_1 : decode cX12_registerTaken 1 = .ok (.invokevirtual 577, 3) := by decide +kernel
theorem dX12_registerTaken_4 : decode cX12_registerTaken 4 = .ok (.istore_n 1, 1) := by decide +kernel
theorem dX12_registerTaken_5 : decode cX12_registerTaken 5 = .ok (.aload_n 0, 1) := by decide +kernel
theorem dX12_registerTaken_6 : decode cX12_registerTaken 6 = .ok (.dup, 1) := by decide +kernel
theorem dX12_registerTaken_7 : decode cX12_registerTaken 7 = .ok (.getfield 188, 3) := by decide +kernel
theorem dX12_registerTaken_10 : decode cX12_registerTaken 10 = .ok (.iconst 1, 1) := by decide +kernel
theorem dX12_registerTaken_11 : decode cX12_registerTaken 11 = .ok (.iadd, 1) := by decide +kernel
theorem dX12_registerTaken_12 : decode cX12_registerTaken 12 = .ok (.putfield 188, 3) := by decide +kernel
theorem dX12_registerTaken_15 : decode cX12_registerTaken 15 = .ok (.aload_n 0, 1) := by decide +kernel
theorem dX12_registerTaken_16 : decode cX12_registerTaken 16 = .ok (.aload_n 0, 1) := by decide +kernel
theorem dX12_registerTaken_17 : decode cX12_registerTaken 17 = .ok (.getfield 188, 3) := by decide +kernel
theorem dX12_registerTaken_20 : decode cX12_registerTaken 20 = .ok (.putfield 191, 3) := by decide +kernel
theorem dX12_registerTaken_23 : decode cX12_registerTaken 23 = .ok (.iload_n 1, 1) := by decide +kernel
theorem dX12_registerTaken_24 : decode cX12_registerTaken 24 = .ok (.bipush 8, 2) := by decide +kernel
theorem dX12_registerTaken_26 : decode cX12_registerTaken 26 = .ok (.isub, 1) := by decide +kernel
theorem dX12_registerTaken_27 : decode cX12_registerTaken 27 = .ok (.ireturn, 1) := by decide +kernel
theorem dX12_registerTo_0 : decode cX12_registerTo 0 = .ok (.iconst (-1), 1) := by decide +kernel
theorem dX12_registerTo_1 : decode cX12_registerTo 1 = .ok (.istore_n 1, 1) := by decide +kernel
theorem dX12_registerTo_2 : decode cX12_registerTo 2 = .ok (.iconst 0, 1) := by decide +kernel
theorem dX12_registerTo_3 : decode cX12_registerTo 3 = .ok (.istore_n 2, 1) := by decide +kernel
theorem dX12_registerTo_4 : decode cX12_registerTo 4 = .ok (.iload_n 2, 1) := by decide +kernel
theorem dX12_registerTo_5 : decode cX12_registerTo 5 = .ok (.bipush 8, 2) := by decide +kernel
theorem dX12_registerTo_7 : decode cX12_registerTo 7 = .ok (.if_icmp .ge 64, 3) := by decide +kernel
theorem dX12_registerTo_10 : decode cX12_registerTo 10 = .ok (.aload_n 0, 1) := by decide +kernel
theorem dX12_registerTo_11 : decode cX12_registerTo 11 = .ok (.iload_n 2, 1) := by decide +kernel
theorem dX12_registerTo_12 : decode cX12_registerTo 12 = .ok (.bipush 8, 2) := by decide +kernel
theorem dX12_registerTo_14 : decode cX12_registerTo 14 = .ok (.isub, 1) := by decide +kernel
theorem dX12_registerTo_15 : decode cX12_registerTo 15 = .ok (.invokevirtual 359, 3) := by decide +kernel
theorem dX12_registerTo_18 : decode cX12_registerTo 18 = .ok (.istore_n 3, 1) := by decide +kernel
theorem dX12_registerTo_19 : decode cX12_registerTo 19 = .ok (.iload_n 3, 1) := by decide +kernel
theorem dX12_registerTo_20 : decode cX12_registerTo 20 = .ok (.iconst (-1), 1) := by decide +kernel
theorem dX12_registerTo_21 : decode cX12_registerTo 21 = .ok (.if_icmp .eq 44, 3) := by decide +kernel
theorem dX12_registerTo_24 : decode cX12_registerTo 24 = .ok (.aload_n 0, 1) := by decide +kernel
theorem dX12_registerTo_25 : decode cX12_registerTo 25 = .ok (.getfield 112, 3) := by decide +kernel
theorem dX12_registerTo_28 : decode cX12_registerTo 28 = .ok (.iload_n 3, 1) := by decide +kernel
theorem dX12_registerTo_29 : decode cX12_registerTo 29 = .ok (.iaload, 1) := by decide +kernel
theorem dX12_registerTo_30 : decode cX12_registerTo 30 = .ok (.sipush 1000, 3) := by decide +kernel
theorem dX12_registerTo_33 : decode cX12_registerTo 33 = .ok (.if_icmp .ge 32, 3) := by decide +kernel
theorem dX12_registerTo_36 : decode cX12_registerTo 36 = .ok (.iload_n 1, 1) := by decide +kernel
theorem dX12_registerTo_37 : decode cX12_registerTo 37 = .ok (.iconst (-1), 1) := by decide +kernel
theorem dX12_registerTo_38 : decode cX12_registerTo 38 = .ok (.if_icmp .eq 25, 3) := by decide +kernel
theorem dX12_registerTo_41 : decode cX12_registerTo 41 = .ok (.aload_n 0, 1) := by decide +kernel
theorem dX12_registerTo_42 : decode cX12_registerTo 42 = .ok (.getfield 112, 3) := by decide +kernel
theorem dX12_registerTo_45 : decode cX12_registerTo 45 = .ok (.iload_n 3, 1) := by decide +kernel
theorem dX12_registerTo_46 : decode cX12_registerTo 46 = .ok (.iaload, 1) := by decide +kernel
theorem dX12_registerTo_47 : decode cX12_registerTo 47 = .ok (.aload_n 0, 1) := by decide +kernel
theorem dX12_registerTo_48 : decode cX12_registerTo 48 = .ok (.getfield 112, 3) := by decide +kernel
theorem dX12_registerTo_51 : decode cX12_registerTo 51 = .ok (.aload_n 0, 1) := by decide +kernel
theorem dX12_registerTo_52 : decode cX12_registerTo 52 = .ok (.iload_n 1, 1) := by decide +kernel
theorem dX12_registerTo_53 : decode cX12_registerTo 53 = .ok (.bipush 8, 2) := by decide +kernel
theorem dX12_registerTo_55 : decode cX12_registerTo 55 = .ok (.isub, 1) := by decide +kernel
theorem dX12_registerTo_56 : decode cX12_registerTo 56 = .ok (.invokevirtual 359, 3) := by decide +kernel
theorem dX12_registerTo_59 : decode cX12_registerTo 59 = .ok (.iaload, 1) := by decide +kernel
theorem dX12_registerTo_60 : decode cX12_registerTo 60 = .ok (.if_icmp .ge 5, 3) := by decide +kernel
theorem dX12_registerTo_63 : decode cX12_registerTo 63 = .ok (.iload_n 2, 1) := by decide +kernel
theorem dX12_registerTo_64 : decode cX12_registerTo 64 = .ok (.istore_n 1, 1) := by decide +kernel
theorem dX12_registerTo_65 : decode cX12_registerTo 65 = .ok (.iinc 2 1, 3) := by decide +kernel
theorem dX12_registerTo_68 : decode cX12_registerTo 68 = .ok (.goto (-64), 3) := by decide +kernel
theorem dX12_registerTo_71 : decode cX12_registerTo 71 = .ok (.iload_n 1, 1) := by decide +kernel
theorem dX12_registerTo_72 : decode cX12_registerTo 72 = .ok (.ireturn, 1) := by decide +kernel
theorem dX12_remember_0 : decode cX12_remember 0 = .ok (.aload_n 0, 1) := by decide +kernel
theorem dX12_remember_1 : decode cX12_remember 1 = .ok (.invokevirtual 452, 3) := by decide +kernel
theorem dX12_remember_4 : decode cX12_remember 4 = .ok (.ifCond .ne 9, 3) := by decide +kernel
theorem dX12_remember_7 : decode cX12_remember 7 = .ok (.aload_n 0, 1) := by decide +kernel
theorem dX12_remember_8 : decode cX12_remember 8 = .ok (.iconst 2, 1) := by decide +kernel
theorem dX12_remember_9 : decode cX12_remember 9 = .ok (.invokevirtual 168, 3) := by decide +kernel
theorem dX12_remember_12 : decode cX12_remember 12 = .ok (.ireturn, 1) := by decide +kernel
theorem dX12_remember_13 : decode cX12_remember 13 = .ok (.aload_n 0, 1) := by decide +kernel
theorem dX12_remember_14 : decode cX12_remember 14 = .ok (.invokevirtual 502, 3) := by decide +kernel
theorem dX12_remember_17 : decode cX12_remember 17 = .ok (.aload_n 0, 1) := by decide +kernel
theorem dX12_remember_18 : decode cX12_remember 18 = .ok (.iconst 1, 1) := by decide +kernel
theorem dX12_remember_19 : decode cX12_remember 19 = .ok (.putfield 337, 3) := by decide +kernel
theorem dX12_remember_22 : decode cX12_remember 22 = .ok (.aload_n 0, 1) := by decide +kernel
theorem dX12_remember_23 : decode cX12_remember 23 = .ok (.aload_n 0, 1) := by decide +kernel
theorem dX12_remember_24 : decode cX12_remember 24 = .ok (.getfield 493, 3) := by decide +kernel
theorem dX12_remember_27 : decode cX12_remember 27 = .ok (.putfield 505, 3) := by decide +kernel
theorem dX12_remember_30 : decode cX12_remember 30 = .ok (.iconst 0, 1) := by decide +kernel
theorem dX12_remember_31 : decode cX12_remember 31 = .ok (.istore_n 1, 1) := by decide +kernel
theorem dX12_remember_32 : decode cX12_remember 32 = .ok (.iload_n 1, 1) := by decide +kernel
theorem dX12_remember_33 : decode cX12_remember 33 = .ok (.aload_n 0, 1) := by decide +kernel
theorem dX12_remember_34 : decode cX12_remember 34 = .ok (.getfield 493, 3) := by decide +kernel
theorem dX12_remember_37 : decode cX12_remember 37 = .ok (.if_icmp .ge 21, 3) := by decide +kernel
theorem dX12_remember_40 : decode cX12_remember 40 = .ok (.aload_n 0, 1) := by decide +kernel
theorem dX12_remember_41 : decode cX12_remember 41 = .ok (.getfield 124, 3) := by decide +kernel
theorem dX12_remember_44 : decode cX12_remember 44 = .ok (.iload_n 1, 1) := by decide +kernel
theorem dX12_remember_45 : decode cX12_remember 45 = .ok (.aload_n 0, 1) := by decide +kernel
theorem dX12_remember_46 : decode cX12_remember 46 = .ok (.getfield 121, 3) := by decide +kernel
theorem dX12_remember_49 : decode cX12_remember 49 = .ok (.iload_n 1, 1) := by decide +kernel
theorem dX12_remember_50 : decode cX12_remember 50 = .ok (.iaload, 1) := by decide +kernel
theorem dX12_remember_51 : decode cX12_remember 51 = .ok (.iastore, 1) := by decide +kernel
theorem dX12_remember_52 : decode cX12_remember 52 = .ok (.iinc 1 1, 3) := by decide +kernel
theorem dX12_remember_55 : decode cX12_remember 55 = .ok (.goto (-23), 3) := by decide +kernel
theorem dX12_remember_58 : decode cX12_remember 58 = .ok (.aload_n 0, 1) := by decide +kernel
theorem dX12_remember_59 : decode cX12_remember 59 = .ok (.getfield 484, 3) := by decide +kernel
theorem dX12_remember_62 : decode cX12_remember 62 = .ok (.ireturn, 1) := by decide +kernel
theorem dX12_repeatGoes_0 : decode cX12_repeatGoes 0 = .ok (.aload_n 0, 1) := by decide +kernel
theorem dX12_repeatGoes_1 : decode cX12_repeatGoes 1 = .ok (.iconst 0, 1) := by decide +kernel
theorem dX12_repeatGoes_2 : decode cX12_repeatGoes 2 = .ok (.bipush 99, 2) := by decide +kernel
theorem dX12_repeatGoes_4 : decode cX12_repeatGoes 4 = .ok (.invokevirtual 276, 3) := by decide +kernel
theorem dX12_repeatGoes_7 : decode cX12_repeatGoes 7 = .ok (.istore_n 2, 1) := by decide +kernel
theorem dX12_repeatGoes_8 : decode cX12_repeatGoes 8 = .ok (.aload_n 0, 1) := by decide +kernel
theorem dX12_repeatGoes_9 : decode cX12_repeatGoes 9 = .ok (.bipush 91, 2) := by decide +kernel
theorem dX12_repeatGoes_11 : decode cX12_repeatGoes 11 = .ok (.invokevirtual 290, 3) := by decide +kernel
theorem dX12_repeatGoes_14 : decode cX12_repeatGoes 14 = .ok (.iload_n 2, 1) := by decide +kernel
theorem dX12_repeatGoes_15 : decode cX12_repeatGoes 15 = .ok (.ifCond .ne 10, 3) := by decide +kernel
theorem dX12_repeatGoes_18 : decode cX12_repeatGoes 18 = .ok (.aload_n 0, 1) := by decide +kernel
theorem dX12_repeatGoes_19 : decode cX12_repeatGoes 19 = .ok (.invokevirtual 640, 3) := by decide +kernel
theorem dX12_repeatGoes_22 : decode cX12_repeatGoes 22 = .ok (.goto 17, 3) := by decide +kernel
theorem dX12_repeatGoes_25 : decode cX12_repeatGoes 25 = .ok (.aload_n 0, 1) := by decide +kernel
theorem dX12_repeatGoes_26 : decode cX12_repeatGoes 26 = .ok (.iload_n 1, 1) := by decide +kernel
theorem dX12_repeatGoes_27 : decode cX12_repeatGoes 27 = .ok (.invokevirtual 604, 3) := by decide +kernel
theorem dX12_repeatGoes_30 : decode cX12_repeatGoes 30 = .ok (.ifCond .eq 9, 3) := by decide +kernel
theorem dX12_repeatGoes_33 : decode cX12_repeatGoes 33 = .ok (.aload_n 0, 1) := by decide +kernel
theorem dX12_repeatGoes_34 : decode cX12_repeatGoes 34 = .ok (.iload_n 1, 1) := by decide +kernel
theorem dX12_repeatGoes_35 : decode cX12_repeatGoes 35 = .ok (.iload_n 2, 1) := by decide +kernel
theorem dX12_repeatGoes_36 : decode cX12_repeatGoes 36 = .ok (.invokevirtual 637, 3) := by decide +kernel
theorem dX12_repeatGoes_39 : decode cX12_repeatGoes 39 = .ok (.return_, 1) := by decide +kernel
theorem dX12_replays_0 : decode cX12_replays 0 = .ok (.aload_n 0, 1) := by decide +kernel
theorem dX12_replays_1 : decode cX12_replays 1 = .ok (.invokevirtual 436, 3) := by decide +kernel
theorem dX12_replays_4 : decode cX12_replays 4 = .ok (.iconst 0, 1) := by decide +kernel
theorem dX12_replays_5 : decode cX12_replays 5 = .ok (.istore_n 2, 1) := by decide +kernel
theorem dX12_replays_6 : decode cX12_replays 6 = .ok (.iload_n 2, 1) := by decide +kernel
theorem dX12_replays_7 : decode cX12_replays 7 = .ok (.sipush 422, 3) := by decide +kernel
theorem dX12_replays_10 : decode cX12_replays 10 = .ok (.if_icmp .ge 21, 3) := by decide +kernel
theorem dX12_replays_13 : decode cX12_replays 13 = .ok (.aload_n 0, 1) := by decide +kernel
theorem dX12_replays_14 : decode cX12_replays 14 = .ok (.getfield 84, 3) := by decide +kernel
theorem dX12_replays_17 : decode cX12_replays 17 = .ok (.iload_n 2, 1) := by decide +kernel
theorem dX12_replays_18 : decode cX12_replays 18 = .ok (.aload_n 0, 1) := by decide +kernel
theorem dX12_replays_19 : decode cX12_replays 19 = .ok (.getfield 78, 3) := by decide +kernel
theorem dX12_replays_22 : decode cX12_replays 22 = .ok (.iload_n 2, 1) := by decide +kernel
theorem dX12_replays_23 : decode cX12_replays 23 = .ok (.iaload, 1) := by decide +kernel
theorem dX12_replays_24 : decode cX12_replays 24 = .ok (.iastore, 1) := by decide +kernel
theorem dX12_replays_25 : decode cX12_replays 25 = .ok (.iinc 2 1, 3) := by decide +kernel
theorem dX12_replays_28 : decode cX12_replays 28 = .ok (.goto (-22), 3) := by decide +kernel
theorem dX12_replays_31 : decode cX12_replays 31 = .ok (.iconst 1, 1) := by decide +kernel
theorem dX12_replays_32 : decode cX12_replays 32 = .ok (.istore_n 2, 1) := by decide +kernel
theorem dX12_replays_33 : decode cX12_replays 33 = .ok (.iload_n 2, 1) := by decide +kernel
theorem dX12_replays_34 : decode cX12_replays 34 = .ok (.iload_n 1, 1) := by decide +kernel
theorem dX12_replays_35 : decode cX12_replays 35 = .ok (.if_icmp .gt 14, 3) := by decide +kernel
theorem dX12_replays_38 : decode cX12_replays 38 = .ok (.aload_n 0, 1) := by decide +kernel
theorem dX12_replays_39 : decode cX12_replays 39 = .ok (.iload_n 2, 1) := by decide +kernel
theorem dX12_replays_40 : decode cX12_replays 40 = .ok (.invokevirtual 439, 3) := by decide +kernel
theorem dX12_replays_43 : decode cX12_replays 43 = .ok (.iinc 2 1, 3) := by decide +kernel
theorem dX12_replays_46 : decode cX12_replays 46 = .ok (.goto (-13), 3) := by decide +kernel
theorem dX12_replays_49 : decode cX12_replays 49 = .ok (.return_, 1) := by decide +kernel
theorem dX12_retains_0 : decode cX12_retains 0 = .ok (.aload_n 0, 1) := by decide +kernel
theorem dX12_retains_1 : decode cX12_retains 1 = .ok (.iload_n 1, 1) := by decide +kernel
theorem dX12_retains_2 : decode cX12_retains 2 = .ok (.invokevirtual 455, 3) := by decide +kernel
theorem dX12_retains_5 : decode cX12_retains 5 = .ok (.ifCond .eq 13, 3) := by decide +kernel
theorem dX12_retains_8 : decode cX12_retains 8 = .ok (.aload_n 0, 1) := by decide +kernel
theorem dX12_retains_9 : decode cX12_retains 9 = .ok (.getfield 90, 3) := by decide +kernel
theorem dX12_retains_12 : decode cX12_retains 12 = .ok (.iload_n 1, 1) := by decide +kernel
theorem dX12_retains_13 : decode cX12_retains 13 = .ok (.iaload, 1) := by decide +kernel
theorem dX12_retains_14 : decode cX12_retains 14 = .ok (.iconst (-1), 1) := by decide +kernel
theorem dX12_retains_15 : decode cX12_retains 15 = .ok (.if_icmp .ne 5, 3) := by decide +kernel
theorem dX12_retains_18 : decode cX12_retains 18 = .ok (.iconst (-1), 1) := by decide +kernel
theorem dX12_retains_19 : decode cX12_retains 19 = .ok (.ireturn, 1) := by decide +kernel
theorem dX12_retains_20 : decode cX12_retains 20 = .ok (.aload_n 0, 1) := by decide +kernel
theorem dX12_retains_21 : decode cX12_retains 21 = .ok (.iload_n 1, 1) := by decide +kernel
theorem dX12_retains_22 : decode cX12_retains 22 = .ok (.invokevirtual 375, 3) := by decide +kernel
theorem dX12_retains_25 : decode cX12_retains 25 = .ok (.ifCond .eq 17, 3) := by decide +kernel
theorem dX12_retains_28 : decode cX12_retains 28 = .ok (.aload_n 0, 1) := by decide +kernel
theorem dX12_retains_29 : decode cX12_retains 29 = .ok (.iconst (-1), 1) := by decide +kernel
theorem dX12_retains_30 : decode cX12_retains 30 = .ok (.aload_n 0, 1) := by decide +kernel
theorem dX12_retains_31 : decode cX12_retains 31 = .ok (.getfield 90, 3) := by decide +kernel
theorem dX12_retains_34 : decode cX12_retains 34 = .ok (.iload_n 1, 1) := by decide +kernel
theorem dX12_retains_35 : decode cX12_retains 35 = .ok (.iaload, 1) := by decide +kernel
theorem dX12_retains_36 : decode cX12_retains 36 = .ok (.invokevirtual 481, 3) := by decide +kernel
theorem dX12_retains_39 : decode cX12_retains 39 = .ok (.goto 4, 3) := by decide +kernel
theorem dX12_retains_42 : decode cX12_retains 42 = .ok (.iconst 0, 1) := by decide +kernel
theorem dX12_retains_43 : decode cX12_retains 43 = .ok (.ireturn, 1) := by decide +kernel
theorem dX12_rises_0 : decode cX12_rises 0 = .ok (.aload_n 0, 1) := by decide +kernel
theorem dX12_rises_1 : decode cX12_rises 1 = .ok (.getfield 84, 3) := by decide +kernel
theorem dX12_rises_4 : decode cX12_rises 4 = .ok (.iload_n 1, 1) := by decide +kernel
theorem dX12_rises_5 : decode cX12_rises 5 = .ok (.invokestatic 349, 3) := by decide +kernel
theorem dX12_rises_8 : decode cX12_rises 8 = .ok (.ifCond .eq 25, 3) := by decide +kernel
theorem dX12_rises_11 : decode cX12_rises 11 = .ok (.aload_n 0, 1) := by decide +kernel
theorem dX12_rises_12 : decode cX12_rises 12 = .ok (.getfield 84, 3) := by decide +kernel
theorem dX12_rises_15 : decode cX12_rises 15 = .ok (.iload_n 1, 1) := by decide +kernel
theorem dX12_rises_16 : decode cX12_rises 16 = .ok (.iconst 1, 1) := by decide +kernel
theorem dX12_rises_17 : decode cX12_rises 17 = .ok (.aload_n 0, 1) := by decide +kernel
theorem dX12_rises_18 : decode cX12_rises 18 = .ok (.getfield 100, 3) := by decide +kernel
theorem dX12_rises_21 : decode cX12_rises 21 = .ok (.aload_n 0, 1) := by decide +kernel
theorem dX12_rises_22 : decode cX12_rises 22 = .ok (.getfield 84, 3) := by decide +kernel
theorem dX12_rises_25 : decode cX12_rises 25 = .ok (.iload_n 1, 1) := by decide +kernel
theorem dX12_rises_26 : decode cX12_rises 26 = .ok (.invokestatic 244, 3) := by decide +kernel
theorem dX12_rises_29 : decode cX12_rises 29 = .ok (.iaload, 1) := by decide +kernel
theorem dX12_rises_30 : decode cX12_rises 30 = .ok (.invokestatic 247, 3) := by decide +kernel
theorem dX12_rises_33 : decode cX12_rises 33 = .ok (.return_, 1) := by decide +kernel
theorem dX12_risesBy_0 : decode cX12_risesBy 0 = .ok (.aload_n 0, 1) := by decide +kernel
theorem dX12_risesBy_1 : decode cX12_risesBy 1 = .ok (.getfield 100, 3) := by decide +kernel
theorem dX12_risesBy_4 : decode cX12_risesBy 4 = .ok (.aload_n 0, 1) := by decide +kernel
theorem dX12_risesBy_5 : decode cX12_risesBy 5 = .ok (.getfield 103, 3) := by decide +kernel
theorem dX12_risesBy_8 : decode cX12_risesBy 8 = .ok (.iload_n 1, 1) := by decide +kernel
theorem dX12_risesBy_9 : decode cX12_risesBy 9 = .ok (.iaload, 1) := by decide +kernel
theorem dX12_risesBy_10 : decode cX12_risesBy 10 = .ok (.iaload, 1) := by decide +kernel
theorem dX12_risesBy_11 : decode cX12_risesBy 11 = .ok (.aload_n 0, 1) := by decide +kernel
theorem dX12_risesBy_12 : decode cX12_risesBy 12 = .ok (.getfield 103, 3) := by decide +kernel
theorem dX12_risesBy_15 : decode cX12_risesBy 15 = .ok (.iload_n 1, 1) := by decide +kernel
theorem dX12_risesBy_16 : decode cX12_risesBy 16 = .ok (.iaload, 1) := by decide +kernel
theorem dX12_risesBy_17 : decode cX12_risesBy 17 = .ok (.isub, 1) := by decide +kernel
theorem dX12_risesBy_18 : decode cX12_risesBy 18 = .ok (.ireturn, 1) := by decide +kernel
theorem dX12_room_0 : decode cX12_room 0 = .ok (.aload_n 0, 1) := by decide +kernel
theorem dX12_room_1 : decode cX12_room 1 = .ok (.invokevirtual 452, 3) := by decide +kernel
theorem dX12_room_4 : decode cX12_room 4 = .ok (.ifCond .eq 29, 3) := by decide +kernel
theorem dX12_room_7 : decode cX12_room 7 = .ok (.iload_n 1, 1) := by decide +kernel
theorem dX12_room_8 : decode cX12_room 8 = .ok (.i2l, 1) := by decide +kernel
theorem dX12_room_9 : decode cX12_room 9 = .ok (.lconst 0, 1) := by decide +kernel
theorem dX12_room_10 : decode cX12_room 10 = .ok (.aload_n 0, 1) := by decide +kernel
theorem dX12_room_11 : decode cX12_room 11 = .ok (.getfield 328, 3) := by decide +kernel
theorem dX12_room_14 : decode cX12_room 14 = .ok (.iconst 1, 1) := by decide +kernel
theorem dX12_room_15 : decode cX12_room 15 = .ok (.isub, 1) := by decide +kernel
theorem dX12_room_16 : decode cX12_room 16 = .ok (.i2l, 1) := by decide +kernel
theorem dX12_room_17 : decode cX12_room 17 = .ok (.invokestatic 178, 3) := by decide +kernel
theorem dX12_room_20 : decode cX12_room 20 = .ok (.ifCond .eq 13, 3) := by decide +kernel
theorem dX12_room_23 : decode cX12_room 23 = .ok (.iload_n 2, 1) := by decide +kernel
theorem dX12_room_24 : decode cX12_room 24 = .ok (.i2l, 1) := by decide +kernel
theorem dX12_room_25 : decode cX12_room 25 = .ok (.lconst 0, 1) := by decide +kernel
theorem dX12_room_26 : decode cX12_room 26 = .ok (.lconst 1, 1) := by decide +kernel
theorem dX12_room_27 : decode cX12_room 27 = .ok (.invokestatic 178, 3) := by decide +kernel
theorem dX12_room_30 : decode cX12_room 30 = .ok (.ifCond .ne 5, 3) := by decide +kernel
theorem dX12_room_33 : decode cX12_room 33 = .ok (.iconst (-1), 1) := by decide +kernel
theorem dX12_room_34 : decode cX12_room 34 = .ok (.ireturn, 1) := by decide +kernel
theorem dX12_room_35 : decode cX12_room 35 = .ok (.iload_n 2, 1) := by decide +kernel
theorem dX12_room_36 : decode cX12_room 36 = .ok (.ifCond .ne 12, 3) := by decide +kernel
theorem dX12_room_39 : decode cX12_room 39 = .ok (.aload_n 0, 1) := by decide +kernel
theorem dX12_room_40 : decode cX12_room 40 = .ok (.getfield 78, 3) := by decide +kernel
theorem dX12_room_43 : decode cX12_room 43 = .ok (.iconst 1, 1) := by decide +kernel
theorem dX12_room_44 : decode cX12_room 44 = .ok (.iaload, 1) := by decide +kernel
theorem dX12_room_45 : decode cX12_room 45 = .ok (.goto 7, 3) := by decide +kernel
theorem dX12_room_48 : decode cX12_room 48 = .ok (.aload_n 0, 1) := by decide +kernel
theorem dX12_room_49 : decode cX12_room 49 = .ok (.invokevirtual 405, 3) := by decide +kernel
theorem dX12_room_52 : decode cX12_room 52 = .ok (.aload_n 0, 1) := by decide +kernel
theorem dX12_room_53 : decode cX12_room 53 = .ok (.iload_n 1, 1) := by decide +kernel
theorem dX12_room_54 : decode cX12_room 54 = .ok (.invokevirtual 346, 3) := by decide +kernel
theorem dX12_room_57 : decode cX12_room 57 = .ok (.idiv, 1) := by decide +kernel
theorem dX12_room_58 : decode cX12_room 58 = .ok (.ireturn, 1) := by decide +kernel
theorem dX12_roundEnds_0 : decode cX12_roundEnds 0 = .ok (.aload_n 0, 1) := by decide +kernel
theorem dX12_roundEnds_1 : decode cX12_roundEnds 1 = .ok (.getfield 601, 3) := by decide +kernel
theorem dX12_roundEnds_4 : decode cX12_roundEnds 4 = .ok (.iconst 1, 1) := by decide +kernel
theorem dX12_roundEnds_5 : decode cX12_roundEnds 5 = .ok (.isub, 1) := by decide +kernel
theorem dX12_roundEnds_6 : decode cX12_roundEnds 6 = .ok (.istore_n 1, 1) := by decide +kernel
theorem dX12_roundEnds_7 : decode cX12_roundEnds 7 = .ok (.aload_n 0, 1) := by decide +kernel
theorem dX12_roundEnds_8 : decode cX12_roundEnds 8 = .ok (.getfield 159, 3) := by decide +kernel
theorem dX12_roundEnds_11 : decode cX12_roundEnds 11 = .ok (.iload_n 1, 1) := by decide +kernel
theorem dX12_roundEnds_12 : decode cX12_roundEnds 12 = .ok (.dup2, 1) := by decide +kernel
theorem dX12_roundEnds_13 : decode cX12_roundEnds 13 = .ok (.iaload, 1) := by decide +kernel
theorem dX12_roundEnds_14 : decode cX12_roundEnds 14 = .ok (.iconst 1, 1) := by decide +kernel
theorem dX12_roundEnds_15 : decode cX12_roundEnds 15 = .ok (.isub, 1) := by decide +kernel
theorem dX12_roundEnds_16 : decode cX12_roundEnds 16 = .ok (.iastore, 1) := by decide +kernel
theorem dX12_roundEnds_17 : decode cX12_roundEnds 17 = .ok (.aload_n 0, 1) := by decide +kernel
theorem dX12_roundEnds_18 : decode cX12_roundEnds 18 = .ok (.getfield 159, 3) := by decide +kernel
theorem dX12_roundEnds_21 : decode cX12_roundEnds 21 = .ok (.iload_n 1, 1) := by decide +kernel
theorem dX12_roundEnds_22 : decode cX12_roundEnds 22 = .ok (.iaload, 1) := by decide +kernel
theorem dX12_roundEnds_23 : decode cX12_roundEnds 23 = .ok (.ifCond .ne 16, 3) := by decide +kernel
theorem dX12_roundEnds_26 : decode cX12_roundEnds 26 = .ok (.aload_n 0, 1) := by decide +kernel
theorem dX12_roundEnds_27 : decode cX12_roundEnds 27 = .ok (.dup, 1) := by decide +kernel
theorem dX12_roundEnds_28 : decode cX12_roundEnds 28 = .ok (.getfield 601, 3) := by decide +kernel
theorem dX12_roundEnds_31 : decode cX12_roundEnds 31 = .ok (.iconst 1, 1) := by decide +kernel
theorem dX12_roundEnds_32 : decode cX12_roundEnds 32 = .ok (.isub, 1) := by decide +kernel
theorem dX12_roundEnds_33 : decode cX12_roundEnds 33 = .ok (.putfield 601, 3) := by decide +kernel
theorem dX12_roundEnds_36 : decode cX12_roundEnds 36 = .ok (.goto 26, 3) := by decide +kernel
theorem dX12_roundEnds_39 : decode cX12_roundEnds 39 = .ok (.aload_n 0, 1) := by decide +kernel
theorem dX12_roundEnds_40 : decode cX12_roundEnds 40 = .ok (.aload_n 0, 1) := by decide +kernel
theorem dX12_roundEnds_41 : decode cX12_roundEnds 41 = .ok (.getfield 153, 3) := by decide +kernel
theorem dX12_roundEnds_44 : decode cX12_roundEnds 44 = .ok (.iload_n 1, 1) := by decide +kernel
theorem dX12_roundEnds_45 : decode cX12_roundEnds 45 = .ok (.iaload, 1) := by decide +kernel
theorem dX12_roundEnds_46 : decode cX12_roundEnds 46 = .ok (.invokevirtual 604, 3) := by decide +kernel
theorem dX12_roundEnds_49 : decode cX12_roundEnds 49 = .ok (.ifCond .eq 13, 3) := by decide +kernel
theorem dX12_roundEnds_52 : decode cX12_roundEnds 52 = .ok (.aload_n 0, 1) := by decide +kernel
theorem dX12_roundEnds_53 : decode cX12_roundEnds 53 = .ok (.aload_n 0, 1) := by decide +kernel
theorem dX12_roundEnds_54 : decode cX12_roundEnds 54 = .ok (.getfield 156, 3) := by decide +kernel
theorem dX12_roundEnds_57 : decode cX12_roundEnds 57 = .ok (.iload_n 1, 1) := by decide +kernel
theorem dX12_roundEnds_58 : decode cX12_roundEnds 58 = .ok (.iaload, 1) := by decide +kernel
theorem dX12_roundEnds_59 : decode cX12_roundEnds 59 = .ok (.invokevirtual 607, 3) := by decide +kernel
theorem dX12_roundEnds_62 : decode cX12_roundEnds 62 = .ok (.return_, 1) := by decide +kernel
theorem dX12_run_0 : decode cX12_run 0 = .ok (.aload_n 0, 1) := by decide +kernel
theorem dX12_run_1 : decode cX12_run 1 = .ok (.invokevirtual 541, 3) := by decide +kernel
theorem dX12_run_4 : decode cX12_run 4 = .ok (.ifCond .ne 14, 3) := by decide +kernel
theorem dX12_run_7 : decode cX12_run 7 = .ok (.aload_n 0, 1) := by decide +kernel
theorem dX12_run_8 : decode cX12_run 8 = .ok (.iconst 0, 1) := by decide +kernel
theorem dX12_run_9 : decode cX12_run 9 = .ok (.putfield 165, 3) := by decide +kernel
theorem dX12_run_12 : decode cX12_run 12 = .ok (.aload_n 0, 1) := by decide +kernel
theorem dX12_run_13 : decode cX12_run 13 = .ok (.iconst 2, 1) := by decide +kernel
theorem dX12_run_14 : decode cX12_run 14 = .ok (.invokevirtual 168, 3) := by decide +kernel
theorem dX12_run_17 : decode cX12_run 17 = .ok (.ireturn, 1) := by decide +kernel
theorem dX12_run_18 : decode cX12_run 18 = .ok (.aload_n 0, 1) := by decide +kernel
theorem dX12_run_19 : decode cX12_run 19 = .ok (.invokevirtual 309, 3) := by decide +kernel
theorem dX12_run_22 : decode cX12_run 22 = .ok (.aload_n 0, 1) := by decide +kernel
theorem dX12_run_23 : decode cX12_run 23 = .ok (.invokevirtual 661, 3) := by decide +kernel
theorem dX12_run_26 : decode cX12_run 26 = .ok (.aload_n 0, 1) := by decide +kernel
theorem dX12_run_27 : decode cX12_run 27 = .ok (.aload_n 0, 1) := by decide +kernel
theorem dX12_run_28 : decode cX12_run 28 = .ok (.getfield 194, 3) := by decide +kernel
theorem dX12_run_31 : decode cX12_run 31 = .ok (.putfield 182, 3) := by decide +kernel
theorem dX12_run_34 : decode cX12_run 34 = .ok (.aload_n 0, 1) := by decide +kernel
theorem dX12_run_35 : decode cX12_run 35 = .ok (.aload_n 0, 1) := by decide +kernel
theorem dX12_run_36 : decode cX12_run 36 = .ok (.getfield 197, 3) := by decide +kernel
theorem dX12_run_39 : decode cX12_run 39 = .ok (.putfield 13, 3) := by decide +kernel
theorem dX12_run_42 : decode cX12_run 42 = .ok (.aload_n 0, 1) := by decide +kernel
theorem dX12_run_43 : decode cX12_run 43 = .ok (.getfield 194, 3) := by decide +kernel
theorem dX12_run_46 : decode cX12_run 46 = .ok (.ifCond .eq 9, 3) := by decide +kernel
theorem dX12_run_49 : decode cX12_run 49 = .ok (.aload_n 0, 1) := by decide +kernel
theorem dX12_run_50 : decode cX12_run 50 = .ok (.iconst 2, 1) := by decide +kernel
theorem dX12_run_51 : decode cX12_run 51 = .ok (.invokevirtual 168, 3) := by decide +kernel
theorem dX12_run_54 : decode cX12_run 54 = .ok (.ireturn, 1) := by decide +kernel
theorem dX12_run_55 : decode cX12_run 55 = .ok (.aload_n 0, 1) := by decide +kernel
theorem dX12_run_56 : decode cX12_run 56 = .ok (.invokevirtual 544, 3) := by decide +kernel
theorem dX12_run_59 : decode cX12_run 59 = .ok (.aload_n 0, 1) := by decide +kernel
theorem dX12_run_60 : decode cX12_run 60 = .ok (.iconst 0, 1) := by decide +kernel
theorem dX12_run_61 : decode cX12_run 61 = .ok (.invokevirtual 607, 3) := by decide +kernel
theorem dX12_run_64 : decode cX12_run 64 = .ok (.aload_n 0, 1) := by decide +kernel
theorem dX12_run_65 : decode cX12_run 65 = .ok (.iconst 0, 1) := by decide +kernel
theorem dX12_run_66 : decode cX12_run 66 = .ok (.putfield 340, 3) := by decide +kernel
theorem dX12_run_69 : decode cX12_run 69 = .ok (.aload_n 0, 1) := by decide +kernel
theorem dX12_run_70 : decode cX12_run 70 = .ok (.iconst (-1), 1) := by decide +kernel
theorem dX12_run_71 : decode cX12_run 71 = .ok (.putfield 150, 3) := by decide +kernel
theorem dX12_run_74 : decode cX12_run 74 = .ok (.aload_n 0, 1) := by decide +kernel
theorem dX12_run_75 : decode cX12_run 75 = .ok (.iconst 0, 1) := by decide +kernel
theorem dX12_run_76 : decode cX12_run 76 = .ok (.putfield 598, 3) := by decide +kernel
theorem dX12_run_79 : decode cX12_run 79 = .ok (.aload_n 0, 1) := by decide +kernel
theorem dX12_run_80 : decode cX12_run 80 = .ok (.iconst 0, 1) := by decide +kernel
theorem dX12_run_81 : decode cX12_run 81 = .ok (.putfield 601, 3) := by decide +kernel
theorem dX12_run_84 : decode cX12_run 84 = .ok (.aload_n 0, 1) := by decide +kernel
theorem dX12_run_85 : decode cX12_run 85 = .ok (.getfield 340, 3) := by decide +kernel
theorem dX12_run_88 : decode cX12_run 88 = .ok (.ifCond .ne 18, 3) := by decide +kernel
theorem dX12_run_91 : decode cX12_run 91 = .ok (.aload_n 0, 1) := by decide +kernel
theorem dX12_run_92 : decode cX12_run 92 = .ok (.invokevirtual 200, 3) := by decide +kernel
theorem dX12_run_95 : decode cX12_run 95 = .ok (.iconst (-1), 1) := by decide +kernel
theorem dX12_run_96 : decode cX12_run 96 = .ok (.if_icmp .eq 10, 3) := by decide +kernel
theorem dX12_run_99 : decode cX12_run 99 = .ok (.aload_n 0, 1) := by decide +kernel
theorem dX12_run_100 : decode cX12_run 100 = .ok (.invokevirtual 664, 3) := by decide +kernel
theorem dX12_run_103 : decode cX12_run 103 = .ok (.goto (-19), 3) := by decide +kernel
theorem dX12_run_106 : decode cX12_run 106 = .ok (.aload_n 0, 1) := by decide +kernel
theorem dX12_run_107 : decode cX12_run 107 = .ok (.getfield 598, 3) := by decide +kernel
theorem dX12_run_110 : decode cX12_run 110 = .ok (.ireturn, 1) := by decide +kernel
theorem dX12_runTold_0 : decode cX12_runTold 0 = .ok (.aload_n 0, 1) := by decide +kernel
theorem dX12_runTold_1 : decode cX12_runTold 1 = .ok (.iconst 0, 1) := by decide +kernel
theorem dX12_runTold_2 : decode cX12_runTold 2 = .ok (.putfield 583, 3) := by decide +kernel
theorem dX12_runTold_5 : decode cX12_runTold 5 = .ok (.aload_n 0, 1) := by decide +kernel
theorem dX12_runTold_6 : decode cX12_runTold 6 = .ok (.getfield 194, 3) := by decide +kernel
theorem dX12_runTold_9 : decode cX12_runTold 9 = .ok (.ifCond .ne 18, 3) := by decide +kernel
theorem dX12_runTold_12 : decode cX12_runTold 12 = .ok (.aload_n 0, 1) := by decide +kernel
theorem dX12_runTold_13 : decode cX12_runTold 13 = .ok (.invokevirtual 200, 3) := by decide +kernel
theorem dX12_runTold_16 : decode cX12_runTold 16 = .ok (.iconst (-1), 1) := by decide +kernel
theorem dX12_runTold_17 : decode cX12_runTold 17 = .ok (.if_icmp .eq 10, 3) := by decide +kernel
theorem dX12_runTold_20 : decode cX12_runTold 20 = .ok (.aload_n 0, 1) := by decide +kernel
theorem dX12_runTold_21 : decode cX12_runTold 21 = .ok (.invokevirtual 595, 3) := by decide +kernel
theorem dX12_runTold_24 : decode cX12_runTold 24 = .ok (.goto (-19), 3) := by decide +kernel
theorem dX12_runTold_27 : decode cX12_runTold 27 = .ok (.aload_n 0, 1) := by decide +kernel
theorem dX12_runTold_28 : decode cX12_runTold 28 = .ok (.getfield 194, 3) := by decide +kernel
theorem dX12_runTold_31 : decode cX12_runTold 31 = .ok (.ifCond .ne 19, 3) := by decide +kernel
theorem dX12_runTold_34 : decode cX12_runTold 34 = .ok (.aload_n 0, 1) := by decide +kernel
theorem dX12_runTold_35 : decode cX12_runTold 35 = .ok (.getfield 583, 3) := by decide +kernel
theorem dX12_runTold_38 : decode cX12_runTold 38 = .ok (.ifCond .le 12, 3) := by decide +kernel
theorem dX12_runTold_41 : decode cX12_runTold 41 = .ok (.aload_n 0, 1) := by decide +kernel
theorem dX12_runTold_42 : decode cX12_runTold 42 = .ok (.iconst 1, 1) := by decide +kernel
theorem dX12_runTold_43 : decode cX12_runTold 43 = .ok (.aload_n 0, 1) := by decide +kernel
theorem dX12_runTold_44 : decode cX12_runTold 44 = .ok (.getfield 188, 3) := by decide +kernel
theorem dX12_runTold_47 : decode cX12_runTold 47 = .ok (.invokevirtual 214, 3) := by decide +kernel
theorem dX12_runTold_50 : decode cX12_runTold 50 = .ok (.return_, 1) := by decide +kernel
theorem dX12_see_0 : decode cX12_see 0 = .ok (.aload_n 0, 1) := by decide +kernel
theorem dX12_see_1 : decode cX12_see 1 = .ok (.getfield 165, 3) := by decide +kernel
theorem dX12_see_4 : decode cX12_see 4 = .ok (.istore_n 1, 1) := by decide +kernel
theorem dX12_see_5 : decode cX12_see 5 = .ok (.aload_n 0, 1) := by decide +kernel
theorem dX12_see_6 : decode cX12_see 6 = .ok (.iconst 0, 1) := by decide +kernel
theorem dX12_see_7 : decode cX12_see 7 = .ok (.putfield 165, 3) := by decide +kernel
theorem dX12_see_10 : decode cX12_see 10 = .ok (.aload_n 0, 1) := by decide +kernel
theorem dX12_see_11 : decode cX12_see 11 = .ok (.getfield 321, 3) := by decide +kernel
theorem dX12_see_14 : decode cX12_see 14 = .ok (.ifCond .eq 34, 3) := by decide +kernel
theorem dX12_see_17 : decode cX12_see 17 = .ok (.aload_n 0, 1) := by decide +kernel
theorem dX12_see_18 : decode cX12_see 18 = .ok (.getfield 78, 3) := by decide +kernel
theorem dX12_see_21 : decode cX12_see 21 = .ok (.iconst 3, 1) := by decide +kernel
theorem dX12_see_22 : decode cX12_see 22 = .ok (.iaload, 1) := by decide +kernel
theorem dX12_see_23 : decode cX12_see 23 = .ok (.ifCond .ne 25, 3) := by decide +kernel
theorem dX12_see_26 : decode cX12_see 26 = .ok (.iload_n 1, 1) := by decide +kernel
theorem dX12_see_27 : decode cX12_see 27 = .ok (.ifCond .le 21, 3) := by decide +kernel
theorem dX12_see_30 : decode cX12_see 30 = .ok (.iload_n 1, 1) := by decide +kernel
theorem dX12_see_31 : decode cX12_see 31 = .ok (.iconst 4, 1) := by decide +kernel
theorem dX12_see_32 : decode cX12_see 32 = .ok (.irem, 1) := by decide +kernel
theorem dX12_see_33 : decode cX12_see 33 = .ok (.ifCond .ne 15, 3) := by decide +kernel
theorem dX12_see_36 : decode cX12_see 36 = .ok (.iload_n 1, 1) := by decide +kernel
theorem dX12_see_37 : decode cX12_see 37 = .ok (.iconst 4, 1) := by decide +kernel
theorem dX12_see_38 : decode cX12_see 38 = .ok (.idiv, 1) := by decide +kernel
theorem dX12_see_39 : decode cX12_see 39 = .ok (.bipush 16, 2) := by decide +kernel
theorem dX12_see_41 : decode cX12_see 41 = .ok (.if_icmp .gt 7, 3) := by decide +kernel
theorem dX12_see_44 : decode cX12_see 44 = .ok (.iconst 1, 1) := by decide +kernel
theorem dX12_see_45 : decode cX12_see 45 = .ok (.goto 4, 3) := by decide +kernel
theorem dX12_see_48 : decode cX12_see 48 = .ok (.iconst 0, 1) := by decide +kernel
theorem dX12_see_49 : decode cX12_see 49 = .ok (.istore_n 2, 1) := by decide +kernel
theorem dX12_see_50 : decode cX12_see 50 = .ok (.iconst 0, 1) := by decide +kernel
theorem dX12_see_51 : decode cX12_see 51 = .ok (.istore_n 3, 1) := by decide +kernel
theorem dX12_see_52 : decode cX12_see 52 = .ok (.iload_n 3, 1) := by decide +kernel
theorem dX12_see_53 : decode cX12_see 53 = .ok (.iload_n 1, 1) := by decide +kernel
theorem dX12_see_54 : decode cX12_see 54 = .ok (.if_icmp .ge 53, 3) := by decide +kernel
theorem dX12_see_57 : decode cX12_see 57 = .ok (.iload_n 2, 1) := by decide +kernel
theorem dX12_see_58 : decode cX12_see 58 = .ok (.ifCond .eq 49, 3) := by decide +kernel
theorem dX12_see_61 : decode cX12_see 61 = .ok (.aload_n 0, 1) := by decide +kernel
theorem dX12_see_62 : decode cX12_see 62 = .ok (.iload_n 3, 1) := by decide +kernel
theorem dX12_see_63 : decode cX12_see 63 = .ok (.invokevirtual 514, 3) := by decide +kernel
theorem dX12_see_66 : decode cX12_see 66 = .ok (.aload_n 0, 1) := by decide +kernel
theorem dX12_see_67 : decode cX12_see 67 = .ok (.getfield 325, 3) := by decide +kernel
theorem dX12_see_70 : decode cX12_see 70 = .ok (.if_icmp .ge 29, 3) := by decide +kernel
theorem dX12_see_73 : decode cX12_see 73 = .ok (.aload_n 0, 1) := by decide +kernel
theorem dX12_see_74 : decode cX12_see 74 = .ok (.aload_n 0, 1) := by decide +kernel
theorem dX12_see_75 : decode cX12_see 75 = .ok (.getfield 7, 3) := by decide +kernel
theorem dX12_see_78 : decode cX12_see 78 = .ok (.iload_n 3, 1) := by decide +kernel
theorem dX12_see_79 : decode cX12_see 79 = .ok (.iconst 1, 1) := by decide +kernel
theorem dX12_see_80 : decode cX12_see 80 = .ok (.iadd, 1) := by decide +kernel
theorem dX12_see_81 : decode cX12_see 81 = .ok (.iaload, 1) := by decide +kernel
theorem dX12_see_82 : decode cX12_see 82 = .ok (.aload_n 0, 1) := by decide +kernel
theorem dX12_see_83 : decode cX12_see 83 = .ok (.iload_n 3, 1) := by decide +kernel
theorem dX12_see_84 : decode cX12_see 84 = .ok (.iconst 2, 1) := by decide +kernel
theorem dX12_see_85 : decode cX12_see 85 = .ok (.iadd, 1) := by decide +kernel
theorem dX12_see_86 : decode cX12_see 86 = .ok (.invokevirtual 517, 3) := by decide +kernel
theorem dX12_see_89 : decode cX12_see 89 = .ok (.invokevirtual 520, 3) := by decide +kernel
theorem dX12_see_92 : decode cX12_see 92 = .ok (.ifCond .eq 7, 3) := by decide +kernel
theorem dX12_see_95 : decode cX12_see 95 = .ok (.iconst 1, 1) := by decide +kernel
theorem dX12_see_96 : decode cX12_see 96 = .ok (.goto 4, 3) := by decide +kernel
theorem dX12_see_99 : decode cX12_see 99 = .ok (.iconst 0, 1) := by decide +kernel
theorem dX12_see_100 : decode cX12_see 100 = .ok (.istore_n 2, 1) := by decide +kernel
theorem dX12_see_101 : decode cX12_see 101 = .ok (.iinc 3 4, 3) := by decide +kernel
theorem dX12_see_104 : decode cX12_see 104 = .ok (.goto (-52), 3) := by decide +kernel
theorem dX12_see_107 : decode cX12_see 107 = .ok (.iload_n 2, 1) := by decide +kernel
theorem dX12_see_108 : decode cX12_see 108 = .ok (.ifCond .ne 9, 3) := by decide +kernel
theorem dX12_see_111 : decode cX12_see 111 = .ok (.aload_n 0, 1) := by decide +kernel
theorem dX12_see_112 : decode cX12_see 112 = .ok (.iconst 1, 1) := by decide +kernel
theorem dX12_see_113 : decode cX12_see 113 = .ok (.invokevirtual 168, 3) := by decide +kernel
theorem dX12_see_116 : decode cX12_see 116 = .ok (.ireturn, 1) := by decide +kernel
theorem dX12_see_117 : decode cX12_see 117 = .ok (.aload_n 0, 1) := by decide +kernel
theorem dX12_see_118 : decode cX12_see 118 = .ok (.iload_n 1, 1) := by decide +kernel
theorem dX12_see_119 : decode cX12_see 119 = .ok (.iconst 4, 1) := by decide +kernel
theorem dX12_see_120 : decode cX12_see 120 = .ok (.idiv, 1) := by decide +kernel
theorem dX12_see_121 : decode cX12_see 121 = .ok (.putfield 334, 3) := by decide +kernel
theorem dX12_see_124 : decode cX12_see 124 = .ok (.iconst 0, 1) := by decide +kernel
theorem dX12_see_125 : decode cX12_see 125 = .ok (.istore_n 3, 1) := by decide +kernel
theorem dX12_see_126 : decode cX12_see 126 = .ok (.iload_n 3, 1) := by decide +kernel
theorem dX12_see_127 : decode cX12_see 127 = .ok (.aload_n 0, 1) := by decide +kernel
theorem dX12_see_128 : decode cX12_see 128 = .ok (.getfield 334, 3) := by decide +kernel
theorem dX12_see_131 : decode cX12_see 131 = .ok (.if_icmp .ge 63, 3) := by decide +kernel
theorem dX12_see_134 : decode cX12_see 134 = .ok (.aload_n 0, 1) := by decide +kernel
theorem dX12_see_135 : decode cX12_see 135 = .ok (.getfield 127, 3) := by decide +kernel
theorem dX12_see_138 : decode cX12_see 138 = .ok (.iconst 3, 1) := by decide +kernel
theorem dX12_see_139 : decode cX12_see 139 = .ok (.iload_n 3, 1) := by decide +kernel
theorem dX12_see_140 : decode cX12_see 140 = .ok (.imul, 1) := by decide +kernel
theorem dX12_see_141 : decode cX12_see 141 = .ok (.aload_n 0, 1) := by decide +kernel
theorem dX12_see_142 : decode cX12_see 142 = .ok (.iconst 4, 1) := by decide +kernel
theorem dX12_see_143 : decode cX12_see 143 = .ok (.iload_n 3, 1) := by decide +kernel
theorem dX12_see_144 : decode cX12_see 144 = .ok (.imul, 1) := by decide +kernel
theorem dX12_see_145 : decode cX12_see 145 = .ok (.invokevirtual 514, 3) := by decide +kernel
theorem dX12_see_148 : decode cX12_see 148 = .ok (.iastore, 1) := by decide +kernel
theorem dX12_see_149 : decode cX12_see 149 = .ok (.aload_n 0, 1) := by decide +kernel
theorem dX12_see_150 : decode cX12_see 150 = .ok (.getfield 127, 3) := by decide +kernel
theorem dX12_see_153 : decode cX12_see 153 = .ok (.iconst 3, 1) := by decide +kernel
theorem dX12_see_154 : decode cX12_see 154 = .ok (.iload_n 3, 1) := by decide +kernel
theorem dX12_see_155 : decode cX12_see 155 = .ok (.imul, 1) := by decide +kernel
theorem dX12_see_156 : decode cX12_see 156 = .ok (.iconst 1, 1) := by decide +kernel
theorem dX12_see_157 : decode cX12_see 157 = .ok (.iadd, 1) := by decide +kernel
theorem dX12_see_158 : decode cX12_see 158 = .ok (.aload_n 0, 1) := by decide +kernel
theorem dX12_see_159 : decode cX12_see 159 = .ok (.getfield 7, 3) := by decide +kernel
theorem dX12_see_162 : decode cX12_see 162 = .ok (.iconst 4, 1) := by decide +kernel
theorem dX12_see_163 : decode cX12_see 163 = .ok (.iload_n 3, 1) := by decide +kernel
theorem dX12_see_164 : decode cX12_see 164 = .ok (.imul, 1) := by decide +kernel
theorem dX12_see_165 : decode cX12_see 165 = .ok (.iconst 1, 1) := by decide +kernel
theorem dX12_see_166 : decode cX12_see 166 = .ok (.iadd, 1) := by decide +kernel
theorem dX12_see_167 : decode cX12_see 167 = .ok (.iaload, 1) := by decide +kernel
theorem dX12_see_168 : decode cX12_see 168 = .ok (.iastore, 1) := by decide +kernel
theorem dX12_see_169 : decode cX12_see 169 = .ok (.aload_n 0, 1) := by decide +kernel
theorem dX12_see_170 : decode cX12_see 170 = .ok (.getfield 127, 3) := by decide +kernel
theorem dX12_see_173 : decode cX12_see 173 = .ok (.iconst 3, 1) := by decide +kernel
theorem dX12_see_174 : decode cX12_see 174 = .ok (.iload_n 3, 1) := by decide +kernel
theorem dX12_see_175 : decode cX12_see 175 = .ok (.imul, 1) := by decide +kernel
theorem dX12_see_176 : decode cX12_see 176 = .ok (.iconst 2, 1) := by decide +kernel
theorem dX12_see_177 : decode cX12_see 177 = .ok (.iadd, 1) := by decide +kernel
theorem dX12_see_178 : decode cX12_see 178 = .ok (.aload_n 0, 1) := by decide +kernel
theorem dX12_see_179 : decode cX12_see 179 = .ok (.iconst 4, 1) := by decide +kernel
theorem dX12_see_180 : decode cX12_see 180 = .ok (.iload_n 3, 1) := by decide +kernel
theorem dX12_see_181 : decode cX12_see 181 = .ok (.imul, 1) := by decide +kernel
theorem dX12_see_182 : decode cX12_see 182 = .ok (.iconst 2, 1) := by decide +kernel
theorem dX12_see_183 : decode cX12_see 183 = .ok (.iadd, 1) := by decide +kernel
theorem dX12_see_184 : decode cX12_see 184 = .ok (.invokevirtual 517, 3) := by decide +kernel
theorem dX12_see_187 : decode cX12_see 187 = .ok (.iastore, 1) := by decide +kernel
theorem dX12_see_188 : decode cX12_see 188 = .ok (.iinc 3 1, 3) := by decide +kernel
theorem dX12_see_191 : decode cX12_see 191 = .ok (.goto (-65), 3) := by decide +kernel
theorem dX12_see_194 : decode cX12_see 194 = .ok (.aload_n 0, 1) := by decide +kernel
theorem dX12_see_195 : decode cX12_see 195 = .ok (.getfield 334, 3) := by decide +kernel
theorem dX12_see_198 : decode cX12_see 198 = .ok (.ireturn, 1) := by decide +kernel
theorem dX12_seed_0 : decode cX12_seed 0 = .ok (.iload_n 1, 1) := by decide +kernel
theorem dX12_seed_1 : decode cX12_seed 1 = .ok (.ifCond .ge 10, 3) := by decide +kernel
theorem dX12_seed_4 : decode cX12_seed 4 = .ok (.aload_n 0, 1) := by decide +kernel
theorem dX12_seed_5 : decode cX12_seed 5 = .ok (.bipush 6, 2) := by decide +kernel
theorem dX12_seed_7 : decode cX12_seed 7 = .ok (.invokevirtual 172, 3) := by decide +kernel
theorem dX12_seed_10 : decode cX12_seed 10 = .ok (.ireturn, 1) := by decide +kernel
theorem dX12_seed_11 : decode cX12_seed 11 = .ok (.aload_n 0, 1) := by decide +kernel
theorem dX12_seed_12 : decode cX12_seed 12 = .ok (.iload_n 1, 1) := by decide +kernel
theorem dX12_seed_13 : decode cX12_seed 13 = .ok (.i2l, 1) := by decide +kernel
theorem dX12_seed_14 : decode cX12_seed 14 = .ok (.putfield 143, 3) := by decide +kernel
theorem dX12_seed_17 : decode cX12_seed 17 = .ok (.iconst 1, 1) := by decide +kernel
theorem dX12_seed_18 : decode cX12_seed 18 = .ok (.ireturn, 1) := by decide +kernel
theorem dX12_seenAddress_0 : decode cX12_seenAddress 0 = .ok (.aload_n 0, 1) := by decide +kernel
theorem dX12_seenAddress_1 : decode cX12_seenAddress 1 = .ok (.getfield 7, 3) := by decide +kernel
theorem dX12_seenAddress_4 : decode cX12_seenAddress 4 = .ok (.iload_n 1, 1) := by decide +kernel
theorem dX12_seenAddress_5 : decode cX12_seenAddress 5 = .ok (.iaload, 1) := by decide +kernel
theorem dX12_seenAddress_6 : decode cX12_seenAddress 6 = .ok (.sipush 248, 3) := by decide +kernel
theorem dX12_seenAddress_9 : decode cX12_seenAddress 9 = .ok (.if_icmp .lt 16, 3) := by decide +kernel
theorem dX12_seenAddress_12 : decode cX12_seenAddress 12 = .ok (.aload_n 0, 1) := by decide +kernel
theorem dX12_seenAddress_13 : decode cX12_seenAddress 13 = .ok (.getfield 7, 3) := by decide +kernel
theorem dX12_seenAddress_16 : decode cX12_seenAddress 16 = .ok (.iload_n 1, 1) := by decide +kernel
theorem dX12_seenAddress_17 : decode cX12_seenAddress 17 = .ok (.iaload, 1) := by decide +kernel
theorem dX12_seenAddress_18 : decode cX12_seenAddress 18 = .ok (.sipush 256, 3) := by decide +kernel
theorem dX12_seenAddress_21 : decode cX12_seenAddress 21 = .ok (.isub, 1) := by decide +kernel
theorem dX12_seenAddress_22 : decode cX12_seenAddress 22 = .ok (.goto 9, 3) := by decide +kernel
theorem dX12_seenAddress_25 : decode cX12_seenAddress 25 = .ok (.aload_n 0, 1) := by decide +kernel
theorem dX12_seenAddress_26 : decode cX12_seenAddress 26 = .ok (.getfield 7, 3) := by decide +kernel
theorem dX12_seenAddress_29 : decode cX12_seenAddress 29 = .ok (.iload_n 1, 1) := by decide +kernel
theorem dX12_seenAddress_30 : decode cX12_seenAddress 30 = .ok (.iaload, 1) := by decide +kernel
theorem dX12_seenAddress_31 : decode cX12_seenAddress 31 = .ok (.ireturn, 1) := by decide +kernel
theorem dX12_setTold_0 : decode cX12_setTold 0 = .ok (.aload_n 0, 1) := by decide +kernel
theorem dX12_setTold_1 : decode cX12_setTold 1 = .ok (.invokevirtual 273, 3) := by decide +kernel
theorem dX12_setTold_4 : decode cX12_setTold 4 = .ok (.istore_n 1, 1) := by decide +kernel
theorem dX12_setTold_5 : decode cX12_setTold 5 = .ok (.aload_n 0, 1) := by decide +kernel
theorem dX12_setTold_6 : decode cX12_setTold 6 = .ok (.bipush 46, 2) := by decide +kernel
theorem dX12_setTold_8 : decode cX12_setTold 8 = .ok (.invokevirtual 290, 3) := by decide +kernel
theorem dX12_setTold_11 : decode cX12_setTold 11 = .ok (.aload_n 0, 1) := by decide +kernel
theorem dX12_setTold_12 : decode cX12_setTold 12 = .ok (.getfield 194, 3) := by decide +kernel
theorem dX12_setTold_15 : decode cX12_setTold 15 = .ok (.ifCond .eq 4, 3) := by decide +kernel
theorem dX12_setTold_18 : decode cX12_setTold 18 = .ok (.return_, 1) := by decide +kernel
theorem dX12_setTold_19 : decode cX12_setTold 19 = .ok (.aload_n 0, 1) := by decide +kernel
theorem dX12_setTold_20 : decode cX12_setTold 20 = .ok (.getfield 81, 3) := by decide +kernel
theorem dX12_setTold_23 : decode cX12_setTold 23 = .ok (.iload_n 1, 1) := by decide +kernel
theorem dX12_setTold_24 : decode cX12_setTold 24 = .ok (.invokestatic 244, 3) := by decide +kernel
theorem dX12_setTold_27 : decode cX12_setTold 27 = .ok (.istore_n 2, 1) := by decide +kernel
theorem dX12_setTold_28 : decode cX12_setTold 28 = .ok (.aload_n 0, 1) := by decide +kernel
theorem dX12_setTold_29 : decode cX12_setTold 29 = .ok (.iconst 0, 1) := by decide +kernel
theorem dX12_setTold_30 : decode cX12_setTold 30 = .ok (.aload_n 0, 1) := by decide +kernel
theorem dX12_setTold_31 : decode cX12_setTold 31 = .ok (.getfield 63, 3) := by decide +kernel
theorem dX12_setTold_34 : decode cX12_setTold 34 = .ok (.iload_n 2, 1) := by decide +kernel
theorem dX12_setTold_35 : decode cX12_setTold 35 = .ok (.iaload, 1) := by decide +kernel
theorem dX12_setTold_36 : decode cX12_setTold 36 = .ok (.iconst 1, 1) := by decide +kernel
theorem dX12_setTold_37 : decode cX12_setTold 37 = .ok (.isub, 1) := by decide +kernel
theorem dX12_setTold_38 : decode cX12_setTold 38 = .ok (.invokevirtual 276, 3) := by decide +kernel
theorem dX12_setTold_41 : decode cX12_setTold 41 = .ok (.istore_n 3, 1) := by decide +kernel
theorem dX12_setTold_42 : decode cX12_setTold 42 = .ok (.aload_n 0, 1) := by decide +kernel
theorem dX12_setTold_43 : decode cX12_setTold 43 = .ok (.getfield 194, 3) := by decide +kernel
theorem dX12_setTold_46 : decode cX12_setTold 46 = .ok (.ifCond .ne 23, 3) := by decide +kernel
theorem dX12_setTold_49 : decode cX12_setTold 49 = .ok (.aload_n 0, 1) := by decide +kernel
theorem dX12_setTold_50 : decode cX12_setTold 50 = .ok (.aload_n 0, 1) := by decide +kernel
theorem dX12_setTold_51 : decode cX12_setTold 51 = .ok (.getfield 66, 3) := by decide +kernel
theorem dX12_setTold_54 : decode cX12_setTold 54 = .ok (.bipush 6, 2) := by decide +kernel
theorem dX12_setTold_56 : decode cX12_setTold 56 = .ok (.iload_n 2, 1) := by decide +kernel
theorem dX12_setTold_57 : decode cX12_setTold 57 = .ok (.imul, 1) := by decide +kernel
theorem dX12_setTold_58 : decode cX12_setTold 58 = .ok (.iload_n 3, 1) := by decide +kernel
theorem dX12_setTold_59 : decode cX12_setTold 59 = .ok (.iadd, 1) := by decide +kernel
theorem dX12_setTold_60 : decode cX12_setTold 60 = .ok (.iaload, 1) := by decide +kernel
theorem dX12_setTold_61 : decode cX12_setTold 61 = .ok (.iload_n 1, 1) := by decide +kernel
theorem dX12_setTold_62 : decode cX12_setTold 62 = .ok (.iconst 1, 1) := by decide +kernel
theorem dX12_setTold_63 : decode cX12_setTold 63 = .ok (.iadd, 1) := by decide +kernel
theorem dX12_setTold_64 : decode cX12_setTold 64 = .ok (.iload_n 3, 1) := by decide +kernel
theorem dX12_setTold_65 : decode cX12_setTold 65 = .ok (.iadd, 1) := by decide +kernel
theorem dX12_setTold_66 : decode cX12_setTold 66 = .ok (.invokevirtual 294, 3) := by decide +kernel
theorem dX12_setTold_69 : decode cX12_setTold 69 = .ok (.return_, 1) := by decide +kernel
theorem dX12_settles_0 : decode cX12_settles 0 = .ok (.aload_n 0, 1) := by decide +kernel
theorem dX12_settles_1 : decode cX12_settles 1 = .ok (.invokevirtual 381, 3) := by decide +kernel
theorem dX12_settles_4 : decode cX12_settles 4 = .ok (.aload_n 0, 1) := by decide +kernel
theorem dX12_settles_5 : decode cX12_settles 5 = .ok (.iconst (-1), 1) := by decide +kernel
theorem dX12_settles_6 : decode cX12_settles 6 = .ok (.iconst (-1), 1) := by decide +kernel
theorem dX12_settles_7 : decode cX12_settles 7 = .ok (.invokevirtual 384, 3) := by decide +kernel
theorem dX12_settles_10 : decode cX12_settles 10 = .ok (.aload_n 0, 1) := by decide +kernel
theorem dX12_settles_11 : decode cX12_settles 11 = .ok (.invokevirtual 387, 3) := by decide +kernel
theorem dX12_settles_14 : decode cX12_settles 14 = .ok (.return_, 1) := by decide +kernel
theorem dX12_shapes_0 : decode cX12_shapes 0 = .ok (.aload_n 0, 1) := by decide +kernel
theorem dX12_shapes_1 : decode cX12_shapes 1 = .ok (.getfield 121, 3) := by decide +kernel
theorem dX12_shapes_4 : decode cX12_shapes 4 = .ok (.aload_n 0, 1) := by decide +kernel
theorem dX12_shapes_5 : decode cX12_shapes 5 = .ok (.getfield 493, 3) := by decide +kernel
theorem dX12_shapes_8 : decode cX12_shapes 8 = .ok (.iload_n 1, 1) := by decide +kernel
theorem dX12_shapes_9 : decode cX12_shapes 9 = .ok (.iastore, 1) := by decide +kernel
theorem dX12_shapes_10 : decode cX12_shapes 10 = .ok (.aload_n 0, 1) := by decide +kernel
theorem dX12_shapes_11 : decode cX12_shapes 11 = .ok (.dup, 1) := by decide +kernel
theorem dX12_shapes_12 : decode cX12_shapes 12 = .ok (.getfield 493, 3) := by decide +kernel
theorem dX12_shapes_15 : decode cX12_shapes 15 = .ok (.iconst 1, 1) := by decide +kernel
theorem dX12_shapes_16 : decode cX12_shapes 16 = .ok (.iadd, 1) := by decide +kernel
theorem dX12_shapes_17 : decode cX12_shapes 17 = .ok (.putfield 493, 3) := by decide +kernel
theorem dX12_shapes_20 : decode cX12_shapes 20 = .ok (.return_, 1) := by decide +kernel
theorem dX12_shapesAll_0 : decode cX12_shapesAll 0 = .ok (.aload_n 0, 1) := by decide +kernel
theorem dX12_shapesAll_1 : decode cX12_shapesAll 1 = .ok (.invokevirtual 490, 3) := by decide +kernel
theorem dX12_shapesAll_4 : decode cX12_shapesAll 4 = .ok (.aload_n 0, 1) := by decide +kernel
theorem dX12_shapesAll_5 : decode cX12_shapesAll 5 = .ok (.iconst 0, 1) := by decide +kernel
theorem dX12_shapesAll_6 : decode cX12_shapesAll 6 = .ok (.putfield 493, 3) := by decide +kernel
theorem dX12_shapesAll_9 : decode cX12_shapesAll 9 = .ok (.bipush (-8), 2) := by decide +kernel
theorem dX12_shapesAll_11 : decode cX12_shapesAll 11 = .ok (.istore_n 1, 1) := by decide +kernel
theorem dX12_shapesAll_12 : decode cX12_shapesAll 12 = .ok (.iload_n 1, 1) := by decide +kernel
theorem dX12_shapesAll_13 : decode cX12_shapesAll 13 = .ok (.ifCond .ge 14, 3) := by decide +kernel
theorem dX12_shapesAll_16 : decode cX12_shapesAll 16 = .ok (.aload_n 0, 1) := by decide +kernel
theorem dX12_shapesAll_17 : decode cX12_shapesAll 17 = .ok (.iload_n 1, 1) := by decide +kernel
theorem dX12_shapesAll_18 : decode cX12_shapesAll 18 = .ok (.invokevirtual 499, 3) := by decide +kernel
theorem dX12_shapesAll_21 : decode cX12_shapesAll 21 = .ok (.iinc 1 1, 3) := by decide +kernel
theorem dX12_shapesAll_24 : decode cX12_shapesAll 24 = .ok (.goto (-12), 3) := by decide +kernel
theorem dX12_shapesAll_27 : decode cX12_shapesAll 27 = .ok (.iconst 0, 1) := by decide +kernel
theorem dX12_shapesAll_28 : decode cX12_shapesAll 28 = .ok (.istore_n 1, 1) := by decide +kernel
theorem dX12_shapesAll_29 : decode cX12_shapesAll 29 = .ok (.iload_n 1, 1) := by decide +kernel
theorem dX12_shapesAll_30 : decode cX12_shapesAll 30 = .ok (.aload_n 0, 1) := by decide +kernel
theorem dX12_shapesAll_31 : decode cX12_shapesAll 31 = .ok (.getfield 484, 3) := by decide +kernel
theorem dX12_shapesAll_34 : decode cX12_shapesAll 34 = .ok (.if_icmp .ge 60, 3) := by decide +kernel
theorem dX12_shapesAll_37 : decode cX12_shapesAll 37 = .ok (.aload_n 0, 1) := by decide +kernel
theorem dX12_shapesAll_38 : decode cX12_shapesAll 38 = .ok (.getfield 115, 3) := by decide +kernel
theorem dX12_shapesAll_41 : decode cX12_shapesAll 41 = .ok (.iload_n 1, 1) := by decide +kernel
theorem dX12_shapesAll_42 : decode cX12_shapesAll 42 = .ok (.iaload, 1) := by decide +kernel
theorem dX12_shapesAll_43 : decode cX12_shapesAll 43 = .ok (.istore_n 2, 1) := by decide +kernel
theorem dX12_shapesAll_44 : decode cX12_shapesAll 44 = .ok (.aload_n 0, 1) := by decide +kernel
theorem dX12_shapesAll_45 : decode cX12_shapesAll 45 = .ok (.aload_n 0, 1) := by decide +kernel
theorem dX12_shapesAll_46 : decode cX12_shapesAll 46 = .ok (.iload_n 2, 1) := by decide +kernel
theorem dX12_shapesAll_47 : decode cX12_shapesAll 47 = .ok (.invokevirtual 353, 3) := by decide +kernel
theorem dX12_shapesAll_50 : decode cX12_shapesAll 50 = .ok (.invokevirtual 496, 3) := by decide +kernel
theorem dX12_shapesAll_53 : decode cX12_shapesAll 53 = .ok (.iconst 0, 1) := by decide +kernel
theorem dX12_shapesAll_54 : decode cX12_shapesAll 54 = .ok (.istore_n 3, 1) := by decide +kernel
theorem dX12_shapesAll_55 : decode cX12_shapesAll 55 = .ok (.iload_n 3, 1) := by decide +kernel
theorem dX12_shapesAll_56 : decode cX12_shapesAll 56 = .ok (.aload_n 0, 1) := by decide +kernel
theorem dX12_shapesAll_57 : decode cX12_shapesAll 57 = .ok (.aload_n 0, 1) := by decide +kernel
theorem dX12_shapesAll_58 : decode cX12_shapesAll 58 = .ok (.iload_n 2, 1) := by decide +kernel
theorem dX12_shapesAll_59 : decode cX12_shapesAll 59 = .ok (.invokevirtual 353, 3) := by decide +kernel
theorem dX12_shapesAll_62 : decode cX12_shapesAll 62 = .ok (.invokevirtual 234, 3) := by decide +kernel
theorem dX12_shapesAll_65 : decode cX12_shapesAll 65 = .ok (.if_icmp .ge 23, 3) := by decide +kernel
theorem dX12_shapesAll_68 : decode cX12_shapesAll 68 = .ok (.aload_n 0, 1) := by decide +kernel
theorem dX12_shapesAll_69 : decode cX12_shapesAll 69 = .ok (.aload_n 0, 1) := by decide +kernel
theorem dX12_shapesAll_70 : decode cX12_shapesAll 70 = .ok (.getfield 87, 3) := by decide +kernel
theorem dX12_shapesAll_73 : decode cX12_shapesAll 73 = .ok (.iload_n 2, 1) := by decide +kernel
theorem dX12_shapesAll_74 : decode cX12_shapesAll 74 = .ok (.iaload, 1) := by decide +kernel
theorem dX12_shapesAll_75 : decode cX12_shapesAll 75 = .ok (.iconst 1, 1) := by decide +kernel
theorem dX12_shapesAll_76 : decode cX12_shapesAll 76 = .ok (.iadd, 1) := by decide +kernel
theorem dX12_shapesAll_77 : decode cX12_shapesAll 77 = .ok (.iload_n 3, 1) := by decide +kernel
theorem dX12_shapesAll_78 : decode cX12_shapesAll 78 = .ok (.iadd, 1) := by decide +kernel
theorem dX12_shapesAll_79 : decode cX12_shapesAll 79 = .ok (.invokevirtual 499, 3) := by decide +kernel
theorem dX12_shapesAll_82 : decode cX12_shapesAll 82 = .ok (.iinc 3 1, 3) := by decide +kernel
