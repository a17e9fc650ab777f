theorem dX6_isRow_73 : decode cX6_isRow 73 = .ok (.if_icmp .gt 7, 3) := by decide +kernel
theorem dX6_isRow_76 : decode cX6_isRow 76 = .ok (.iconst 1, 1) := by decide +kernel
theorem dX6_isRow_77 : decode cX6_isRow 77 = .ok (.goto 4, 3) := by decide +kernel
theorem dX6_isRow_80 : decode cX6_isRow 80 = .ok (.iconst 0, 1) := by decide +kernel
theorem dX6_isRow_81 : decode cX6_isRow 81 = .ok (.ireturn, 1) := by decide +kernel
theorem dX6_isRow_82 : decode cX6_isRow 82 = .ok (.iload 4, 2) := by decide +kernel
theorem dX6_isRow_84 : decode cX6_isRow 84 = .ok (.iconst (-1), 1) := by decide +kernel
theorem dX6_isRow_85 : decode cX6_isRow 85 = .ok (.if_icmp .lt 13, 3) := by decide +kernel
theorem dX6_isRow_88 : decode cX6_isRow 88 = .ok (.iload 4, 2) := by decide +kernel
theorem dX6_isRow_90 : decode cX6_isRow 90 = .ok (.iload_n 2, 1) := by decide +kernel
theorem dX6_isRow_91 : decode cX6_isRow 91 = .ok (.if_icmp .ge 7, 3) := by decide +kernel
theorem dX6_isRow_94 : decode cX6_isRow 94 = .ok (.iconst 1, 1) := by decide +kernel
theorem dX6_isRow_95 : decode cX6_isRow 95 = .ok (.goto 4, 3) := by decide +kernel
theorem dX6_isRow_98 : decode cX6_isRow 98 = .ok (.iconst 0, 1) := by decide +kernel
theorem dX6_isRow_99 : decode cX6_isRow 99 = .ok (.ireturn, 1) := by decide +kernel
theorem dX6_isRow_100 : decode cX6_isRow 100 = .ok (.iload 4, 2) := by decide +kernel
theorem dX6_isRow_102 : decode cX6_isRow 102 = .ok (.ifCond .lt 13, 3) := by decide +kernel
theorem dX6_isRow_105 : decode cX6_isRow 105 = .ok (.iload 4, 2) := by decide +kernel
theorem dX6_isRow_107 : decode cX6_isRow 107 = .ok (.iload_n 3, 1) := by decide +kernel
theorem dX6_isRow_108 : decode cX6_isRow 108 = .ok (.if_icmp .ge 7, 3) := by decide +kernel
theorem dX6_isRow_111 : decode cX6_isRow 111 = .ok (.iconst 1, 1) := by decide +kernel
theorem dX6_isRow_112 : decode cX6_isRow 112 = .ok (.goto 4, 3) := by decide +kernel
theorem dX6_isRow_115 : decode cX6_isRow 115 = .ok (.iconst 0, 1) := by decide +kernel
theorem dX6_isRow_116 : decode cX6_isRow 116 = .ok (.ireturn, 1) := by decide +kernel
theorem dX6_isRow_117 : decode cX6_isRow 117 = .ok (.iload 4, 2) := by decide +kernel
theorem dX6_isRow_119 : decode cX6_isRow 119 = .ok (.bipush (-8), 2) := by decide +kernel
theorem dX6_isRow_121 : decode cX6_isRow 121 = .ok (.if_icmp .lt 13, 3) := by decide +kernel
theorem dX6_isRow_124 : decode cX6_isRow 124 = .ok (.iload 4, 2) := by decide +kernel
theorem dX6_isRow_126 : decode cX6_isRow 126 = .ok (.iload_n 2, 1) := by decide +kernel
theorem dX6_isRow_127 : decode cX6_isRow 127 = .ok (.if_icmp .ge 7, 3) := by decide +kernel
theorem dX6_isRow_130 : decode cX6_isRow 130 = .ok (.iconst 1, 1) := by decide +kernel
theorem dX6_isRow_131 : decode cX6_isRow 131 = .ok (.goto 4, 3) := by decide +kernel
theorem dX6_isRow_134 : decode cX6_isRow 134 = .ok (.iconst 0, 1) := by decide +kernel
theorem dX6_isRow_135 : decode cX6_isRow 135 = .ok (.ireturn, 1) := by decide +kernel
theorem dX6_isRow_136 : decode cX6_isRow 136 = .ok (.iconst 0, 1) := by decide +kernel
theorem dX6_isRow_137 : decode cX6_isRow 137 = .ok (.ireturn, 1) := by decide +kernel
theorem dX6_mostAlike_0 : decode cX6_mostAlike 0 = .ok (.aload_n 0, 1) := by decide +kernel
theorem dX6_mostAlike_1 : decode cX6_mostAlike 1 = .ok (.getfield 41, 3) := by decide +kernel
theorem dX6_mostAlike_4 : decode cX6_mostAlike 4 = .ok (.ifnull 10, 3) := by decide +kernel
theorem dX6_mostAlike_7 : decode cX6_mostAlike 7 = .ok (.aload_n 0, 1) := by decide +kernel
theorem dX6_mostAlike_8 : decode cX6_mostAlike 8 = .ok (.getfield 44, 3) := by decide +kernel
theorem dX6_mostAlike_11 : decode cX6_mostAlike 11 = .ok (.ifnonnull 5, 3) := by decide +kernel
theorem dX6_mostAlike_14 : decode cX6_mostAlike 14 = .ok (.iconst 0, 1) := by decide +kernel
theorem dX6_mostAlike_15 : decode cX6_mostAlike 15 = .ok (.ireturn, 1) := by decide +kernel
theorem dX6_mostAlike_16 : decode cX6_mostAlike 16 = .ok (.iconst 0, 1) := by decide +kernel
theorem dX6_mostAlike_17 : decode cX6_mostAlike 17 = .ok (.istore_n 2, 1) := by decide +kernel
theorem dX6_mostAlike_18 : decode cX6_mostAlike 18 = .ok (.iconst 0, 1) := by decide +kernel
theorem dX6_mostAlike_19 : decode cX6_mostAlike 19 = .ok (.istore_n 3, 1) := by decide +kernel
theorem dX6_mostAlike_20 : decode cX6_mostAlike 20 = .ok (.iload_n 3, 1) := by decide +kernel
theorem dX6_mostAlike_21 : decode cX6_mostAlike 21 = .ok (.aload_n 0, 1) := by decide +kernel
theorem dX6_mostAlike_22 : decode cX6_mostAlike 22 = .ok (.getfield 32, 3) := by decide +kernel
theorem dX6_mostAlike_25 : decode cX6_mostAlike 25 = .ok (.if_icmp .ge 46, 3) := by decide +kernel
theorem dX6_mostAlike_28 : decode cX6_mostAlike 28 = .ok (.aload_n 0, 1) := by decide +kernel
theorem dX6_mostAlike_29 : decode cX6_mostAlike 29 = .ok (.getfield 41, 3) := by decide +kernel
theorem dX6_mostAlike_32 : decode cX6_mostAlike 32 = .ok (.iload_n 3, 1) := by decide +kernel
theorem dX6_mostAlike_33 : decode cX6_mostAlike 33 = .ok (.sipush 160, 3) := by decide +kernel
theorem dX6_mostAlike_36 : decode cX6_mostAlike 36 = .ok (.imul, 1) := by decide +kernel
theorem dX6_mostAlike_37 : decode cX6_mostAlike 37 = .ok (.iload_n 1, 1) := by decide +kernel
theorem dX6_mostAlike_38 : decode cX6_mostAlike 38 = .ok (.iadd, 1) := by decide +kernel
theorem dX6_mostAlike_39 : decode cX6_mostAlike 39 = .ok (.iaload, 1) := by decide +kernel
theorem dX6_mostAlike_40 : decode cX6_mostAlike 40 = .ok (.istore 4, 2) := by decide +kernel
theorem dX6_mostAlike_42 : decode cX6_mostAlike 42 = .ok (.aload_n 0, 1) := by decide +kernel
theorem dX6_mostAlike_43 : decode cX6_mostAlike 43 = .ok (.getfield 44, 3) := by decide +kernel
theorem dX6_mostAlike_46 : decode cX6_mostAlike 46 = .ok (.iload 4, 2) := by decide +kernel
theorem dX6_mostAlike_48 : decode cX6_mostAlike 48 = .ok (.dup2, 1) := by decide +kernel
theorem dX6_mostAlike_49 : decode cX6_mostAlike 49 = .ok (.iaload, 1) := by decide +kernel
theorem dX6_mostAlike_50 : decode cX6_mostAlike 50 = .ok (.iconst 1, 1) := by decide +kernel
theorem dX6_mostAlike_51 : decode cX6_mostAlike 51 = .ok (.iadd, 1) := by decide +kernel
theorem dX6_mostAlike_52 : decode cX6_mostAlike 52 = .ok (.iastore, 1) := by decide +kernel
theorem dX6_mostAlike_53 : decode cX6_mostAlike 53 = .ok (.iload_n 2, 1) := by decide +kernel
theorem dX6_mostAlike_54 : decode cX6_mostAlike 54 = .ok (.aload_n 0, 1) := by decide +kernel
theorem dX6_mostAlike_55 : decode cX6_mostAlike 55 = .ok (.getfield 44, 3) := by decide +kernel
theorem dX6_mostAlike_58 : decode cX6_mostAlike 58 = .ok (.iload 4, 2) := by decide +kernel
theorem dX6_mostAlike_60 : decode cX6_mostAlike 60 = .ok (.iaload, 1) := by decide +kernel
theorem dX6_mostAlike_61 : decode cX6_mostAlike 61 = .ok (.invokestatic 108, 3) := by decide +kernel
theorem dX6_mostAlike_64 : decode cX6_mostAlike 64 = .ok (.istore_n 2, 1) := by decide +kernel
theorem dX6_mostAlike_65 : decode cX6_mostAlike 65 = .ok (.iinc 3 1, 3) := by decide +kernel
theorem dX6_mostAlike_68 : decode cX6_mostAlike 68 = .ok (.goto (-48), 3) := by decide +kernel
theorem dX6_mostAlike_71 : decode cX6_mostAlike 71 = .ok (.iconst 0, 1) := by decide +kernel
theorem dX6_mostAlike_72 : decode cX6_mostAlike 72 = .ok (.istore_n 3, 1) := by decide +kernel
theorem dX6_mostAlike_73 : decode cX6_mostAlike 73 = .ok (.iload_n 3, 1) := by decide +kernel
theorem dX6_mostAlike_74 : decode cX6_mostAlike 74 = .ok (.aload_n 0, 1) := by decide +kernel
theorem dX6_mostAlike_75 : decode cX6_mostAlike 75 = .ok (.getfield 32, 3) := by decide +kernel
theorem dX6_mostAlike_78 : decode cX6_mostAlike 78 = .ok (.if_icmp .ge 27, 3) := by decide +kernel
theorem dX6_mostAlike_81 : decode cX6_mostAlike 81 = .ok (.aload_n 0, 1) := by decide +kernel
theorem dX6_mostAlike_82 : decode cX6_mostAlike 82 = .ok (.getfield 44, 3) := by decide +kernel
theorem dX6_mostAlike_85 : decode cX6_mostAlike 85 = .ok (.aload_n 0, 1) := by decide +kernel
theorem dX6_mostAlike_86 : decode cX6_mostAlike 86 = .ok (.getfield 41, 3) := by decide +kernel
theorem dX6_mostAlike_89 : decode cX6_mostAlike 89 = .ok (.iload_n 3, 1) := by decide +kernel
theorem dX6_mostAlike_90 : decode cX6_mostAlike 90 = .ok (.sipush 160, 3) := by decide +kernel
theorem dX6_mostAlike_93 : decode cX6_mostAlike 93 = .ok (.imul, 1) := by decide +kernel
theorem dX6_mostAlike_94 : decode cX6_mostAlike 94 = .ok (.iload_n 1, 1) := by decide +kernel
theorem dX6_mostAlike_95 : decode cX6_mostAlike 95 = .ok (.iadd, 1) := by decide +kernel
theorem dX6_mostAlike_96 : decode cX6_mostAlike 96 = .ok (.iaload, 1) := by decide +kernel
theorem dX6_mostAlike_97 : decode cX6_mostAlike 97 = .ok (.iconst 0, 1) := by decide +kernel
theorem dX6_mostAlike_98 : decode cX6_mostAlike 98 = .ok (.iastore, 1) := by decide +kernel
theorem dX6_mostAlike_99 : decode cX6_mostAlike 99 = .ok (.iinc 3 1, 3) := by decide +kernel
theorem dX6_mostAlike_102 : decode cX6_mostAlike 102 = .ok (.goto (-29), 3) := by decide +kernel
theorem dX6_mostAlike_105 : decode cX6_mostAlike 105 = .ok (.iload_n 2, 1) := by decide +kernel
theorem dX6_mostAlike_106 : decode cX6_mostAlike 106 = .ok (.ireturn, 1) := by decide +kernel
theorem dX6_pickTelling_0 : decode cX6_pickTelling 0 = .ok (.aload_n 0, 1) := by decide +kernel
theorem dX6_pickTelling_1 : decode cX6_pickTelling 1 = .ok (.iconst (-1), 1) := by decide +kernel
theorem dX6_pickTelling_2 : decode cX6_pickTelling 2 = .ok (.putfield 35, 3) := by decide +kernel
theorem dX6_pickTelling_5 : decode cX6_pickTelling 5 = .ok (.aload_n 0, 1) := by decide +kernel
theorem dX6_pickTelling_6 : decode cX6_pickTelling 6 = .ok (.iconst (-1), 1) := by decide +kernel
theorem dX6_pickTelling_7 : decode cX6_pickTelling 7 = .ok (.putfield 38, 3) := by decide +kernel
theorem dX6_pickTelling_10 : decode cX6_pickTelling 10 = .ok (.aload_n 0, 1) := by decide +kernel
theorem dX6_pickTelling_11 : decode cX6_pickTelling 11 = .ok (.getfield 32, 3) := by decide +kernel
theorem dX6_pickTelling_14 : decode cX6_pickTelling 14 = .ok (.ifCond .ne 4, 3) := by decide +kernel
theorem dX6_pickTelling_17 : decode cX6_pickTelling 17 = .ok (.return_, 1) := by decide +kernel
theorem dX6_pickTelling_18 : decode cX6_pickTelling 18 = .ok (.iconst 0, 1) := by decide +kernel
theorem dX6_pickTelling_19 : decode cX6_pickTelling 19 = .ok (.istore_n 2, 1) := by decide +kernel
theorem dX6_pickTelling_20 : decode cX6_pickTelling 20 = .ok (.iload_n 2, 1) := by decide +kernel
theorem dX6_pickTelling_21 : decode cX6_pickTelling 21 = .ok (.iload_n 1, 1) := by decide +kernel
theorem dX6_pickTelling_22 : decode cX6_pickTelling 22 = .ok (.if_icmp .ge 41, 3) := by decide +kernel
theorem dX6_pickTelling_25 : decode cX6_pickTelling 25 = .ok (.aload_n 0, 1) := by decide +kernel
theorem dX6_pickTelling_26 : decode cX6_pickTelling 26 = .ok (.iload_n 2, 1) := by decide +kernel
theorem dX6_pickTelling_27 : decode cX6_pickTelling 27 = .ok (.invokevirtual 105, 3) := by decide +kernel
theorem dX6_pickTelling_30 : decode cX6_pickTelling 30 = .ok (.istore_n 3, 1) := by decide +kernel
theorem dX6_pickTelling_31 : decode cX6_pickTelling 31 = .ok (.aload_n 0, 1) := by decide +kernel
theorem dX6_pickTelling_32 : decode cX6_pickTelling 32 = .ok (.getfield 35, 3) := by decide +kernel
theorem dX6_pickTelling_35 : decode cX6_pickTelling 35 = .ok (.iconst (-1), 1) := by decide +kernel
theorem dX6_pickTelling_36 : decode cX6_pickTelling 36 = .ok (.if_icmp .eq 11, 3) := by decide +kernel
theorem dX6_pickTelling_39 : decode cX6_pickTelling 39 = .ok (.iload_n 3, 1) := by decide +kernel
theorem dX6_pickTelling_40 : decode cX6_pickTelling 40 = .ok (.aload_n 0, 1) := by decide +kernel
theorem dX6_pickTelling_41 : decode cX6_pickTelling 41 = .ok (.getfield 38, 3) := by decide +kernel
theorem dX6_pickTelling_44 : decode cX6_pickTelling 44 = .ok (.if_icmp .ge 13, 3) := by decide +kernel
theorem dX6_pickTelling_47 : decode cX6_pickTelling 47 = .ok (.aload_n 0, 1) := by decide +kernel
theorem dX6_pickTelling_48 : decode cX6_pickTelling 48 = .ok (.iload_n 2, 1) := by decide +kernel
theorem dX6_pickTelling_49 : decode cX6_pickTelling 49 = .ok (.putfield 35, 3) := by decide +kernel
theorem dX6_pickTelling_52 : decode cX6_pickTelling 52 = .ok (.aload_n 0, 1) := by decide +kernel
theorem dX6_pickTelling_53 : decode cX6_pickTelling 53 = .ok (.iload_n 3, 1) := by decide +kernel
theorem dX6_pickTelling_54 : decode cX6_pickTelling 54 = .ok (.putfield 38, 3) := by decide +kernel
theorem dX6_pickTelling_57 : decode cX6_pickTelling 57 = .ok (.iinc 2 1, 3) := by decide +kernel
theorem dX6_pickTelling_60 : decode cX6_pickTelling 60 = .ok (.goto (-40), 3) := by decide +kernel
theorem dX6_pickTelling_63 : decode cX6_pickTelling 63 = .ok (.return_, 1) := by decide +kernel
theorem dX6_rawNumber_0 : decode cX6_rawNumber 0 = .ok (.aload_n 0, 1) := by decide +kernel
theorem dX6_rawNumber_1 : decode cX6_rawNumber 1 = .ok (.iload_n 1, 1) := by decide +kernel
theorem dX6_rawNumber_2 : decode cX6_rawNumber 2 = .ok (.iaload, 1) := by decide +kernel
theorem dX6_rawNumber_3 : decode cX6_rawNumber 3 = .ok (.sipush 256, 3) := by decide +kernel
theorem dX6_rawNumber_6 : decode cX6_rawNumber 6 = .ok (.imul, 1) := by decide +kernel
theorem dX6_rawNumber_7 : decode cX6_rawNumber 7 = .ok (.aload_n 0, 1) := by decide +kernel
theorem dX6_rawNumber_8 : decode cX6_rawNumber 8 = .ok (.iload_n 1, 1) := by decide +kernel
theorem dX6_rawNumber_9 : decode cX6_rawNumber 9 = .ok (.iconst 1, 1) := by decide +kernel
theorem dX6_rawNumber_10 : decode cX6_rawNumber 10 = .ok (.iadd, 1) := by decide +kernel
theorem dX6_rawNumber_11 : decode cX6_rawNumber 11 = .ok (.iaload, 1) := by decide +kernel
theorem dX6_rawNumber_12 : decode cX6_rawNumber 12 = .ok (.iadd, 1) := by decide +kernel
theorem dX6_rawNumber_13 : decode cX6_rawNumber 13 = .ok (.ireturn, 1) := by decide +kernel
theorem dX6_readRows_0 : decode cX6_readRows 0 = .ok (.aload_n 1, 1) := by decide +kernel
theorem dX6_readRows_1 : decode cX6_readRows 1 = .ok (.getfield 51, 3) := by decide +kernel
theorem dX6_readRows_4 : decode cX6_readRows 4 = .ok (.iconst 4, 1) := by decide +kernel
theorem dX6_readRows_5 : decode cX6_readRows 5 = .ok (.idiv, 1) := by decide +kernel
theorem dX6_readRows_6 : decode cX6_readRows 6 = .ok (.istore 4, 2) := by decide +kernel
theorem dX6_readRows_8 : decode cX6_readRows 8 = .ok (.aload_n 1, 1) := by decide +kernel
theorem dX6_readRows_9 : decode cX6_readRows 9 = .ok (.getfield 51, 3) := by decide +kernel
theorem dX6_readRows_12 : decode cX6_readRows 12 = .ok (.iconst 4, 1) := by decide +kernel
theorem dX6_readRows_13 : decode cX6_readRows 13 = .ok (.irem, 1) := by decide +kernel
theorem dX6_readRows_14 : decode cX6_readRows 14 = .ok (.ifCond .ne 16, 3) := by decide +kernel
theorem dX6_readRows_17 : decode cX6_readRows 17 = .ok (.iload 4, 2) := by decide +kernel
theorem dX6_readRows_19 : decode cX6_readRows 19 = .ok (.iconst 1, 1) := by decide +kernel
theorem dX6_readRows_20 : decode cX6_readRows 20 = .ok (.if_icmp .lt 10, 3) := by decide +kernel
theorem dX6_readRows_23 : decode cX6_readRows 23 = .ok (.iload 4, 2) := by decide +kernel
theorem dX6_readRows_25 : decode cX6_readRows 25 = .ok (.bipush 16, 2) := by decide +kernel
theorem dX6_readRows_27 : decode cX6_readRows 27 = .ok (.if_icmp .le 5, 3) := by decide +kernel
theorem dX6_readRows_30 : decode cX6_readRows 30 = .ok (.iconst 0, 1) := by decide +kernel
theorem dX6_readRows_31 : decode cX6_readRows 31 = .ok (.ireturn, 1) := by decide +kernel
theorem dX6_readRows_32 : decode cX6_readRows 32 = .ok (.iconst 0, 1) := by decide +kernel
theorem dX6_readRows_33 : decode cX6_readRows 33 = .ok (.istore 5, 2) := by decide +kernel
theorem dX6_readRows_35 : decode cX6_readRows 35 = .ok (.iload 5, 2) := by decide +kernel
theorem dX6_readRows_37 : decode cX6_readRows 37 = .ok (.iload 4, 2) := by decide +kernel
theorem dX6_readRows_39 : decode cX6_readRows 39 = .ok (.if_icmp .ge 27, 3) := by decide +kernel
theorem dX6_readRows_42 : decode cX6_readRows 42 = .ok (.aload_n 1, 1) := by decide +kernel
theorem dX6_readRows_43 : decode cX6_readRows 43 = .ok (.getfield 56, 3) := by decide +kernel
theorem dX6_readRows_46 : decode cX6_readRows 46 = .ok (.iload 5, 2) := by decide +kernel
theorem dX6_readRows_48 : decode cX6_readRows 48 = .ok (.iconst 4, 1) := by decide +kernel
theorem dX6_readRows_49 : decode cX6_readRows 49 = .ok (.imul, 1) := by decide +kernel
theorem dX6_readRows_50 : decode cX6_readRows 50 = .ok (.iload_n 2, 1) := by decide +kernel
theorem dX6_readRows_51 : decode cX6_readRows 51 = .ok (.iload_n 3, 1) := by decide +kernel
theorem dX6_readRows_52 : decode cX6_readRows 52 = .ok (.invokestatic 59, 3) := by decide +kernel
theorem dX6_readRows_55 : decode cX6_readRows 55 = .ok (.ifCond .ne 5, 3) := by decide +kernel
theorem dX6_readRows_58 : decode cX6_readRows 58 = .ok (.iconst 0, 1) := by decide +kernel
theorem dX6_readRows_59 : decode cX6_readRows 59 = .ok (.ireturn, 1) := by decide +kernel
theorem dX6_readRows_60 : decode cX6_readRows 60 = .ok (.iinc 5 1, 3) := by decide +kernel
theorem dX6_readRows_63 : decode cX6_readRows 63 = .ok (.goto (-28), 3) := by decide +kernel
theorem dX6_readRows_66 : decode cX6_readRows 66 = .ok (.iconst 0, 1) := by decide +kernel
theorem dX6_readRows_67 : decode cX6_readRows 67 = .ok (.istore 5, 2) := by decide +kernel
theorem dX6_readRows_69 : decode cX6_readRows 69 = .ok (.iload 5, 2) := by decide +kernel
theorem dX6_readRows_71 : decode cX6_readRows 71 = .ok (.iload 4, 2) := by decide +kernel
theorem dX6_readRows_73 : decode cX6_readRows 73 = .ok (.if_icmp .ge 63, 3) := by decide +kernel
theorem dX6_readRows_76 : decode cX6_readRows 76 = .ok (.aload_n 0, 1) := by decide +kernel
theorem dX6_readRows_77 : decode cX6_readRows 77 = .ok (.getfield 18, 3) := by decide +kernel
theorem dX6_readRows_80 : decode cX6_readRows 80 = .ok (.iload 5, 2) := by decide +kernel
theorem dX6_readRows_82 : decode cX6_readRows 82 = .ok (.aload_n 1, 1) := by decide +kernel
theorem dX6_readRows_83 : decode cX6_readRows 83 = .ok (.getfield 56, 3) := by decide +kernel
theorem dX6_readRows_86 : decode cX6_readRows 86 = .ok (.iload 5, 2) := by decide +kernel
theorem dX6_readRows_88 : decode cX6_readRows 88 = .ok (.iconst 4, 1) := by decide +kernel
theorem dX6_readRows_89 : decode cX6_readRows 89 = .ok (.imul, 1) := by decide +kernel
theorem dX6_readRows_90 : decode cX6_readRows 90 = .ok (.iaload, 1) := by decide +kernel
theorem dX6_readRows_91 : decode cX6_readRows 91 = .ok (.invokestatic 63, 3) := by decide +kernel
theorem dX6_readRows_94 : decode cX6_readRows 94 = .ok (.iastore, 1) := by decide +kernel
theorem dX6_readRows_95 : decode cX6_readRows 95 = .ok (.aload_n 0, 1) := by decide +kernel
theorem dX6_readRows_96 : decode cX6_readRows 96 = .ok (.getfield 22, 3) := by decide +kernel
theorem dX6_readRows_99 : decode cX6_readRows 99 = .ok (.iload 5, 2) := by decide +kernel
theorem dX6_readRows_101 : decode cX6_readRows 101 = .ok (.aload_n 1, 1) := by decide +kernel
theorem dX6_readRows_102 : decode cX6_readRows 102 = .ok (.getfield 56, 3) := by decide +kernel
theorem dX6_readRows_105 : decode cX6_readRows 105 = .ok (.iload 5, 2) := by decide +kernel
theorem dX6_readRows_107 : decode cX6_readRows 107 = .ok (.iconst 4, 1) := by decide +kernel
theorem dX6_readRows_108 : decode cX6_readRows 108 = .ok (.imul, 1) := by decide +kernel
theorem dX6_readRows_109 : decode cX6_readRows 109 = .ok (.iconst 1, 1) := by decide +kernel
theorem dX6_readRows_110 : decode cX6_readRows 110 = .ok (.iadd, 1) := by decide +kernel
theorem dX6_readRows_111 : decode cX6_readRows 111 = .ok (.iaload, 1) := by decide +kernel
theorem dX6_readRows_112 : decode cX6_readRows 112 = .ok (.bipush 11, 2) := by decide +kernel
theorem dX6_readRows_114 : decode cX6_readRows 114 = .ok (.ishl, 1) := by decide +kernel
theorem dX6_readRows_115 : decode cX6_readRows 115 = .ok (.aload_n 1, 1) := by decide +kernel
theorem dX6_readRows_116 : decode cX6_readRows 116 = .ok (.getfield 56, 3) := by decide +kernel
theorem dX6_readRows_119 : decode cX6_readRows 119 = .ok (.iload 5, 2) := by decide +kernel
theorem dX6_readRows_121 : decode cX6_readRows 121 = .ok (.iconst 4, 1) := by decide +kernel
theorem dX6_readRows_122 : decode cX6_readRows 122 = .ok (.imul, 1) := by decide +kernel
theorem dX6_readRows_123 : decode cX6_readRows 123 = .ok (.iconst 2, 1) := by decide +kernel
theorem dX6_readRows_124 : decode cX6_readRows 124 = .ok (.iadd, 1) := by decide +kernel
theorem dX6_readRows_125 : decode cX6_readRows 125 = .ok (.invokestatic 67, 3) := by decide +kernel
theorem dX6_readRows_128 : decode cX6_readRows 128 = .ok (.iadd, 1) := by decide +kernel
theorem dX6_readRows_129 : decode cX6_readRows 129 = .ok (.iastore, 1) := by decide +kernel
theorem dX6_readRows_130 : decode cX6_readRows 130 = .ok (.iinc 5 1, 3) := by decide +kernel
theorem dX6_readRows_133 : decode cX6_readRows 133 = .ok (.goto (-64), 3) := by decide +kernel
theorem dX6_readRows_136 : decode cX6_readRows 136 = .ok (.aload_n 0, 1) := by decide +kernel
theorem dX6_readRows_137 : decode cX6_readRows 137 = .ok (.iload 4, 2) := by decide +kernel
theorem dX6_readRows_139 : decode cX6_readRows 139 = .ok (.putfield 25, 3) := by decide +kernel
theorem dX6_readRows_142 : decode cX6_readRows 142 = .ok (.iconst 1, 1) := by decide +kernel
theorem dX6_readRows_143 : decode cX6_readRows 143 = .ok (.ireturn, 1) := by decide +kernel
theorem dX6_search_0 : decode cX6_search 0 = .ok (.iload_n 2, 1) := by decide +kernel
theorem dX6_search_1 : decode cX6_search 1 = .ok (.ifCond .eq 27, 3) := by decide +kernel
theorem dX6_search_4 : decode cX6_search 4 = .ok (.aload_n 0, 1) := by decide +kernel
theorem dX6_search_5 : decode cX6_search 5 = .ok (.getfield 41, 3) := by decide +kernel
theorem dX6_search_8 : decode cX6_search 8 = .ok (.ifnonnull 20, 3) := by decide +kernel
theorem dX6_search_11 : decode cX6_search 11 = .ok (.aload_n 0, 1) := by decide +kernel
theorem dX6_search_12 : decode cX6_search 12 = .ok (.ldc 71, 2) := by decide +kernel
theorem dX6_search_14 : decode cX6_search 14 = .ok (.newarray .int, 2) := by decide +kernel
theorem dX6_search_16 : decode cX6_search 16 = .ok (.putfield 41, 3) := by decide +kernel
theorem dX6_search_19 : decode cX6_search 19 = .ok (.aload_n 0, 1) := by decide +kernel
theorem dX6_search_20 : decode cX6_search 20 = .ok (.sipush 8192, 3) := by decide +kernel
theorem dX6_search_23 : decode cX6_search 23 = .ok (.newarray .int, 2) := by decide +kernel
theorem dX6_search_25 : decode cX6_search 25 = .ok (.putfield 44, 3) := by decide +kernel
theorem dX6_search_28 : decode cX6_search 28 = .ok (.aload_n 0, 1) := by decide +kernel
theorem dX6_search_29 : decode cX6_search 29 = .ok (.getfield 12, 3) := by decide +kernel
theorem dX6_search_32 : decode cX6_search 32 = .ok (.aload_n 1, 1) := by decide +kernel
theorem dX6_search_33 : decode cX6_search 33 = .ok (.invokevirtual 72, 3) := by decide +kernel
theorem dX6_search_36 : decode cX6_search 36 = .ok (.aload_n 0, 1) := by decide +kernel
theorem dX6_search_37 : decode cX6_search 37 = .ok (.getfield 47, 3) := by decide +kernel
theorem dX6_search_40 : decode cX6_search 40 = .ok (.aload_n 0, 1) := by decide +kernel
theorem dX6_search_41 : decode cX6_search 41 = .ok (.getfield 12, 3) := by decide +kernel
theorem dX6_search_44 : decode cX6_search 44 = .ok (.invokevirtual 76, 3) := by decide +kernel
theorem dX6_search_47 : decode cX6_search 47 = .ok (.aload_n 0, 1) := by decide +kernel
theorem dX6_search_48 : decode cX6_search 48 = .ok (.getfield 12, 3) := by decide +kernel
theorem dX6_search_51 : decode cX6_search 51 = .ok (.iconst 1, 1) := by decide +kernel
theorem dX6_search_52 : decode cX6_search 52 = .ok (.putfield 81, 3) := by decide +kernel
theorem dX6_search_55 : decode cX6_search 55 = .ok (.aload_n 0, 1) := by decide +kernel
theorem dX6_search_56 : decode cX6_search 56 = .ok (.getfield 47, 3) := by decide +kernel
theorem dX6_search_59 : decode cX6_search 59 = .ok (.aload_n 0, 1) := by decide +kernel
theorem dX6_search_60 : decode cX6_search 60 = .ok (.getfield 12, 3) := by decide +kernel
theorem dX6_search_63 : decode cX6_search 63 = .ok (.invokevirtual 85, 3) := by decide +kernel
theorem dX6_search_66 : decode cX6_search 66 = .ok (.istore_n 3, 1) := by decide +kernel
theorem dX6_search_67 : decode cX6_search 67 = .ok (.aload_n 0, 1) := by decide +kernel
theorem dX6_search_68 : decode cX6_search 68 = .ok (.iconst 0, 1) := by decide +kernel
theorem dX6_search_69 : decode cX6_search 69 = .ok (.putfield 32, 3) := by decide +kernel
theorem dX6_search_72 : decode cX6_search 72 = .ok (.iconst 0, 1) := by decide +kernel
theorem dX6_search_73 : decode cX6_search 73 = .ok (.istore 4, 2) := by decide +kernel
theorem dX6_search_75 : decode cX6_search 75 = .ok (.iload 4, 2) := by decide +kernel
theorem dX6_search_77 : decode cX6_search 77 = .ok (.iload_n 3, 1) := by decide +kernel
theorem dX6_search_78 : decode cX6_search 78 = .ok (.if_icmp .gt 102, 3) := by decide +kernel
theorem dX6_search_81 : decode cX6_search 81 = .ok (.iload 4, 2) := by decide +kernel
theorem dX6_search_83 : decode cX6_search 83 = .ok (.sipush 331, 3) := by decide +kernel
theorem dX6_search_86 : decode cX6_search 86 = .ok (.if_icmp .ge 94, 3) := by decide +kernel
theorem dX6_search_89 : decode cX6_search 89 = .ok (.iload 4, 2) := by decide +kernel
theorem dX6_search_91 : decode cX6_search 91 = .ok (.ifCond .le 14, 3) := by decide +kernel
theorem dX6_search_94 : decode cX6_search 94 = .ok (.aload_n 0, 1) := by decide +kernel
theorem dX6_search_95 : decode cX6_search 95 = .ok (.getfield 47, 3) := by decide +kernel
theorem dX6_search_98 : decode cX6_search 98 = .ok (.aload_n 0, 1) := by decide +kernel
theorem dX6_search_99 : decode cX6_search 99 = .ok (.getfield 12, 3) := by decide +kernel
theorem dX6_search_102 : decode cX6_search 102 = .ok (.invokevirtual 89, 3) := by decide +kernel
theorem dX6_search_105 : decode cX6_search 105 = .ok (.aload_n 0, 1) := by decide +kernel
theorem dX6_search_106 : decode cX6_search 106 = .ok (.invokevirtual 92, 3) := by decide +kernel
theorem dX6_search_109 : decode cX6_search 109 = .ok (.ifCond .ne 6, 3) := by decide +kernel
theorem dX6_search_112 : decode cX6_search 112 = .ok (.goto 62, 3) := by decide +kernel
theorem dX6_search_115 : decode cX6_search 115 = .ok (.iload_n 2, 1) := by decide +kernel
theorem dX6_search_116 : decode cX6_search 116 = .ok (.ifCond .eq 37, 3) := by decide +kernel
theorem dX6_search_119 : decode cX6_search 119 = .ok (.aload_n 0, 1) := by decide +kernel
theorem dX6_search_120 : decode cX6_search 120 = .ok (.getfield 41, 3) := by decide +kernel
theorem dX6_search_123 : decode cX6_search 123 = .ok (.ifnull 30, 3) := by decide +kernel
theorem dX6_search_126 : decode cX6_search 126 = .ok (.aload_n 0, 1) := by decide +kernel
theorem dX6_search_127 : decode cX6_search 127 = .ok (.getfield 12, 3) := by decide +kernel
theorem dX6_search_130 : decode cX6_search 130 = .ok (.getfield 96, 3) := by decide +kernel
theorem dX6_search_133 : decode cX6_search 133 = .ok (.bipush 8, 2) := by decide +kernel
theorem dX6_search_135 : decode cX6_search 135 = .ok (.aload_n 0, 1) := by decide +kernel
theorem dX6_search_136 : decode cX6_search 136 = .ok (.getfield 41, 3) := by decide +kernel
theorem dX6_search_139 : decode cX6_search 139 = .ok (.aload_n 0, 1) := by decide +kernel
theorem dX6_search_140 : decode cX6_search 140 = .ok (.getfield 32, 3) := by decide +kernel
theorem dX6_search_143 : decode cX6_search 143 = .ok (.sipush 160, 3) := by decide +kernel
theorem dX6_search_146 : decode cX6_search 146 = .ok (.imul, 1) := by decide +kernel
theorem dX6_search_147 : decode cX6_search 147 = .ok (.sipush 160, 3) := by decide +kernel
theorem dX6_search_150 : decode cX6_search 150 = .ok (.invokestatic 99, 3) := by decide +kernel
theorem dX6_search_153 : decode cX6_search 153 = .ok (.aload_n 0, 1) := by decide +kernel
theorem dX6_search_154 : decode cX6_search 154 = .ok (.getfield 29, 3) := by decide +kernel
theorem dX6_search_157 : decode cX6_search 157 = .ok (.aload_n 0, 1) := by decide +kernel
theorem dX6_search_158 : decode cX6_search 158 = .ok (.getfield 32, 3) := by decide +kernel
theorem dX6_search_161 : decode cX6_search 161 = .ok (.iload 4, 2) := by decide +kernel
theorem dX6_search_163 : decode cX6_search 163 = .ok (.iastore, 1) := by decide +kernel
theorem dX6_search_164 : decode cX6_search 164 = .ok (.aload_n 0, 1) := by decide +kernel
theorem dX6_search_165 : decode cX6_search 165 = .ok (.dup, 1) := by decide +kernel
theorem dX6_search_166 : decode cX6_search 166 = .ok (.getfield 32, 3) := by decide +kernel
theorem dX6_search_169 : decode cX6_search 169 = .ok (.iconst 1, 1) := by decide +kernel
theorem dX6_search_170 : decode cX6_search 170 = .ok (.iadd, 1) := by decide +kernel
theorem dX6_search_171 : decode cX6_search 171 = .ok (.putfield 32, 3) := by decide +kernel
theorem dX6_search_174 : decode cX6_search 174 = .ok (.iinc 4 1, 3) := by decide +kernel
theorem dX6_search_177 : decode cX6_search 177 = .ok (.goto (-102), 3) := by decide +kernel
theorem dX6_search_180 : decode cX6_search 180 = .ok (.return_, 1) := by decide +kernel
theorem dX7_advance_0 : decode cX7_advance 0 = .ok (.aload_n 0, 1) := by decide +kernel
theorem dX7_advance_1 : decode cX7_advance 1 = .ok (.aload_n 1, 1) := by decide +kernel
theorem dX7_advance_2 : decode cX7_advance 2 = .ok (.invokevirtual 101, 3) := by decide +kernel
theorem dX7_advance_5 : decode cX7_advance 5 = .ok (.istore_n 2, 1) := by decide +kernel
theorem dX7_advance_6 : decode cX7_advance 6 = .ok (.aload_n 0, 1) := by decide +kernel
theorem dX7_advance_7 : decode cX7_advance 7 = .ok (.aload_n 1, 1) := by decide +kernel
theorem dX7_advance_8 : decode cX7_advance 8 = .ok (.invokevirtual 94, 3) := by decide +kernel
theorem dX7_advance_11 : decode cX7_advance 11 = .ok (.tableswitch 104 1 7 #[41, 49, 58, 67, 76, 95, 95], 41) := by decide +kernel
theorem dX7_advance_52 : decode cX7_advance 52 = .ok (.aload_n 0, 1) := by decide +kernel
theorem dX7_advance_53 : decode cX7_advance 53 = .ok (.aload_n 1, 1) := by decide +kernel
theorem dX7_advance_54 : decode cX7_advance 54 = .ok (.invokevirtual 104, 3) := by decide +kernel
theorem dX7_advance_57 : decode cX7_advance 57 = .ok (.goto 62, 3) := by decide +kernel
theorem dX7_advance_60 : decode cX7_advance 60 = .ok (.aload_n 0, 1) := by decide +kernel
theorem dX7_advance_61 : decode cX7_advance 61 = .ok (.aload_n 1, 1) := by decide +kernel
theorem dX7_advance_62 : decode cX7_advance 62 = .ok (.iload_n 2, 1) := by decide +kernel
theorem dX7_advance_63 : decode cX7_advance 63 = .ok (.invokevirtual 107, 3) := by decide +kernel
theorem dX7_advance_66 : decode cX7_advance 66 = .ok (.goto 53, 3) := by decide +kernel
theorem dX7_advance_69 : decode cX7_advance 69 = .ok (.aload_n 0, 1) := by decide +kernel
theorem dX7_advance_70 : decode cX7_advance 70 = .ok (.aload_n 1, 1) := by decide +kernel
theorem dX7_advance_71 : decode cX7_advance 71 = .ok (.iload_n 2, 1) := by decide +kernel
theorem dX7_advance_72 : decode cX7_advance 72 = .ok (.invokevirtual 111, 3) := by decide +kernel
theorem dX7_advance_75 : decode cX7_advance 75 = .ok (.goto 44, 3) := by decide +kernel
theorem dX7_advance_78 : decode cX7_advance 78 = .ok (.aload_n 0, 1) := by decide +kernel
theorem dX7_advance_79 : decode cX7_advance 79 = .ok (.aload_n 1, 1) := by decide +kernel
theorem dX7_advance_80 : decode cX7_advance 80 = .ok (.iload_n 2, 1) := by decide +kernel
theorem dX7_advance_81 : decode cX7_advance 81 = .ok (.invokevirtual 114, 3) := by decide +kernel
theorem dX7_advance_84 : decode cX7_advance 84 = .ok (.goto 35, 3) := by decide +kernel
theorem dX7_advance_87 : decode cX7_advance 87 = .ok (.aload_n 0, 1) := by decide +kernel
theorem dX7_advance_88 : decode cX7_advance 88 = .ok (.aload_n 1, 1) := by decide +kernel
theorem dX7_advance_89 : decode cX7_advance 89 = .ok (.aload_n 0, 1) := by decide +kernel
theorem dX7_advance_90 : decode cX7_advance 90 = .ok (.aload_n 1, 1) := by decide +kernel
theorem dX7_advance_91 : decode cX7_advance 91 = .ok (.aload_n 1, 1) := by decide +kernel
theorem dX7_advance_92 : decode cX7_advance 92 = .ok (.getfield 25, 3) := by decide +kernel
theorem dX7_advance_95 : decode cX7_advance 95 = .ok (.iconst 1, 1) := by decide +kernel
theorem dX7_advance_96 : decode cX7_advance 96 = .ok (.isub, 1) := by decide +kernel
theorem dX7_advance_97 : decode cX7_advance 97 = .ok (.invokevirtual 97, 3) := by decide +kernel
theorem dX7_advance_100 : decode cX7_advance 100 = .ok (.invokevirtual 117, 3) := by decide +kernel
theorem dX7_advance_103 : decode cX7_advance 103 = .ok (.goto 16, 3) := by decide +kernel
theorem dX7_advance_106 : decode cX7_advance 106 = .ok (.aload_n 0, 1) := by decide +kernel
theorem dX7_advance_107 : decode cX7_advance 107 = .ok (.aload_n 1, 1) := by decide +kernel
theorem dX7_advance_108 : decode cX7_advance 108 = .ok (.iload_n 2, 1) := by decide +kernel
theorem dX7_advance_109 : decode cX7_advance 109 = .ok (.invokevirtual 120, 3) := by decide +kernel
theorem dX7_advance_112 : decode cX7_advance 112 = .ok (.goto 7, 3) := by decide +kernel
theorem dX7_advance_115 : decode cX7_advance 115 = .ok (.aload_n 1, 1) := by decide +kernel
theorem dX7_advance_116 : decode cX7_advance 116 = .ok (.invokevirtual 123, 3) := by decide +kernel
theorem dX7_advance_119 : decode cX7_advance 119 = .ok (.aload_n 1, 1) := by decide +kernel
theorem dX7_advance_120 : decode cX7_advance 120 = .ok (.dup, 1) := by decide +kernel
theorem dX7_advance_121 : decode cX7_advance 121 = .ok (.getfield 25, 3) := by decide +kernel
theorem dX7_advance_124 : decode cX7_advance 124 = .ok (.iconst 1, 1) := by decide +kernel
theorem dX7_advance_125 : decode cX7_advance 125 = .ok (.iadd, 1) := by decide +kernel
theorem dX7_advance_126 : decode cX7_advance 126 = .ok (.putfield 25, 3) := by decide +kernel
theorem dX7_advance_129 : decode cX7_advance 129 = .ok (.return_, 1) := by decide +kernel
theorem dX7_allSteps_0 : decode cX7_allSteps 0 = .ok (.aload_n 0, 1) := by decide +kernel
theorem dX7_allSteps_1 : decode cX7_allSteps 1 = .ok (.aload_n 1, 1) := by decide +kernel
theorem dX7_allSteps_2 : decode cX7_allSteps 2 = .ok (.aload_n 1, 1) := by decide +kernel
theorem dX7_allSteps_3 : decode cX7_allSteps 3 = .ok (.getfield 87, 3) := by decide +kernel
theorem dX7_allSteps_6 : decode cX7_allSteps 6 = .ok (.invokevirtual 90, 3) := by decide +kernel
theorem dX7_allSteps_9 : decode cX7_allSteps 9 = .ok (.ireturn, 1) := by decide +kernel
theorem dX7_backward_0 : decode cX7_backward 0 = .ok (.aload_n 0, 1) := by decide +kernel
theorem dX7_backward_1 : decode cX7_backward 1 = .ok (.aload_n 1, 1) := by decide +kernel
theorem dX7_backward_2 : decode cX7_backward 2 = .ok (.iload_n 2, 1) := by decide +kernel
theorem dX7_backward_3 : decode cX7_backward 3 = .ok (.invokevirtual 129, 3) := by decide +kernel
theorem dX7_backward_6 : decode cX7_backward 6 = .ok (.istore_n 3, 1) := by decide +kernel
theorem dX7_backward_7 : decode cX7_backward 7 = .ok (.aload_n 1, 1) := by decide +kernel
theorem dX7_backward_8 : decode cX7_backward 8 = .ok (.getfield 126, 3) := by decide +kernel
theorem dX7_backward_11 : decode cX7_backward 11 = .ok (.iload_n 2, 1) := by decide +kernel
theorem dX7_backward_12 : decode cX7_backward 12 = .ok (.iload_n 3, 1) := by decide +kernel
theorem dX7_backward_13 : decode cX7_backward 13 = .ok (.invokestatic 143, 3) := by decide +kernel
theorem dX7_backward_16 : decode cX7_backward 16 = .ok (.aload_n 1, 1) := by decide +kernel
theorem dX7_backward_17 : decode cX7_backward 17 = .ok (.getfield 126, 3) := by decide +kernel
theorem dX7_backward_20 : decode cX7_backward 20 = .ok (.bipush 8, 2) := by decide +kernel
theorem dX7_backward_22 : decode cX7_backward 22 = .ok (.iload_n 3, 1) := by decide +kernel
theorem dX7_backward_23 : decode cX7_backward 23 = .ok (.iadd, 1) := by decide +kernel
theorem dX7_backward_24 : decode cX7_backward 24 = .ok (.aload_n 1, 1) := by decide +kernel
theorem dX7_backward_25 : decode cX7_backward 25 = .ok (.getfield 126, 3) := by decide +kernel
theorem dX7_backward_28 : decode cX7_backward 28 = .ok (.bipush 8, 2) := by decide +kernel
theorem dX7_backward_30 : decode cX7_backward 30 = .ok (.iload_n 2, 1) := by decide +kernel
theorem dX7_backward_31 : decode cX7_backward 31 = .ok (.iadd, 1) := by decide +kernel
theorem dX7_backward_32 : decode cX7_backward 32 = .ok (.iaload, 1) := by decide +kernel
theorem dX7_backward_33 : decode cX7_backward 33 = .ok (.iastore, 1) := by decide +kernel
theorem dX7_backward_34 : decode cX7_backward 34 = .ok (.aload_n 1, 1) := by decide +kernel
theorem dX7_backward_35 : decode cX7_backward 35 = .ok (.getfield 126, 3) := by decide +kernel
theorem dX7_backward_38 : decode cX7_backward 38 = .ok (.bipush 8, 2) := by decide +kernel
theorem dX7_backward_40 : decode cX7_backward 40 = .ok (.iload_n 3, 1) := by decide +kernel
theorem dX7_backward_41 : decode cX7_backward 41 = .ok (.iadd, 1) := by decide +kernel
theorem dX7_backward_42 : decode cX7_backward 42 = .ok (.iaload, 1) := by decide +kernel
theorem dX7_backward_43 : decode cX7_backward 43 = .ok (.invokestatic 132, 3) := by decide +kernel
theorem dX7_backward_46 : decode cX7_backward 46 = .ok (.istore 4, 2) := by decide +kernel
theorem dX7_backward_48 : decode cX7_backward 48 = .ok (.iload 4, 2) := by decide +kernel
theorem dX7_backward_50 : decode cX7_backward 50 = .ok (.iconst (-1), 1) := by decide +kernel
theorem dX7_backward_51 : decode cX7_backward 51 = .ok (.if_icmp .eq 19, 3) := by decide +kernel
theorem dX7_backward_54 : decode cX7_backward 54 = .ok (.iload 4, 2) := by decide +kernel
theorem dX7_backward_56 : decode cX7_backward 56 = .ok (.iload_n 2, 1) := by decide +kernel
theorem dX7_backward_57 : decode cX7_backward 57 = .ok (.if_icmp .ge 13, 3) := by decide +kernel
theorem dX7_backward_60 : decode cX7_backward 60 = .ok (.aload_n 1, 1) := by decide +kernel
theorem dX7_backward_61 : decode cX7_backward 61 = .ok (.getfield 126, 3) := by decide +kernel
theorem dX7_backward_64 : decode cX7_backward 64 = .ok (.iload_n 3, 1) := by decide +kernel
theorem dX7_backward_65 : decode cX7_backward 65 = .ok (.iload 4, 2) := by decide +kernel
theorem dX7_backward_67 : decode cX7_backward 67 = .ok (.invokestatic 139, 3) := by decide +kernel
theorem dX7_backward_70 : decode cX7_backward 70 = .ok (.return_, 1) := by decide +kernel
theorem dX7_blockEnd_0 : decode cX7_blockEnd 0 = .ok (.iload_n 2, 1) := by decide +kernel
theorem dX7_blockEnd_1 : decode cX7_blockEnd 1 = .ok (.iconst 1, 1) := by decide +kernel
theorem dX7_blockEnd_2 : decode cX7_blockEnd 2 = .ok (.iadd, 1) := by decide +kernel
theorem dX7_blockEnd_3 : decode cX7_blockEnd 3 = .ok (.istore_n 3, 1) := by decide +kernel
theorem dX7_blockEnd_4 : decode cX7_blockEnd 4 = .ok (.iload_n 3, 1) := by decide +kernel
theorem dX7_blockEnd_5 : decode cX7_blockEnd 5 = .ok (.aload_n 1, 1) := by decide +kernel
theorem dX7_blockEnd_6 : decode cX7_blockEnd 6 = .ok (.getfield 37, 3) := by decide +kernel
theorem dX7_blockEnd_9 : decode cX7_blockEnd 9 = .ok (.if_icmp .ge 28, 3) := by decide +kernel
theorem dX7_blockEnd_12 : decode cX7_blockEnd 12 = .ok (.aload_n 1, 1) := by decide +kernel
theorem dX7_blockEnd_13 : decode cX7_blockEnd 13 = .ok (.getfield 57, 3) := by decide +kernel
theorem dX7_blockEnd_16 : decode cX7_blockEnd 16 = .ok (.iload_n 3, 1) := by decide +kernel
theorem dX7_blockEnd_17 : decode cX7_blockEnd 17 = .ok (.iaload, 1) := by decide +kernel
theorem dX7_blockEnd_18 : decode cX7_blockEnd 18 = .ok (.aload_n 1, 1) := by decide +kernel
theorem dX7_blockEnd_19 : decode cX7_blockEnd 19 = .ok (.getfield 57, 3) := by decide +kernel
theorem dX7_blockEnd_22 : decode cX7_blockEnd 22 = .ok (.iload_n 3, 1) := by decide +kernel
theorem dX7_blockEnd_23 : decode cX7_blockEnd 23 = .ok (.iconst 1, 1) := by decide +kernel
theorem dX7_blockEnd_24 : decode cX7_blockEnd 24 = .ok (.isub, 1) := by decide +kernel
theorem dX7_blockEnd_25 : decode cX7_blockEnd 25 = .ok (.iaload, 1) := by decide +kernel
theorem dX7_blockEnd_26 : decode cX7_blockEnd 26 = .ok (.iconst 1, 1) := by decide +kernel
theorem dX7_blockEnd_27 : decode cX7_blockEnd 27 = .ok (.iadd, 1) := by decide +kernel
theorem dX7_blockEnd_28 : decode cX7_blockEnd 28 = .ok (.if_icmp .ne 9, 3) := by decide +kernel
theorem dX7_blockEnd_31 : decode cX7_blockEnd 31 = .ok (.iinc 3 1, 3) := by decide +kernel
theorem dX7_blockEnd_34 : decode cX7_blockEnd 34 = .ok (.goto (-30), 3) := by decide +kernel
theorem dX7_blockEnd_37 : decode cX7_blockEnd 37 = .ok (.iload_n 3, 1) := by decide +kernel
theorem dX7_blockEnd_38 : decode cX7_blockEnd 38 = .ok (.ireturn, 1) := by decide +kernel
theorem dX7_blockFromTop_0 : decode cX7_blockFromTop 0 = .ok (.iconst 0, 1) := by decide +kernel
theorem dX7_blockFromTop_1 : decode cX7_blockFromTop 1 = .ok (.istore_n 3, 1) := by decide +kernel
theorem dX7_blockFromTop_2 : decode cX7_blockFromTop 2 = .ok (.aload_n 1, 1) := by decide +kernel
theorem dX7_blockFromTop_3 : decode cX7_blockFromTop 3 = .ok (.getfield 37, 3) := by decide +kernel
theorem dX7_blockFromTop_6 : decode cX7_blockFromTop 6 = .ok (.iconst 1, 1) := by decide +kernel
theorem dX7_blockFromTop_7 : decode cX7_blockFromTop 7 = .ok (.isub, 1) := by decide +kernel
theorem dX7_blockFromTop_8 : decode cX7_blockFromTop 8 = .ok (.istore 4, 2) := by decide +kernel
theorem dX7_blockFromTop_10 : decode cX7_blockFromTop 10 = .ok (.iload 4, 2) := by decide +kernel
theorem dX7_blockFromTop_12 : decode cX7_blockFromTop 12 = .ok (.ifCond .le 41, 3) := by decide +kernel
theorem dX7_blockFromTop_15 : decode cX7_blockFromTop 15 = .ok (.aload_n 1, 1) := by decide +kernel
theorem dX7_blockFromTop_16 : decode cX7_blockFromTop 16 = .ok (.getfield 57, 3) := by decide +kernel
theorem dX7_blockFromTop_19 : decode cX7_blockFromTop 19 = .ok (.iload 4, 2) := by decide +kernel
theorem dX7_blockFromTop_21 : decode cX7_blockFromTop 21 = .ok (.iconst 1, 1) := by decide +kernel
theorem dX7_blockFromTop_22 : decode cX7_blockFromTop 22 = .ok (.isub, 1) := by decide +kernel
theorem dX7_blockFromTop_23 : decode cX7_blockFromTop 23 = .ok (.iaload, 1) := by decide +kernel
theorem dX7_blockFromTop_24 : decode cX7_blockFromTop 24 = .ok (.aload_n 1, 1) := by decide +kernel
theorem dX7_blockFromTop_25 : decode cX7_blockFromTop 25 = .ok (.getfield 57, 3) := by decide +kernel
theorem dX7_blockFromTop_28 : decode cX7_blockFromTop 28 = .ok (.iload 4, 2) := by decide +kernel
theorem dX7_blockFromTop_30 : decode cX7_blockFromTop 30 = .ok (.iaload, 1) := by decide +kernel
theorem dX7_blockFromTop_31 : decode cX7_blockFromTop 31 = .ok (.iconst 1, 1) := by decide +kernel
theorem dX7_blockFromTop_32 : decode cX7_blockFromTop 32 = .ok (.isub, 1) := by decide +kernel
theorem dX7_blockFromTop_33 : decode cX7_blockFromTop 33 = .ok (.if_icmp .eq 14, 3) := by decide +kernel
theorem dX7_blockFromTop_36 : decode cX7_blockFromTop 36 = .ok (.iload_n 3, 1) := by decide +kernel
theorem dX7_blockFromTop_37 : decode cX7_blockFromTop 37 = .ok (.iload_n 2, 1) := by decide +kernel
theorem dX7_blockFromTop_38 : decode cX7_blockFromTop 38 = .ok (.if_icmp .ne 6, 3) := by decide +kernel
theorem dX7_blockFromTop_41 : decode cX7_blockFromTop 41 = .ok (.iload 4, 2) := by decide +kernel
theorem dX7_blockFromTop_43 : decode cX7_blockFromTop 43 = .ok (.ireturn, 1) := by decide +kernel
theorem dX7_blockFromTop_44 : decode cX7_blockFromTop 44 = .ok (.iinc 3 1, 3) := by decide +kernel
theorem dX7_blockFromTop_47 : decode cX7_blockFromTop 47 = .ok (.iinc 4 (-1), 3) := by decide +kernel
theorem dX7_blockFromTop_50 : decode cX7_blockFromTop 50 = .ok (.goto (-40), 3) := by decide +kernel
theorem dX7_blockFromTop_53 : decode cX7_blockFromTop 53 = .ok (.iconst 0, 1) := by decide +kernel
theorem dX7_blockFromTop_54 : decode cX7_blockFromTop 54 = .ok (.ireturn, 1) := by decide +kernel
theorem dX7_clearWeak_0 : decode cX7_clearWeak 0 = .ok (.aload_n 1, 1) := by decide +kernel
theorem dX7_clearWeak_1 : decode cX7_clearWeak 1 = .ok (.getfield 43, 3) := by decide +kernel
theorem dX7_clearWeak_4 : decode cX7_clearWeak 4 = .ok (.istore_n 2, 1) := by decide +kernel
theorem dX7_clearWeak_5 : decode cX7_clearWeak 5 = .ok (.iload_n 2, 1) := by decide +kernel
theorem dX7_clearWeak_6 : decode cX7_clearWeak 6 = .ok (.aload_n 1, 1) := by decide +kernel
theorem dX7_clearWeak_7 : decode cX7_clearWeak 7 = .ok (.getfield 46, 3) := by decide +kernel
theorem dX7_clearWeak_10 : decode cX7_clearWeak 10 = .ok (.if_icmp .ge 138, 3) := by decide +kernel
theorem dX7_clearWeak_13 : decode cX7_clearWeak 13 = .ok (.aload_n 1, 1) := by decide +kernel
theorem dX7_clearWeak_14 : decode cX7_clearWeak 14 = .ok (.getfield 126, 3) := by decide +kernel
theorem dX7_clearWeak_17 : decode cX7_clearWeak 17 = .ok (.bipush 8, 2) := by decide +kernel
theorem dX7_clearWeak_19 : decode cX7_clearWeak 19 = .ok (.iload_n 2, 1) := by decide +kernel
theorem dX7_clearWeak_20 : decode cX7_clearWeak 20 = .ok (.iadd, 1) := by decide +kernel
theorem dX7_clearWeak_21 : decode cX7_clearWeak 21 = .ok (.iaload, 1) := by decide +kernel
theorem dX7_clearWeak_22 : decode cX7_clearWeak 22 = .ok (.sipush 5096, 3) := by decide +kernel
theorem dX7_clearWeak_25 : decode cX7_clearWeak 25 = .ok (.isub, 1) := by decide +kernel
theorem dX7_clearWeak_26 : decode cX7_clearWeak 26 = .ok (.istore_n 3, 1) := by decide +kernel
theorem dX7_clearWeak_27 : decode cX7_clearWeak 27 = .ok (.aload_n 0, 1) := by decide +kernel
theorem dX7_clearWeak_28 : decode cX7_clearWeak 28 = .ok (.aload_n 1, 1) := by decide +kernel
theorem dX7_clearWeak_29 : decode cX7_clearWeak 29 = .ok (.iload_n 2, 1) := by decide +kernel
theorem dX7_clearWeak_30 : decode cX7_clearWeak 30 = .ok (.invokevirtual 129, 3) := by decide +kernel
theorem dX7_clearWeak_33 : decode cX7_clearWeak 33 = .ok (.iconst (-1), 1) := by decide +kernel
theorem dX7_clearWeak_34 : decode cX7_clearWeak 34 = .ok (.if_icmp .ne 6, 3) := by decide +kernel
theorem dX7_clearWeak_37 : decode cX7_clearWeak 37 = .ok (.goto 89, 3) := by decide +kernel
theorem dX7_clearWeak_40 : decode cX7_clearWeak 40 = .ok (.iconst 0, 1) := by decide +kernel
theorem dX7_clearWeak_41 : decode cX7_clearWeak 41 = .ok (.istore 4, 2) := by decide +kernel
theorem dX7_clearWeak_43 : decode cX7_clearWeak 43 = .ok (.iload 4, 2) := by decide +kernel
theorem dX7_clearWeak_45 : decode cX7_clearWeak 45 = .ok (.aload_n 0, 1) := by decide +kernel
theorem dX7_clearWeak_46 : decode cX7_clearWeak 46 = .ok (.getfield 9, 3) := by decide +kernel
theorem dX7_clearWeak_49 : decode cX7_clearWeak 49 = .ok (.getfield 75, 3) := by decide +kernel
theorem dX7_clearWeak_52 : decode cX7_clearWeak 52 = .ok (.iload_n 3, 1) := by decide +kernel
theorem dX7_clearWeak_53 : decode cX7_clearWeak 53 = .ok (.iaload, 1) := by decide +kernel
theorem dX7_clearWeak_54 : decode cX7_clearWeak 54 = .ok (.if_icmp .ge 72, 3) := by decide +kernel
theorem dX7_clearWeak_57 : decode cX7_clearWeak 57 = .ok (.aload_n 1, 1) := by decide +kernel
theorem dX7_clearWeak_58 : decode cX7_clearWeak 58 = .ok (.getfield 126, 3) := by decide +kernel
theorem dX7_clearWeak_61 : decode cX7_clearWeak 61 = .ok (.bipush 8, 2) := by decide +kernel
theorem dX7_clearWeak_63 : decode cX7_clearWeak 63 = .ok (.iload_n 2, 1) := by decide +kernel
theorem dX7_clearWeak_64 : decode cX7_clearWeak 64 = .ok (.iadd, 1) := by decide +kernel
theorem dX7_clearWeak_65 : decode cX7_clearWeak 65 = .ok (.iconst 1, 1) := by decide +kernel
theorem dX7_clearWeak_66 : decode cX7_clearWeak 66 = .ok (.iadd, 1) := by decide +kernel
theorem dX7_clearWeak_67 : decode cX7_clearWeak 67 = .ok (.iload 4, 2) := by decide +kernel
theorem dX7_clearWeak_69 : decode cX7_clearWeak 69 = .ok (.iadd, 1) := by decide +kernel
theorem dX7_clearWeak_70 : decode cX7_clearWeak 70 = .ok (.iaload, 1) := by decide +kernel
theorem dX7_clearWeak_71 : decode cX7_clearWeak 71 = .ok (.invokestatic 132, 3) := by decide +kernel
theorem dX7_clearWeak_74 : decode cX7_clearWeak 74 = .ok (.istore 5, 2) := by decide +kernel
theorem dX7_clearWeak_76 : decode cX7_clearWeak 76 = .ok (.iload 5, 2) := by decide +kernel
theorem dX7_clearWeak_78 : decode cX7_clearWeak 78 = .ok (.iconst (-1), 1) := by decide +kernel
theorem dX7_clearWeak_79 : decode cX7_clearWeak 79 = .ok (.if_icmp .eq 41, 3) := by decide +kernel
theorem dX7_clearWeak_82 : decode cX7_clearWeak 82 = .ok (.aload_n 0, 1) := by decide +kernel
theorem dX7_clearWeak_83 : decode cX7_clearWeak 83 = .ok (.aload_n 1, 1) := by decide +kernel
theorem dX7_clearWeak_84 : decode cX7_clearWeak 84 = .ok (.iload 5, 2) := by decide +kernel
theorem dX7_clearWeak_86 : decode cX7_clearWeak 86 = .ok (.invokevirtual 129, 3) := by decide +kernel
theorem dX7_clearWeak_89 : decode cX7_clearWeak 89 = .ok (.iconst (-1), 1) := by decide +kernel
theorem dX7_clearWeak_90 : decode cX7_clearWeak 90 = .ok (.if_icmp .ne 30, 3) := by decide +kernel
theorem dX7_clearWeak_93 : decode cX7_clearWeak 93 = .ok (.aload_n 1, 1) := by decide +kernel
theorem dX7_clearWeak_94 : decode cX7_clearWeak 94 = .ok (.getfield 126, 3) := by decide +kernel
theorem dX7_clearWeak_97 : decode cX7_clearWeak 97 = .ok (.bipush 8, 2) := by decide +kernel
theorem dX7_clearWeak_99 : decode cX7_clearWeak 99 = .ok (.iload_n 2, 1) := by decide +kernel
theorem dX7_clearWeak_100 : decode cX7_clearWeak 100 = .ok (.iadd, 1) := by decide +kernel
theorem dX7_clearWeak_101 : decode cX7_clearWeak 101 = .ok (.iconst 1, 1) := by decide +kernel
theorem dX7_clearWeak_102 : decode cX7_clearWeak 102 = .ok (.iadd, 1) := by decide +kernel
theorem dX7_clearWeak_103 : decode cX7_clearWeak 103 = .ok (.iload 4, 2) := by decide +kernel
theorem dX7_clearWeak_105 : decode cX7_clearWeak 105 = .ok (.iadd, 1) := by decide +kernel
theorem dX7_clearWeak_106 : decode cX7_clearWeak 106 = .ok (.sipush 3047, 3) := by decide +kernel
theorem dX7_clearWeak_109 : decode cX7_clearWeak 109 = .ok (.iastore, 1) := by decide +kernel
theorem dX7_clearWeak_110 : decode cX7_clearWeak 110 = .ok (.aload_n 1, 1) := by decide +kernel
theorem dX7_clearWeak_111 : decode cX7_clearWeak 111 = .ok (.dup, 1) := by decide +kernel
theorem dX7_clearWeak_112 : decode cX7_clearWeak 112 = .ok (.getfield 31, 3) := by decide +kernel
theorem dX7_clearWeak_115 : decode cX7_clearWeak 115 = .ok (.iconst 1, 1) := by decide +kernel
theorem dX7_clearWeak_116 : decode cX7_clearWeak 116 = .ok (.iadd, 1) := by decide +kernel
theorem dX7_clearWeak_117 : decode cX7_clearWeak 117 = .ok (.putfield 31, 3) := by decide +kernel
theorem dX7_clearWeak_120 : decode cX7_clearWeak 120 = .ok (.iinc 4 1, 3) := by decide +kernel
theorem dX7_clearWeak_123 : decode cX7_clearWeak 123 = .ok (.goto (-80), 3) := by decide +kernel
theorem dX7_clearWeak_126 : decode cX7_clearWeak 126 = .ok (.iload_n 2, 1) := by decide +kernel
theorem dX7_clearWeak_127 : decode cX7_clearWeak 127 = .ok (.aload_n 0, 1) := by decide +kernel
theorem dX7_clearWeak_128 : decode cX7_clearWeak 128 = .ok (.getfield 9, 3) := by decide +kernel
theorem dX7_clearWeak_131 : decode cX7_clearWeak 131 = .ok (.aload_n 1, 1) := by decide +kernel
theorem dX7_clearWeak_132 : decode cX7_clearWeak 132 = .ok (.getfield 126, 3) := by decide +kernel
theorem dX7_clearWeak_135 : decode cX7_clearWeak 135 = .ok (.bipush 8, 2) := by decide +kernel
theorem dX7_clearWeak_137 : decode cX7_clearWeak 137 = .ok (.iload_n 2, 1) := by decide +kernel
theorem dX7_clearWeak_138 : decode cX7_clearWeak 138 = .ok (.iadd, 1) := by decide +kernel
theorem dX7_clearWeak_139 : decode cX7_clearWeak 139 = .ok (.iaload, 1) := by decide +kernel
theorem dX7_clearWeak_140 : decode cX7_clearWeak 140 = .ok (.invokevirtual 136, 3) := by decide +kernel
theorem dX7_clearWeak_143 : decode cX7_clearWeak 143 = .ok (.iadd, 1) := by decide +kernel
theorem dX7_clearWeak_144 : decode cX7_clearWeak 144 = .ok (.istore_n 2, 1) := by decide +kernel
theorem dX7_clearWeak_145 : decode cX7_clearWeak 145 = .ok (.goto (-140), 3) := by decide +kernel
theorem dX7_clearWeak_148 : decode cX7_clearWeak 148 = .ok (.return_, 1) := by decide +kernel
theorem dX7_forward_0 : decode cX7_forward 0 = .ok (.aload_n 0, 1) := by decide +kernel
theorem dX7_forward_1 : decode cX7_forward 1 = .ok (.aload_n 1, 1) := by decide +kernel
theorem dX7_forward_2 : decode cX7_forward 2 = .ok (.iload_n 2, 1) := by decide +kernel
theorem dX7_forward_3 : decode cX7_forward 3 = .ok (.invokevirtual 129, 3) := by decide +kernel
theorem dX7_forward_6 : decode cX7_forward 6 = .ok (.istore_n 3, 1) := by decide +kernel
theorem dX7_forward_7 : decode cX7_forward 7 = .ok (.aload_n 1, 1) := by decide +kernel
theorem dX7_forward_8 : decode cX7_forward 8 = .ok (.getfield 126, 3) := by decide +kernel
theorem dX7_forward_11 : decode cX7_forward 11 = .ok (.iload_n 2, 1) := by decide +kernel
theorem dX7_forward_12 : decode cX7_forward 12 = .ok (.iload_n 3, 1) := by decide +kernel
theorem dX7_forward_13 : decode cX7_forward 13 = .ok (.invokestatic 143, 3) := by decide +kernel
theorem dX7_forward_16 : decode cX7_forward 16 = .ok (.aload_n 1, 1) := by decide +kernel
theorem dX7_forward_17 : decode cX7_forward 17 = .ok (.getfield 126, 3) := by decide +kernel
theorem dX7_forward_20 : decode cX7_forward 20 = .ok (.bipush 8, 2) := by decide +kernel
theorem dX7_forward_22 : decode cX7_forward 22 = .ok (.iload_n 2, 1) := by decide +kernel
theorem dX7_forward_23 : decode cX7_forward 23 = .ok (.iadd, 1) := by decide +kernel
theorem dX7_forward_24 : decode cX7_forward 24 = .ok (.iaload, 1) := by decide +kernel
theorem dX7_forward_25 : decode cX7_forward 25 = .ok (.invokestatic 132, 3) := by decide +kernel
theorem dX7_forward_28 : decode cX7_forward 28 = .ok (.istore 4, 2) := by decide +kernel
theorem dX7_forward_30 : decode cX7_forward 30 = .ok (.iload 4, 2) := by decide +kernel
theorem dX7_forward_32 : decode cX7_forward 32 = .ok (.iload_n 2, 1) := by decide +kernel
theorem dX7_forward_33 : decode cX7_forward 33 = .ok (.if_icmp .le 16, 3) := by decide +kernel
theorem dX7_forward_36 : decode cX7_forward 36 = .ok (.aload_n 1, 1) := by decide +kernel
theorem dX7_forward_37 : decode cX7_forward 37 = .ok (.getfield 126, 3) := by decide +kernel
theorem dX7_forward_40 : decode cX7_forward 40 = .ok (.iload_n 2, 1) := by decide +kernel
theorem dX7_forward_41 : decode cX7_forward 41 = .ok (.iload 4, 2) := by decide +kernel
theorem dX7_forward_43 : decode cX7_forward 43 = .ok (.invokestatic 139, 3) := by decide +kernel
theorem dX7_forward_46 : decode cX7_forward 46 = .ok (.goto 23, 3) := by decide +kernel
theorem dX7_forward_49 : decode cX7_forward 49 = .ok (.iload 4, 2) := by decide +kernel
theorem dX7_forward_51 : decode cX7_forward 51 = .ok (.iload_n 2, 1) := by decide +kernel
theorem dX7_forward_52 : decode cX7_forward 52 = .ok (.if_icmp .ne 17, 3) := by decide +kernel
theorem dX7_forward_55 : decode cX7_forward 55 = .ok (.aload_n 1, 1) := by decide +kernel
theorem dX7_forward_56 : decode cX7_forward 56 = .ok (.getfield 126, 3) := by decide +kernel
theorem dX7_forward_59 : decode cX7_forward 59 = .ok (.bipush 8, 2) := by decide +kernel
theorem dX7_forward_61 : decode cX7_forward 61 = .ok (.iload_n 2, 1) := by decide +kernel
theorem dX7_forward_62 : decode cX7_forward 62 = .ok (.iadd, 1) := by decide +kernel
theorem dX7_forward_63 : decode cX7_forward 63 = .ok (.sipush 3048, 3) := by decide +kernel
theorem dX7_forward_66 : decode cX7_forward 66 = .ok (.iload_n 3, 1) := by decide +kernel
theorem dX7_forward_67 : decode cX7_forward 67 = .ok (.iadd, 1) := by decide +kernel
theorem dX7_forward_68 : decode cX7_forward 68 = .ok (.iastore, 1) := by decide +kernel
theorem dX7_forward_69 : decode cX7_forward 69 = .ok (.return_, 1) := by decide +kernel
theorem dX7_freshCell_0 : decode cX7_freshCell 0 = .ok (.aload_n 0, 1) := by decide +kernel
theorem dX7_freshCell_1 : decode cX7_freshCell 1 = .ok (.getfield 9, 3) := by decide +kernel
theorem dX7_freshCell_4 : decode cX7_freshCell 4 = .ok (.getfield 75, 3) := by decide +kernel
theorem dX7_freshCell_7 : decode cX7_freshCell 7 = .ok (.iload_n 2, 1) := by decide +kernel
theorem dX7_freshCell_8 : decode cX7_freshCell 8 = .ok (.iaload, 1) := by decide +kernel
theorem dX7_freshCell_9 : decode cX7_freshCell 9 = .ok (.iconst 1, 1) := by decide +kernel
theorem dX7_freshCell_10 : decode cX7_freshCell 10 = .ok (.iadd, 1) := by decide +kernel
theorem dX7_freshCell_11 : decode cX7_freshCell 11 = .ok (.istore_n 3, 1) := by decide +kernel
theorem dX7_freshCell_12 : decode cX7_freshCell 12 = .ok (.aload_n 1, 1) := by decide +kernel
theorem dX7_freshCell_13 : decode cX7_freshCell 13 = .ok (.getfield 43, 3) := by decide +kernel
theorem dX7_freshCell_16 : decode cX7_freshCell 16 = .ok (.iload_n 3, 1) := by decide +kernel
theorem dX7_freshCell_17 : decode cX7_freshCell 17 = .ok (.if_icmp .ge 8, 3) := by decide +kernel
theorem dX7_freshCell_20 : decode cX7_freshCell 20 = .ok (.aload_n 0, 1) := by decide +kernel
theorem dX7_freshCell_21 : decode cX7_freshCell 21 = .ok (.aload_n 1, 1) := by decide +kernel
theorem dX7_freshCell_22 : decode cX7_freshCell 22 = .ok (.invokevirtual 80, 3) := by decide +kernel
theorem dX7_freshCell_25 : decode cX7_freshCell 25 = .ok (.aload_n 1, 1) := by decide +kernel
theorem dX7_freshCell_26 : decode cX7_freshCell 26 = .ok (.getfield 43, 3) := by decide +kernel
theorem dX7_freshCell_29 : decode cX7_freshCell 29 = .ok (.iload_n 3, 1) := by decide +kernel
theorem dX7_freshCell_30 : decode cX7_freshCell 30 = .ok (.if_icmp .ge 7, 3) := by decide +kernel
theorem dX7_freshCell_33 : decode cX7_freshCell 33 = .ok (.iconst (-1), 1) := by decide +kernel
theorem dX7_freshCell_34 : decode cX7_freshCell 34 = .ok (.goto 12, 3) := by decide +kernel
theorem dX7_freshCell_37 : decode cX7_freshCell 37 = .ok (.aload_n 1, 1) := by decide +kernel
theorem dX7_freshCell_38 : decode cX7_freshCell 38 = .ok (.aload_n 0, 1) := by decide +kernel
theorem dX7_freshCell_39 : decode cX7_freshCell 39 = .ok (.getfield 9, 3) := by decide +kernel
theorem dX7_freshCell_42 : decode cX7_freshCell 42 = .ok (.iload_n 2, 1) := by decide +kernel
theorem dX7_freshCell_43 : decode cX7_freshCell 43 = .ok (.invokevirtual 83, 3) := by decide +kernel
theorem dX7_freshCell_46 : decode cX7_freshCell 46 = .ok (.ireturn, 1) := by decide +kernel
theorem dX7_goesUp_0 : decode cX7_goesUp 0 = .ok (.aload_n 1, 1) := by decide +kernel
theorem dX7_goesUp_1 : decode cX7_goesUp 1 = .ok (.getfield 46, 3) := by decide +kernel
theorem dX7_goesUp_4 : decode cX7_goesUp 4 = .ok (.aload_n 1, 1) := by decide +kernel
theorem dX7_goesUp_5 : decode cX7_goesUp 5 = .ok (.getfield 37, 3) := by decide +kernel
theorem dX7_goesUp_8 : decode cX7_goesUp 8 = .ok (.isub, 1) := by decide +kernel
theorem dX7_goesUp_9 : decode cX7_goesUp 9 = .ok (.iload_n 2, 1) := by decide +kernel
theorem dX7_goesUp_10 : decode cX7_goesUp 10 = .ok (.iadd, 1) := by decide +kernel
theorem dX7_goesUp_11 : decode cX7_goesUp 11 = .ok (.aload_n 1, 1) := by decide +kernel
theorem dX7_goesUp_12 : decode cX7_goesUp 12 = .ok (.getfield 57, 3) := by decide +kernel
theorem dX7_goesUp_15 : decode cX7_goesUp 15 = .ok (.iload_n 2, 1) := by decide +kernel
theorem dX7_goesUp_16 : decode cX7_goesUp 16 = .ok (.iaload, 1) := by decide +kernel
theorem dX7_goesUp_17 : decode cX7_goesUp 17 = .ok (.isub, 1) := by decide +kernel
theorem dX7_goesUp_18 : decode cX7_goesUp 18 = .ok (.ireturn, 1) := by decide +kernel
theorem dX7_init_0 : decode cX7_init 0 = .ok (.aload_n 0, 1) := by decide +kernel
theorem dX7_init_1 : decode cX7_init 1 = .ok (.invokespecial 3, 3) := by decide +kernel
theorem dX7_init_4 : decode cX7_init 4 = .ok (.aload_n 0, 1) := by decide +kernel
theorem dX7_init_5 : decode cX7_init 5 = .ok (.aload_n 1, 1) := by decide +kernel
theorem dX7_init_6 : decode cX7_init 6 = .ok (.putfield 9, 3) := by decide +kernel
theorem dX7_init_9 : decode cX7_init 9 = .ok (.aload_n 0, 1) := by decide +kernel
theorem dX7_init_10 : decode cX7_init 10 = .ok (.aload_n 2, 1) := by decide +kernel
theorem dX7_init_11 : decode cX7_init 11 = .ok (.putfield 15, 3) := by decide +kernel
theorem dX7_init_14 : decode cX7_init 14 = .ok (.return_, 1) := by decide +kernel
theorem dX7_moveBlock_0 : decode cX7_moveBlock 0 = .ok (.aload_n 0, 1) := by decide +kernel
theorem dX7_moveBlock_1 : decode cX7_moveBlock 1 = .ok (.aload_n 1, 1) := by decide +kernel
theorem dX7_moveBlock_2 : decode cX7_moveBlock 2 = .ok (.iload_n 2, 1) := by decide +kernel
theorem dX7_moveBlock_3 : decode cX7_moveBlock 3 = .ok (.invokevirtual 146, 3) := by decide +kernel
theorem dX7_moveBlock_6 : decode cX7_moveBlock 6 = .ok (.istore_n 3, 1) := by decide +kernel
theorem dX7_moveBlock_7 : decode cX7_moveBlock 7 = .ok (.iload_n 3, 1) := by decide +kernel
theorem dX7_moveBlock_8 : decode cX7_moveBlock 8 = .ok (.ifCond .ne 4, 3) := by decide +kernel
theorem dX7_moveBlock_11 : decode cX7_moveBlock 11 = .ok (.return_, 1) := by decide +kernel
theorem dX7_moveBlock_12 : decode cX7_moveBlock 12 = .ok (.aload_n 0, 1) := by decide +kernel
theorem dX7_moveBlock_13 : decode cX7_moveBlock 13 = .ok (.aload_n 1, 1) := by decide +kernel
theorem dX7_moveBlock_14 : decode cX7_moveBlock 14 = .ok (.iload_n 2, 1) := by decide +kernel
theorem dX7_moveBlock_15 : decode cX7_moveBlock 15 = .ok (.invokevirtual 149, 3) := by decide +kernel
theorem dX7_moveBlock_18 : decode cX7_moveBlock 18 = .ok (.iconst 1, 1) := by decide +kernel
theorem dX7_moveBlock_19 : decode cX7_moveBlock 19 = .ok (.isub, 1) := by decide +kernel
theorem dX7_moveBlock_20 : decode cX7_moveBlock 20 = .ok (.istore 4, 2) := by decide +kernel
theorem dX7_moveBlock_22 : decode cX7_moveBlock 22 = .ok (.iload 4, 2) := by decide +kernel
theorem dX7_moveBlock_24 : decode cX7_moveBlock 24 = .ok (.iload_n 2, 1) := by decide +kernel
theorem dX7_moveBlock_25 : decode cX7_moveBlock 25 = .ok (.if_icmp .lt 37, 3) := by decide +kernel
theorem dX7_moveBlock_28 : decode cX7_moveBlock 28 = .ok (.bipush 8, 2) := by decide +kernel
theorem dX7_moveBlock_30 : decode cX7_moveBlock 30 = .ok (.aload_n 1, 1) := by decide +kernel
theorem dX7_moveBlock_31 : decode cX7_moveBlock 31 = .ok (.getfield 57, 3) := by decide +kernel
theorem dX7_moveBlock_34 : decode cX7_moveBlock 34 = .ok (.iload 4, 2) := by decide +kernel
theorem dX7_moveBlock_36 : decode cX7_moveBlock 36 = .ok (.iaload, 1) := by decide +kernel
theorem dX7_moveBlock_37 : decode cX7_moveBlock 37 = .ok (.iadd, 1) := by decide +kernel
theorem dX7_moveBlock_38 : decode cX7_moveBlock 38 = .ok (.istore 5, 2) := by decide +kernel
theorem dX7_moveBlock_40 : decode cX7_moveBlock 40 = .ok (.aload_n 1, 1) := by decide +kernel
theorem dX7_moveBlock_41 : decode cX7_moveBlock 41 = .ok (.getfield 126, 3) := by decide +kernel
theorem dX7_moveBlock_44 : decode cX7_moveBlock 44 = .ok (.iload 5, 2) := by decide +kernel
theorem dX7_moveBlock_46 : decode cX7_moveBlock 46 = .ok (.iload_n 3, 1) := by decide +kernel
theorem dX7_moveBlock_47 : decode cX7_moveBlock 47 = .ok (.iadd, 1) := by decide +kernel
theorem dX7_moveBlock_48 : decode cX7_moveBlock 48 = .ok (.aload_n 1, 1) := by decide +kernel
theorem dX7_moveBlock_49 : decode cX7_moveBlock 49 = .ok (.getfield 126, 3) := by decide +kernel
theorem dX7_moveBlock_52 : decode cX7_moveBlock 52 = .ok (.iload 5, 2) := by decide +kernel
theorem dX7_moveBlock_54 : decode cX7_moveBlock 54 = .ok (.iaload, 1) := by decide +kernel
theorem dX7_moveBlock_55 : decode cX7_moveBlock 55 = .ok (.iastore, 1) := by decide +kernel
theorem dX7_moveBlock_56 : decode cX7_moveBlock 56 = .ok (.iinc 4 (-1), 3) := by decide +kernel
theorem dX7_moveBlock_59 : decode cX7_moveBlock 59 = .ok (.goto (-37), 3) := by decide +kernel
theorem dX7_moveBlock_62 : decode cX7_moveBlock 62 = .ok (.bipush 8, 2) := by decide +kernel
theorem dX7_moveBlock_64 : decode cX7_moveBlock 64 = .ok (.aload_n 1, 1) := by decide +kernel
theorem dX7_moveBlock_65 : decode cX7_moveBlock 65 = .ok (.getfield 57, 3) := by decide +kernel
theorem dX7_moveBlock_68 : decode cX7_moveBlock 68 = .ok (.iload_n 2, 1) := by decide +kernel
theorem dX7_moveBlock_69 : decode cX7_moveBlock 69 = .ok (.iaload, 1) := by decide +kernel
theorem dX7_moveBlock_70 : decode cX7_moveBlock 70 = .ok (.iadd, 1) := by decide +kernel
theorem dX7_moveBlock_71 : decode cX7_moveBlock 71 = .ok (.istore 4, 2) := by decide +kernel
theorem dX7_moveBlock_73 : decode cX7_moveBlock 73 = .ok (.iload 4, 2) := by decide +kernel
theorem dX7_moveBlock_75 : decode cX7_moveBlock 75 = .ok (.iload_n 3, 1) := by decide +kernel
theorem dX7_moveBlock_76 : decode cX7_moveBlock 76 = .ok (.iadd, 1) := by decide +kernel
theorem dX7_moveBlock_77 : decode cX7_moveBlock 77 = .ok (.istore 5, 2) := by decide +kernel
theorem dX7_moveBlock_79 : decode cX7_moveBlock 79 = .ok (.iload_n 2, 1) := by decide +kernel
theorem dX7_moveBlock_80 : decode cX7_moveBlock 80 = .ok (.istore 6, 2) := by decide +kernel
theorem dX7_moveBlock_82 : decode cX7_moveBlock 82 = .ok (.iload 6, 2) := by decide +kernel
theorem dX7_moveBlock_84 : decode cX7_moveBlock 84 = .ok (.aload_n 1, 1) := by decide +kernel
theorem dX7_moveBlock_85 : decode cX7_moveBlock 85 = .ok (.getfield 37, 3) := by decide +kernel
theorem dX7_moveBlock_88 : decode cX7_moveBlock 88 = .ok (.if_icmp .ge 75, 3) := by decide +kernel
theorem dX7_moveBlock_91 : decode cX7_moveBlock 91 = .ok (.iload 4, 2) := by decide +kernel
theorem dX7_moveBlock_93 : decode cX7_moveBlock 93 = .ok (.iconst 1, 1) := by decide +kernel
theorem dX7_moveBlock_94 : decode cX7_moveBlock 94 = .ok (.iadd, 1) := by decide +kernel
theorem dX7_moveBlock_95 : decode cX7_moveBlock 95 = .ok (.iload 5, 2) := by decide +kernel
theorem dX7_moveBlock_97 : decode cX7_moveBlock 97 = .ok (.if_icmp .ge 66, 3) := by decide +kernel
theorem dX7_moveBlock_100 : decode cX7_moveBlock 100 = .ok (.aload_n 0, 1) := by decide +kernel
theorem dX7_moveBlock_101 : decode cX7_moveBlock 101 = .ok (.aload_n 1, 1) := by decide +kernel
theorem dX7_moveBlock_102 : decode cX7_moveBlock 102 = .ok (.iload 6, 2) := by decide +kernel
theorem dX7_moveBlock_104 : decode cX7_moveBlock 104 = .ok (.invokevirtual 146, 3) := by decide +kernel
theorem dX7_moveBlock_107 : decode cX7_moveBlock 107 = .ok (.ifCond .le 44, 3) := by decide +kernel
theorem dX7_moveBlock_110 : decode cX7_moveBlock 110 = .ok (.aload_n 1, 1) := by decide +kernel
theorem dX7_moveBlock_111 : decode cX7_moveBlock 111 = .ok (.getfield 126, 3) := by decide +kernel
theorem dX7_moveBlock_114 : decode cX7_moveBlock 114 = .ok (.iload 4, 2) := by decide +kernel
theorem dX7_moveBlock_116 : decode cX7_moveBlock 116 = .ok (.sipush 1000, 3) := by decide +kernel
theorem dX7_moveBlock_119 : decode cX7_moveBlock 119 = .ok (.aload_n 1, 1) := by decide +kernel
theorem dX7_moveBlock_120 : decode cX7_moveBlock 120 = .ok (.getfield 57, 3) := by decide +kernel
theorem dX7_moveBlock_123 : decode cX7_moveBlock 123 = .ok (.iload 6, 2) := by decide +kernel
theorem dX7_moveBlock_125 : decode cX7_moveBlock 125 = .ok (.iaload, 1) := by decide +kernel
theorem dX7_moveBlock_126 : decode cX7_moveBlock 126 = .ok (.iadd, 1) := by decide +kernel
theorem dX7_moveBlock_127 : decode cX7_moveBlock 127 = .ok (.iastore, 1) := by decide +kernel
theorem dX7_moveBlock_128 : decode cX7_moveBlock 128 = .ok (.aload_n 1, 1) := by decide +kernel
theorem dX7_moveBlock_129 : decode cX7_moveBlock 129 = .ok (.getfield 126, 3) := by decide +kernel
theorem dX7_moveBlock_132 : decode cX7_moveBlock 132 = .ok (.iload 4, 2) := by decide +kernel
theorem dX7_moveBlock_134 : decode cX7_moveBlock 134 = .ok (.iconst 1, 1) := by decide +kernel
theorem dX7_moveBlock_135 : decode cX7_moveBlock 135 = .ok (.iadd, 1) := by decide +kernel
theorem dX7_moveBlock_136 : decode cX7_moveBlock 136 = .ok (.sipush 1000, 3) := by decide +kernel
theorem dX7_moveBlock_139 : decode cX7_moveBlock 139 = .ok (.aload_n 0, 1) := by decide +kernel
theorem dX7_moveBlock_140 : decode cX7_moveBlock 140 = .ok (.aload_n 1, 1) := by decide +kernel
theorem dX7_moveBlock_141 : decode cX7_moveBlock 141 = .ok (.iload 6, 2) := by decide +kernel
theorem dX7_moveBlock_143 : decode cX7_moveBlock 143 = .ok (.invokevirtual 146, 3) := by decide +kernel
theorem dX7_moveBlock_146 : decode cX7_moveBlock 146 = .ok (.iadd, 1) := by decide +kernel
theorem dX7_moveBlock_147 : decode cX7_moveBlock 147 = .ok (.iastore, 1) := by decide +kernel
theorem dX7_moveBlock_148 : decode cX7_moveBlock 148 = .ok (.iinc 4 2, 3) := by decide +kernel
theorem dX7_moveBlock_151 : decode cX7_moveBlock 151 = .ok (.aload_n 0, 1) := by decide +kernel
theorem dX7_moveBlock_152 : decode cX7_moveBlock 152 = .ok (.aload_n 1, 1) := by decide +kernel
theorem dX7_moveBlock_153 : decode cX7_moveBlock 153 = .ok (.iload 6, 2) := by decide +kernel
theorem dX7_moveBlock_155 : decode cX7_moveBlock 155 = .ok (.invokevirtual 149, 3) := by decide +kernel
theorem dX7_moveBlock_158 : decode cX7_moveBlock 158 = .ok (.istore 6, 2) := by decide +kernel
theorem dX7_moveBlock_160 : decode cX7_moveBlock 160 = .ok (.goto (-78), 3) := by decide +kernel
theorem dX7_moveBlock_163 : decode cX7_moveBlock 163 = .ok (.aload_n 1, 1) := by decide +kernel
theorem dX7_moveBlock_164 : decode cX7_moveBlock 164 = .ok (.getfield 126, 3) := by decide +kernel
theorem dX7_moveBlock_167 : decode cX7_moveBlock 167 = .ok (.iload 4, 2) := by decide +kernel
theorem dX7_moveBlock_169 : decode cX7_moveBlock 169 = .ok (.iload 5, 2) := by decide +kernel
theorem dX7_moveBlock_171 : decode cX7_moveBlock 171 = .ok (.sipush 1000, 3) := by decide +kernel
theorem dX7_moveBlock_174 : decode cX7_moveBlock 174 = .ok (.invokestatic 152, 3) := by decide +kernel
theorem dX7_moveBlock_177 : decode cX7_moveBlock 177 = .ok (.return_, 1) := by decide +kernel
theorem dX7_newPlace_0 : decode cX7_newPlace 0 = .ok (.iconst 0, 1) := by decide +kernel
theorem dX7_newPlace_1 : decode cX7_newPlace 1 = .ok (.istore_n 3, 1) := by decide +kernel
theorem dX7_newPlace_2 : decode cX7_newPlace 2 = .ok (.aload_n 1, 1) := by decide +kernel
theorem dX7_newPlace_3 : decode cX7_newPlace 3 = .ok (.getfield 37, 3) := by decide +kernel
theorem dX7_newPlace_6 : decode cX7_newPlace 6 = .ok (.iconst 1, 1) := by decide +kernel
theorem dX7_newPlace_7 : decode cX7_newPlace 7 = .ok (.isub, 1) := by decide +kernel
theorem dX7_newPlace_8 : decode cX7_newPlace 8 = .ok (.istore 4, 2) := by decide +kernel
theorem dX7_newPlace_10 : decode cX7_newPlace 10 = .ok (.iload_n 3, 1) := by decide +kernel
theorem dX7_newPlace_11 : decode cX7_newPlace 11 = .ok (.iload 4, 2) := by decide +kernel
theorem dX7_newPlace_13 : decode cX7_newPlace 13 = .ok (.if_icmp .gt 63, 3) := by decide +kernel
theorem dX7_newPlace_16 : decode cX7_newPlace 16 = .ok (.iload_n 3, 1) := by decide +kernel
theorem dX7_newPlace_17 : decode cX7_newPlace 17 = .ok (.iload 4, 2) := by decide +kernel
theorem dX7_newPlace_19 : decode cX7_newPlace 19 = .ok (.iadd, 1) := by decide +kernel
theorem dX7_newPlace_20 : decode cX7_newPlace 20 = .ok (.iconst 2, 1) := by decide +kernel
theorem dX7_newPlace_21 : decode cX7_newPlace 21 = .ok (.idiv, 1) := by decide +kernel
theorem dX7_newPlace_22 : decode cX7_newPlace 22 = .ok (.istore 5, 2) := by decide +kernel
theorem dX7_newPlace_24 : decode cX7_newPlace 24 = .ok (.aload_n 1, 1) := by decide +kernel
theorem dX7_newPlace_25 : decode cX7_newPlace 25 = .ok (.getfield 57, 3) := by decide +kernel
theorem dX7_newPlace_28 : decode cX7_newPlace 28 = .ok (.iload 5, 2) := by decide +kernel
theorem dX7_newPlace_30 : decode cX7_newPlace 30 = .ok (.iaload, 1) := by decide +kernel
theorem dX7_newPlace_31 : decode cX7_newPlace 31 = .ok (.iload_n 2, 1) := by decide +kernel
theorem dX7_newPlace_32 : decode cX7_newPlace 32 = .ok (.if_icmp .ne 16, 3) := by decide +kernel
theorem dX7_newPlace_35 : decode cX7_newPlace 35 = .ok (.aload_n 1, 1) := by decide +kernel
theorem dX7_newPlace_36 : decode cX7_newPlace 36 = .ok (.getfield 46, 3) := by decide +kernel
theorem dX7_newPlace_39 : decode cX7_newPlace 39 = .ok (.aload_n 1, 1) := by decide +kernel
theorem dX7_newPlace_40 : decode cX7_newPlace 40 = .ok (.getfield 37, 3) := by decide +kernel
theorem dX7_newPlace_43 : decode cX7_newPlace 43 = .ok (.isub, 1) := by decide +kernel
theorem dX7_newPlace_44 : decode cX7_newPlace 44 = .ok (.iload 5, 2) := by decide +kernel
theorem dX7_newPlace_46 : decode cX7_newPlace 46 = .ok (.iadd, 1) := by decide +kernel
theorem dX7_newPlace_47 : decode cX7_newPlace 47 = .ok (.ireturn, 1) := by decide +kernel
theorem dX7_newPlace_48 : decode cX7_newPlace 48 = .ok (.aload_n 1, 1) := by decide +kernel
theorem dX7_newPlace_49 : decode cX7_newPlace 49 = .ok (.getfield 57, 3) := by decide +kernel
theorem dX7_newPlace_52 : decode cX7_newPlace 52 = .ok (.iload 5, 2) := by decide +kernel
theorem dX7_newPlace_54 : decode cX7_newPlace 54 = .ok (.iaload, 1) := by decide +kernel
theorem dX7_newPlace_55 : decode cX7_newPlace 55 = .ok (.iload_n 2, 1) := by decide +kernel
theorem dX7_newPlace_56 : decode cX7_newPlace 56 = .ok (.if_icmp .ge 11, 3) := by decide +kernel
theorem dX7_newPlace_59 : decode cX7_newPlace 59 = .ok (.iload 5, 2) := by decide +kernel
theorem dX7_newPlace_61 : decode cX7_newPlace 61 = .ok (.iconst 1, 1) := by decide +kernel
theorem dX7_newPlace_62 : decode cX7_newPlace 62 = .ok (.iadd, 1) := by decide +kernel
theorem dX7_newPlace_63 : decode cX7_newPlace 63 = .ok (.istore_n 3, 1) := by decide +kernel
theorem dX7_newPlace_64 : decode cX7_newPlace 64 = .ok (.goto 9, 3) := by decide +kernel
theorem dX7_newPlace_67 : decode cX7_newPlace 67 = .ok (.iload 5, 2) := by decide +kernel
theorem dX7_newPlace_69 : decode cX7_newPlace 69 = .ok (.iconst 1, 1) := by decide +kernel
theorem dX7_newPlace_70 : decode cX7_newPlace 70 = .ok (.isub, 1) := by decide +kernel
theorem dX7_newPlace_71 : decode cX7_newPlace 71 = .ok (.istore 4, 2) := by decide +kernel
theorem dX7_newPlace_73 : decode cX7_newPlace 73 = .ok (.goto (-63), 3) := by decide +kernel
theorem dX7_newPlace_76 : decode cX7_newPlace 76 = .ok (.iconst (-1), 1) := by decide +kernel
theorem dX7_newPlace_77 : decode cX7_newPlace 77 = .ok (.ireturn, 1) := by decide +kernel
theorem dX7_plan_0 : decode cX7_plan 0 = .ok (.aload_n 0, 1) := by decide +kernel
theorem dX7_plan_1 : decode cX7_plan 1 = .ok (.getfield 15, 3) := by decide +kernel
theorem dX7_plan_4 : decode cX7_plan 4 = .ok (.aload_n 1, 1) := by decide +kernel
theorem dX7_plan_5 : decode cX7_plan 5 = .ok (.iconst (-1), 1) := by decide +kernel
theorem dX7_plan_6 : decode cX7_plan 6 = .ok (.iconst (-1), 1) := by decide +kernel
theorem dX7_plan_7 : decode cX7_plan 7 = .ok (.invokevirtual 19, 3) := by decide +kernel
theorem dX7_plan_10 : decode cX7_plan 10 = .ok (.aload_n 1, 1) := by decide +kernel
theorem dX7_plan_11 : decode cX7_plan 11 = .ok (.iconst 0, 1) := by decide +kernel
theorem dX7_plan_12 : decode cX7_plan 12 = .ok (.putfield 25, 3) := by decide +kernel
theorem dX7_plan_15 : decode cX7_plan 15 = .ok (.aload_n 1, 1) := by decide +kernel
theorem dX7_plan_16 : decode cX7_plan 16 = .ok (.iconst 0, 1) := by decide +kernel
theorem dX7_plan_17 : decode cX7_plan 17 = .ok (.putfield 31, 3) := by decide +kernel
theorem dX7_plan_20 : decode cX7_plan 20 = .ok (.aload_n 1, 1) := by decide +kernel
theorem dX7_plan_21 : decode cX7_plan 21 = .ok (.iconst 0, 1) := by decide +kernel
theorem dX7_plan_22 : decode cX7_plan 22 = .ok (.putfield 34, 3) := by decide +kernel
theorem dX7_plan_25 : decode cX7_plan 25 = .ok (.aload_n 1, 1) := by decide +kernel
theorem dX7_plan_26 : decode cX7_plan 26 = .ok (.iconst 0, 1) := by decide +kernel
theorem dX7_plan_27 : decode cX7_plan 27 = .ok (.putfield 37, 3) := by decide +kernel
theorem dX7_plan_30 : decode cX7_plan 30 = .ok (.aload_n 1, 1) := by decide +kernel
theorem dX7_plan_31 : decode cX7_plan 31 = .ok (.iconst 0, 1) := by decide +kernel
theorem dX7_plan_32 : decode cX7_plan 32 = .ok (.putfield 40, 3) := by decide +kernel
theorem dX7_plan_35 : decode cX7_plan 35 = .ok (.aload_n 1, 1) := by decide +kernel
theorem dX7_plan_36 : decode cX7_plan 36 = .ok (.getfield 43, 3) := by decide +kernel
theorem dX7_plan_39 : decode cX7_plan 39 = .ok (.istore_n 2, 1) := by decide +kernel
theorem dX7_plan_40 : decode cX7_plan 40 = .ok (.iload_n 2, 1) := by decide +kernel
theorem dX7_plan_41 : decode cX7_plan 41 = .ok (.aload_n 1, 1) := by decide +kernel
theorem dX7_plan_42 : decode cX7_plan 42 = .ok (.getfield 46, 3) := by decide +kernel
theorem dX7_plan_45 : decode cX7_plan 45 = .ok (.if_icmp .ge 97, 3) := by decide +kernel
theorem dX7_plan_48 : decode cX7_plan 48 = .ok (.aload_n 0, 1) := by decide +kernel
theorem dX7_plan_49 : decode cX7_plan 49 = .ok (.getfield 15, 3) := by decide +kernel
theorem dX7_plan_52 : decode cX7_plan 52 = .ok (.getfield 49, 3) := by decide +kernel
theorem dX7_plan_55 : decode cX7_plan 55 = .ok (.iload_n 2, 1) := by decide +kernel
theorem dX7_plan_56 : decode cX7_plan 56 = .ok (.iaload, 1) := by decide +kernel
theorem dX7_plan_57 : decode cX7_plan 57 = .ok (.iload_n 2, 1) := by decide +kernel
theorem dX7_plan_58 : decode cX7_plan 58 = .ok (.if_icmp .ne 13, 3) := by decide +kernel
theorem dX7_plan_61 : decode cX7_plan 61 = .ok (.aload_n 1, 1) := by decide +kernel
theorem dX7_plan_62 : decode cX7_plan 62 = .ok (.dup, 1) := by decide +kernel
theorem dX7_plan_63 : decode cX7_plan 63 = .ok (.getfield 34, 3) := by decide +kernel
theorem dX7_plan_66 : decode cX7_plan 66 = .ok (.iconst 1, 1) := by decide +kernel
theorem dX7_plan_67 : decode cX7_plan 67 = .ok (.iadd, 1) := by decide +kernel
theorem dX7_plan_68 : decode cX7_plan 68 = .ok (.putfield 34, 3) := by decide +kernel
theorem dX7_plan_71 : decode cX7_plan 71 = .ok (.aload_n 0, 1) := by decide +kernel
theorem dX7_plan_72 : decode cX7_plan 72 = .ok (.getfield 15, 3) := by decide +kernel
theorem dX7_plan_75 : decode cX7_plan 75 = .ok (.iload_n 2, 1) := by decide +kernel
theorem dX7_plan_76 : decode cX7_plan 76 = .ok (.invokevirtual 53, 3) := by decide +kernel
theorem dX7_plan_79 : decode cX7_plan 79 = .ok (.ifCond .eq 57, 3) := by decide +kernel
theorem dX7_plan_82 : decode cX7_plan 82 = .ok (.aload_n 1, 1) := by decide +kernel
theorem dX7_plan_83 : decode cX7_plan 83 = .ok (.getfield 37, 3) := by decide +kernel
theorem dX7_plan_86 : decode cX7_plan 86 = .ok (.ifCond .eq 20, 3) := by decide +kernel
theorem dX7_plan_89 : decode cX7_plan 89 = .ok (.aload_n 1, 1) := by decide +kernel
theorem dX7_plan_90 : decode cX7_plan 90 = .ok (.getfield 57, 3) := by decide +kernel
theorem dX7_plan_93 : decode cX7_plan 93 = .ok (.aload_n 1, 1) := by decide +kernel
theorem dX7_plan_94 : decode cX7_plan 94 = .ok (.getfield 37, 3) := by decide +kernel
theorem dX7_plan_97 : decode cX7_plan 97 = .ok (.iconst 1, 1) := by decide +kernel
theorem dX7_plan_98 : decode cX7_plan 98 = .ok (.isub, 1) := by decide +kernel
theorem dX7_plan_99 : decode cX7_plan 99 = .ok (.iaload, 1) := by decide +kernel
theorem dX7_plan_100 : decode cX7_plan 100 = .ok (.iload_n 2, 1) := by decide +kernel
theorem dX7_plan_101 : decode cX7_plan 101 = .ok (.iconst 1, 1) := by decide +kernel
theorem dX7_plan_102 : decode cX7_plan 102 = .ok (.isub, 1) := by decide +kernel
theorem dX7_plan_103 : decode cX7_plan 103 = .ok (.if_icmp .eq 13, 3) := by decide +kernel
theorem dX7_plan_106 : decode cX7_plan 106 = .ok (.aload_n 1, 1) := by decide +kernel
theorem dX7_plan_107 : decode cX7_plan 107 = .ok (.dup, 1) := by decide +kernel
theorem dX7_plan_108 : decode cX7_plan 108 = .ok (.getfield 40, 3) := by decide +kernel
theorem dX7_plan_111 : decode cX7_plan 111 = .ok (.iconst 1, 1) := by decide +kernel
theorem dX7_plan_112 : decode cX7_plan 112 = .ok (.iadd, 1) := by decide +kernel
theorem dX7_plan_113 : decode cX7_plan 113 = .ok (.putfield 40, 3) := by decide +kernel
theorem dX7_plan_116 : decode cX7_plan 116 = .ok (.aload_n 1, 1) := by decide +kernel
theorem dX7_plan_117 : decode cX7_plan 117 = .ok (.getfield 57, 3) := by decide +kernel
theorem dX7_plan_120 : decode cX7_plan 120 = .ok (.aload_n 1, 1) := by decide +kernel
theorem dX7_plan_121 : decode cX7_plan 121 = .ok (.getfield 37, 3) := by decide +kernel
theorem dX7_plan_124 : decode cX7_plan 124 = .ok (.iload_n 2, 1) := by decide +kernel
theorem dX7_plan_125 : decode cX7_plan 125 = .ok (.iastore, 1) := by decide +kernel
theorem dX7_plan_126 : decode cX7_plan 126 = .ok (.aload_n 1, 1) := by decide +kernel
theorem dX7_plan_127 : decode cX7_plan 127 = .ok (.dup, 1) := by decide +kernel
theorem dX7_plan_128 : decode cX7_plan 128 = .ok (.getfield 37, 3) := by decide +kernel
theorem dX7_plan_131 : decode cX7_plan 131 = .ok (.iconst 1, 1) := by decide +kernel
theorem dX7_plan_132 : decode cX7_plan 132 = .ok (.iadd, 1) := by decide +kernel
theorem dX7_plan_133 : decode cX7_plan 133 = .ok (.putfield 37, 3) := by decide +kernel
theorem dX7_plan_136 : decode cX7_plan 136 = .ok (.iinc 2 1, 3) := by decide +kernel
theorem dX7_plan_139 : decode cX7_plan 139 = .ok (.goto (-99), 3) := by decide +kernel
theorem dX7_plan_142 : decode cX7_plan 142 = .ok (.return_, 1) := by decide +kernel
theorem dX7_raise_0 : decode cX7_raise 0 = .ok (.aload_n 1, 1) := by decide +kernel
theorem dX7_raise_1 : decode cX7_raise 1 = .ok (.getfield 126, 3) := by decide +kernel
theorem dX7_raise_4 : decode cX7_raise 4 = .ok (.bipush 8, 2) := by decide +kernel
theorem dX7_raise_6 : decode cX7_raise 6 = .ok (.iload_n 2, 1) := by decide +kernel
theorem dX7_raise_7 : decode cX7_raise 7 = .ok (.iadd, 1) := by decide +kernel
theorem dX7_raise_8 : decode cX7_raise 8 = .ok (.iaload, 1) := by decide +kernel
theorem dX7_raise_9 : decode cX7_raise 9 = .ok (.invokestatic 132, 3) := by decide +kernel
theorem dX7_raise_12 : decode cX7_raise 12 = .ok (.istore_n 3, 1) := by decide +kernel
theorem dX7_raise_13 : decode cX7_raise 13 = .ok (.iload_n 3, 1) := by decide +kernel
theorem dX7_raise_14 : decode cX7_raise 14 = .ok (.iconst (-1), 1) := by decide +kernel
theorem dX7_raise_15 : decode cX7_raise 15 = .ok (.if_icmp .eq 22, 3) := by decide +kernel
theorem dX7_raise_18 : decode cX7_raise 18 = .ok (.aload_n 1, 1) := by decide +kernel
theorem dX7_raise_19 : decode cX7_raise 19 = .ok (.getfield 126, 3) := by decide +kernel
theorem dX7_raise_22 : decode cX7_raise 22 = .ok (.bipush 8, 2) := by decide +kernel
theorem dX7_raise_24 : decode cX7_raise 24 = .ok (.iload_n 2, 1) := by decide +kernel
theorem dX7_raise_25 : decode cX7_raise 25 = .ok (.iadd, 1) := by decide +kernel
theorem dX7_raise_26 : decode cX7_raise 26 = .ok (.sipush 3048, 3) := by decide +kernel
theorem dX7_raise_29 : decode cX7_raise 29 = .ok (.aload_n 0, 1) := by decide +kernel
theorem dX7_raise_30 : decode cX7_raise 30 = .ok (.aload_n 1, 1) := by decide +kernel
theorem dX7_raise_31 : decode cX7_raise 31 = .ok (.iload_n 3, 1) := by decide +kernel
theorem dX7_raise_32 : decode cX7_raise 32 = .ok (.invokevirtual 129, 3) := by decide +kernel
theorem dX7_raise_35 : decode cX7_raise 35 = .ok (.iadd, 1) := by decide +kernel
theorem dX7_raise_36 : decode cX7_raise 36 = .ok (.iastore, 1) := by decide +kernel
theorem dX7_raise_37 : decode cX7_raise 37 = .ok (.return_, 1) := by decide +kernel
theorem dX7_stageAddress_0 : decode cX7_stageAddress 0 = .ok (.aload_n 1, 1) := by decide +kernel
theorem dX7_stageAddress_1 : decode cX7_stageAddress 1 = .ok (.getfield 25, 3) := by decide +kernel
theorem dX7_stageAddress_4 : decode cX7_stageAddress 4 = .ok (.iconst 1, 1) := by decide +kernel
theorem dX7_stageAddress_5 : decode cX7_stageAddress 5 = .ok (.isub, 1) := by decide +kernel
theorem dX7_stageAddress_6 : decode cX7_stageAddress 6 = .ok (.istore_n 2, 1) := by decide +kernel
theorem dX7_stageAddress_7 : decode cX7_stageAddress 7 = .ok (.aload_n 0, 1) := by decide +kernel
theorem dX7_stageAddress_8 : decode cX7_stageAddress 8 = .ok (.aload_n 1, 1) := by decide +kernel
theorem dX7_stageAddress_9 : decode cX7_stageAddress 9 = .ok (.invokevirtual 94, 3) := by decide +kernel
theorem dX7_stageAddress_12 : decode cX7_stageAddress 12 = .ok (.tableswitch 116 2 7 #[40, 45, 55, 74, 86, 96], 40) := by decide +kernel
theorem dX7_stageAddress_52 : decode cX7_stageAddress 52 = .ok (.iload_n 2, 1) := by decide +kernel
theorem dX7_stageAddress_53 : decode cX7_stageAddress 53 = .ok (.bipush 8, 2) := by decide +kernel
theorem dX7_stageAddress_55 : decode cX7_stageAddress 55 = .ok (.isub, 1) := by decide +kernel
theorem dX7_stageAddress_56 : decode cX7_stageAddress 56 = .ok (.ireturn, 1) := by decide +kernel
theorem dX7_stageAddress_57 : decode cX7_stageAddress 57 = .ok (.aload_n 1, 1) := by decide +kernel
theorem dX7_stageAddress_58 : decode cX7_stageAddress 58 = .ok (.getfield 57, 3) := by decide +kernel
theorem dX7_stageAddress_61 : decode cX7_stageAddress 61 = .ok (.iload_n 2, 1) := by decide +kernel
theorem dX7_stageAddress_62 : decode cX7_stageAddress 62 = .ok (.bipush 8, 2) := by decide +kernel
theorem dX7_stageAddress_64 : decode cX7_stageAddress 64 = .ok (.isub, 1) := by decide +kernel
theorem dX7_stageAddress_65 : decode cX7_stageAddress 65 = .ok (.iaload, 1) := by decide +kernel
theorem dX7_stageAddress_66 : decode cX7_stageAddress 66 = .ok (.ireturn, 1) := by decide +kernel
theorem dX7_stageAddress_67 : decode cX7_stageAddress 67 = .ok (.aload_n 1, 1) := by decide +kernel
theorem dX7_stageAddress_68 : decode cX7_stageAddress 68 = .ok (.getfield 57, 3) := by decide +kernel
theorem dX7_stageAddress_71 : decode cX7_stageAddress 71 = .ok (.iconst 2, 1) := by decide +kernel
theorem dX7_stageAddress_72 : decode cX7_stageAddress 72 = .ok (.aload_n 1, 1) := by decide +kernel
theorem dX7_stageAddress_73 : decode cX7_stageAddress 73 = .ok (.getfield 37, 3) := by decide +kernel
theorem dX7_stageAddress_76 : decode cX7_stageAddress 76 = .ok (.imul, 1) := by decide +kernel
theorem dX7_stageAddress_77 : decode cX7_stageAddress 77 = .ok (.iconst 1, 1) := by decide +kernel
theorem dX7_stageAddress_78 : decode cX7_stageAddress 78 = .ok (.isub, 1) := by decide +kernel
theorem dX7_stageAddress_79 : decode cX7_stageAddress 79 = .ok (.iload_n 2, 1) := by decide +kernel
theorem dX7_stageAddress_80 : decode cX7_stageAddress 80 = .ok (.bipush 8, 2) := by decide +kernel
theorem dX7_stageAddress_82 : decode cX7_stageAddress 82 = .ok (.isub, 1) := by decide +kernel
theorem dX7_stageAddress_83 : decode cX7_stageAddress 83 = .ok (.isub, 1) := by decide +kernel
theorem dX7_stageAddress_84 : decode cX7_stageAddress 84 = .ok (.iaload, 1) := by decide +kernel
theorem dX7_stageAddress_85 : decode cX7_stageAddress 85 = .ok (.ireturn, 1) := by decide +kernel
theorem dX7_stageAddress_86 : decode cX7_stageAddress 86 = .ok (.aload_n 1, 1) := by decide +kernel
theorem dX7_stageAddress_87 : decode cX7_stageAddress 87 = .ok (.getfield 57, 3) := by decide +kernel
theorem dX7_stageAddress_90 : decode cX7_stageAddress 90 = .ok (.aload_n 0, 1) := by decide +kernel
theorem dX7_stageAddress_91 : decode cX7_stageAddress 91 = .ok (.aload_n 1, 1) := by decide +kernel
theorem dX7_stageAddress_92 : decode cX7_stageAddress 92 = .ok (.iload_n 2, 1) := by decide +kernel
theorem dX7_stageAddress_93 : decode cX7_stageAddress 93 = .ok (.invokevirtual 97, 3) := by decide +kernel
theorem dX7_stageAddress_96 : decode cX7_stageAddress 96 = .ok (.iaload, 1) := by decide +kernel
theorem dX7_stageAddress_97 : decode cX7_stageAddress 97 = .ok (.ireturn, 1) := by decide +kernel
theorem dX7_stageAddress_98 : decode cX7_stageAddress 98 = .ok (.iload_n 2, 1) := by decide +kernel
theorem dX7_stageAddress_99 : decode cX7_stageAddress 99 = .ok (.aload_n 1, 1) := by decide +kernel
theorem dX7_stageAddress_100 : decode cX7_stageAddress 100 = .ok (.getfield 40, 3) := by decide +kernel
theorem dX7_stageAddress_103 : decode cX7_stageAddress 103 = .ok (.isub, 1) := by decide +kernel
theorem dX7_stageAddress_104 : decode cX7_stageAddress 104 = .ok (.bipush 8, 2) := by decide +kernel
theorem dX7_stageAddress_106 : decode cX7_stageAddress 106 = .ok (.isub, 1) := by decide +kernel
theorem dX7_stageAddress_107 : decode cX7_stageAddress 107 = .ok (.ireturn, 1) := by decide +kernel
theorem dX7_stageAddress_108 : decode cX7_stageAddress 108 = .ok (.aload_n 1, 1) := by decide +kernel
theorem dX7_stageAddress_109 : decode cX7_stageAddress 109 = .ok (.getfield 46, 3) := by decide +kernel
theorem dX7_stageAddress_112 : decode cX7_stageAddress 112 = .ok (.aload_n 1, 1) := by decide +kernel
theorem dX7_stageAddress_113 : decode cX7_stageAddress 113 = .ok (.getfield 37, 3) := by decide +kernel
theorem dX7_stageAddress_116 : decode cX7_stageAddress 116 = .ok (.isub, 1) := by decide +kernel
theorem dX7_stageAddress_117 : decode cX7_stageAddress 117 = .ok (.iload_n 2, 1) := by decide +kernel
theorem dX7_stageAddress_118 : decode cX7_stageAddress 118 = .ok (.iadd, 1) := by decide +kernel
theorem dX7_stageAddress_119 : decode cX7_stageAddress 119 = .ok (.aload_n 1, 1) := by decide +kernel
theorem dX7_stageAddress_120 : decode cX7_stageAddress 120 = .ok (.getfield 40, 3) := by decide +kernel
theorem dX7_stageAddress_123 : decode cX7_stageAddress 123 = .ok (.isub, 1) := by decide +kernel
theorem dX7_stageAddress_124 : decode cX7_stageAddress 124 = .ok (.bipush 8, 2) := by decide +kernel
theorem dX7_stageAddress_126 : decode cX7_stageAddress 126 = .ok (.isub, 1) := by decide +kernel
theorem dX7_stageAddress_127 : decode cX7_stageAddress 127 = .ok (.ireturn, 1) := by decide +kernel
theorem dX7_stageAddress_128 : decode cX7_stageAddress 128 = .ok (.ldc 100, 2) := by decide +kernel
theorem dX7_stageAddress_130 : decode cX7_stageAddress 130 = .ok (.ireturn, 1) := by decide +kernel
theorem dX7_stageOf_0 : decode cX7_stageOf 0 = .ok (.aload_n 1, 1) := by decide +kernel
theorem dX7_stageOf_1 : decode cX7_stageOf 1 = .ok (.getfield 25, 3) := by decide +kernel
theorem dX7_stageOf_4 : decode cX7_stageOf 4 = .ok (.iconst 1, 1) := by decide +kernel
theorem dX7_stageOf_5 : decode cX7_stageOf 5 = .ok (.isub, 1) := by decide +kernel
theorem dX7_stageOf_6 : decode cX7_stageOf 6 = .ok (.istore_n 2, 1) := by decide +kernel
theorem dX7_stageOf_7 : decode cX7_stageOf 7 = .ok (.iload_n 2, 1) := by decide +kernel
theorem dX7_stageOf_8 : decode cX7_stageOf 8 = .ok (.ifCond .ge 5, 3) := by decide +kernel
theorem dX7_stageOf_11 : decode cX7_stageOf 11 = .ok (.iconst 1, 1) := by decide +kernel
theorem dX7_stageOf_12 : decode cX7_stageOf 12 = .ok (.ireturn, 1) := by decide +kernel
theorem dX7_stageOf_13 : decode cX7_stageOf 13 = .ok (.aload_n 1, 1) := by decide +kernel
theorem dX7_stageOf_14 : decode cX7_stageOf 14 = .ok (.getfield 87, 3) := by decide +kernel
theorem dX7_stageOf_17 : decode cX7_stageOf 17 = .ok (.ifCond .ne 48, 3) := by decide +kernel
theorem dX7_stageOf_20 : decode cX7_stageOf 20 = .ok (.iload_n 2, 1) := by decide +kernel
theorem dX7_stageOf_21 : decode cX7_stageOf 21 = .ok (.bipush 8, 2) := by decide +kernel
theorem dX7_stageOf_23 : decode cX7_stageOf 23 = .ok (.if_icmp .ge 7, 3) := by decide +kernel
theorem dX7_stageOf_26 : decode cX7_stageOf 26 = .ok (.iconst 2, 1) := by decide +kernel
theorem dX7_stageOf_27 : decode cX7_stageOf 27 = .ok (.goto 37, 3) := by decide +kernel
theorem dX7_stageOf_30 : decode cX7_stageOf 30 = .ok (.iload_n 2, 1) := by decide +kernel
theorem dX7_stageOf_31 : decode cX7_stageOf 31 = .ok (.bipush 8, 2) := by decide +kernel
theorem dX7_stageOf_33 : decode cX7_stageOf 33 = .ok (.aload_n 1, 1) := by decide +kernel
theorem dX7_stageOf_34 : decode cX7_stageOf 34 = .ok (.getfield 37, 3) := by decide +kernel
theorem dX7_stageOf_37 : decode cX7_stageOf 37 = .ok (.iadd, 1) := by decide +kernel
theorem dX7_stageOf_38 : decode cX7_stageOf 38 = .ok (.if_icmp .ge 7, 3) := by decide +kernel
theorem dX7_stageOf_41 : decode cX7_stageOf 41 = .ok (.iconst 3, 1) := by decide +kernel
theorem dX7_stageOf_42 : decode cX7_stageOf 42 = .ok (.goto 22, 3) := by decide +kernel
theorem dX7_stageOf_45 : decode cX7_stageOf 45 = .ok (.iload_n 2, 1) := by decide +kernel
theorem dX7_stageOf_46 : decode cX7_stageOf 46 = .ok (.bipush 8, 2) := by decide +kernel
theorem dX7_stageOf_48 : decode cX7_stageOf 48 = .ok (.iconst 2, 1) := by decide +kernel
theorem dX7_stageOf_49 : decode cX7_stageOf 49 = .ok (.aload_n 1, 1) := by decide +kernel
theorem dX7_stageOf_50 : decode cX7_stageOf 50 = .ok (.getfield 37, 3) := by decide +kernel
theorem dX7_stageOf_53 : decode cX7_stageOf 53 = .ok (.imul, 1) := by decide +kernel
theorem dX7_stageOf_54 : decode cX7_stageOf 54 = .ok (.iadd, 1) := by decide +kernel
theorem dX7_stageOf_55 : decode cX7_stageOf 55 = .ok (.if_icmp .ge 7, 3) := by decide +kernel
theorem dX7_stageOf_58 : decode cX7_stageOf 58 = .ok (.iconst 4, 1) := by decide +kernel
theorem dX7_stageOf_59 : decode cX7_stageOf 59 = .ok (.goto 5, 3) := by decide +kernel
theorem dX7_stageOf_62 : decode cX7_stageOf 62 = .ok (.bipush 8, 2) := by decide +kernel
theorem dX7_stageOf_64 : decode cX7_stageOf 64 = .ok (.ireturn, 1) := by decide +kernel
theorem dX7_stageOf_65 : decode cX7_stageOf 65 = .ok (.iload_n 2, 1) := by decide +kernel
theorem dX7_stageOf_66 : decode cX7_stageOf 66 = .ok (.aload_n 1, 1) := by decide +kernel
theorem dX7_stageOf_67 : decode cX7_stageOf 67 = .ok (.getfield 40, 3) := by decide +kernel
theorem dX7_stageOf_70 : decode cX7_stageOf 70 = .ok (.if_icmp .ge 7, 3) := by decide +kernel
theorem dX7_stageOf_73 : decode cX7_stageOf 73 = .ok (.iconst 5, 1) := by decide +kernel
theorem dX7_stageOf_74 : decode cX7_stageOf 74 = .ok (.goto 42, 3) := by decide +kernel
theorem dX7_stageOf_77 : decode cX7_stageOf 77 = .ok (.iload_n 2, 1) := by decide +kernel
theorem dX7_stageOf_78 : decode cX7_stageOf 78 = .ok (.aload_n 1, 1) := by decide +kernel
theorem dX7_stageOf_79 : decode cX7_stageOf 79 = .ok (.getfield 40, 3) := by decide +kernel
theorem dX7_stageOf_82 : decode cX7_stageOf 82 = .ok (.bipush 8, 2) := by decide +kernel
theorem dX7_stageOf_84 : decode cX7_stageOf 84 = .ok (.iadd, 1) := by decide +kernel
theorem dX7_stageOf_85 : decode cX7_stageOf 85 = .ok (.if_icmp .ge 8, 3) := by decide +kernel
theorem dX7_stageOf_88 : decode cX7_stageOf 88 = .ok (.bipush 6, 2) := by decide +kernel
theorem dX7_stageOf_90 : decode cX7_stageOf 90 = .ok (.goto 26, 3) := by decide +kernel
theorem dX7_stageOf_93 : decode cX7_stageOf 93 = .ok (.iload_n 2, 1) := by decide +kernel
theorem dX7_stageOf_94 : decode cX7_stageOf 94 = .ok (.aload_n 1, 1) := by decide +kernel
theorem dX7_stageOf_95 : decode cX7_stageOf 95 = .ok (.getfield 40, 3) := by decide +kernel
theorem dX7_stageOf_98 : decode cX7_stageOf 98 = .ok (.bipush 8, 2) := by decide +kernel
theorem dX7_stageOf_100 : decode cX7_stageOf 100 = .ok (.iadd, 1) := by decide +kernel
theorem dX7_stageOf_101 : decode cX7_stageOf 101 = .ok (.aload_n 1, 1) := by decide +kernel
theorem dX7_stageOf_102 : decode cX7_stageOf 102 = .ok (.getfield 37, 3) := by decide +kernel
theorem dX7_stageOf_105 : decode cX7_stageOf 105 = .ok (.iadd, 1) := by decide +kernel
theorem dX7_stageOf_106 : decode cX7_stageOf 106 = .ok (.if_icmp .ge 8, 3) := by decide +kernel
theorem dX7_stageOf_109 : decode cX7_stageOf 109 = .ok (.bipush 7, 2) := by decide +kernel
theorem dX7_stageOf_111 : decode cX7_stageOf 111 = .ok (.goto 5, 3) := by decide +kernel
theorem dX7_stageOf_114 : decode cX7_stageOf 114 = .ok (.bipush 8, 2) := by decide +kernel
theorem dX7_stageOf_116 : decode cX7_stageOf 116 = .ok (.ireturn, 1) := by decide +kernel
theorem dX7_stepsBy_0 : decode cX7_stepsBy 0 = .ok (.bipush 10, 2) := by decide +kernel
theorem dX7_stepsBy_2 : decode cX7_stepsBy 2 = .ok (.aload_n 1, 1) := by decide +kernel
theorem dX7_stepsBy_3 : decode cX7_stepsBy 3 = .ok (.getfield 37, 3) := by decide +kernel
theorem dX7_stepsBy_6 : decode cX7_stepsBy 6 = .ok (.iadd, 1) := by decide +kernel
theorem dX7_stepsBy_7 : decode cX7_stepsBy 7 = .ok (.iload_n 2, 1) := by decide +kernel
theorem dX7_stepsBy_8 : decode cX7_stepsBy 8 = .ok (.ifCond .ne 10, 3) := by decide +kernel
theorem dX7_stepsBy_11 : decode cX7_stepsBy 11 = .ok (.aload_n 1, 1) := by decide +kernel
theorem dX7_stepsBy_12 : decode cX7_stepsBy 12 = .ok (.getfield 37, 3) := by decide +kernel
theorem dX7_stepsBy_15 : decode cX7_stepsBy 15 = .ok (.goto 7, 3) := by decide +kernel
theorem dX7_stepsBy_18 : decode cX7_stepsBy 18 = .ok (.aload_n 1, 1) := by decide +kernel
theorem dX7_stepsBy_19 : decode cX7_stepsBy 19 = .ok (.getfield 40, 3) := by decide +kernel
theorem dX7_stepsBy_22 : decode cX7_stepsBy 22 = .ok (.iadd, 1) := by decide +kernel
theorem dX7_stepsBy_23 : decode cX7_stepsBy 23 = .ok (.ireturn, 1) := by decide +kernel
theorem dX7_thread_0 : decode cX7_thread 0 = .ok (.aload_n 0, 1) := by decide +kernel
theorem dX7_thread_1 : decode cX7_thread 1 = .ok (.bipush 8, 2) := by decide +kernel
theorem dX7_thread_3 : decode cX7_thread 3 = .ok (.iload_n 1, 1) := by decide +kernel
theorem dX7_thread_4 : decode cX7_thread 4 = .ok (.iadd, 1) := by decide +kernel
theorem dX7_thread_5 : decode cX7_thread 5 = .ok (.aload_n 0, 1) := by decide +kernel
theorem dX7_thread_6 : decode cX7_thread 6 = .ok (.bipush 8, 2) := by decide +kernel
theorem dX7_thread_8 : decode cX7_thread 8 = .ok (.iload_n 2, 1) := by decide +kernel
theorem dX7_thread_9 : decode cX7_thread 9 = .ok (.iadd, 1) := by decide +kernel
theorem dX7_thread_10 : decode cX7_thread 10 = .ok (.iaload, 1) := by decide +kernel
theorem dX7_thread_11 : decode cX7_thread 11 = .ok (.iastore, 1) := by decide +kernel
theorem dX7_thread_12 : decode cX7_thread 12 = .ok (.aload_n 0, 1) := by decide +kernel
theorem dX7_thread_13 : decode cX7_thread 13 = .ok (.bipush 8, 2) := by decide +kernel
theorem dX7_thread_15 : decode cX7_thread 15 = .ok (.iload_n 2, 1) := by decide +kernel
theorem dX7_thread_16 : decode cX7_thread 16 = .ok (.iadd, 1) := by decide +kernel
theorem dX7_thread_17 : decode cX7_thread 17 = .ok (.sipush 7144, 3) := by decide +kernel
theorem dX7_thread_20 : decode cX7_thread 20 = .ok (.iload_n 1, 1) := by decide +kernel
theorem dX7_thread_21 : decode cX7_thread 21 = .ok (.iadd, 1) := by decide +kernel
theorem dX7_thread_22 : decode cX7_thread 22 = .ok (.iastore, 1) := by decide +kernel
theorem dX7_thread_23 : decode cX7_thread 23 = .ok (.return_, 1) := by decide +kernel
theorem dX7_threadRegister_0 : decode cX7_threadRegister 0 = .ok (.aload_n 1, 1) := by decide +kernel
theorem dX7_threadRegister_1 : decode cX7_threadRegister 1 = .ok (.getfield 126, 3) := by decide +kernel
theorem dX7_threadRegister_4 : decode cX7_threadRegister 4 = .ok (.bipush 8, 2) := by decide +kernel
theorem dX7_threadRegister_6 : decode cX7_threadRegister 6 = .ok (.iload_n 2, 1) := by decide +kernel
theorem dX7_threadRegister_7 : decode cX7_threadRegister 7 = .ok (.iadd, 1) := by decide +kernel
theorem dX7_threadRegister_8 : decode cX7_threadRegister 8 = .ok (.iaload, 1) := by decide +kernel
theorem dX7_threadRegister_9 : decode cX7_threadRegister 9 = .ok (.invokestatic 132, 3) := by decide +kernel
theorem dX7_threadRegister_12 : decode cX7_threadRegister 12 = .ok (.istore_n 3, 1) := by decide +kernel
theorem dX7_threadRegister_13 : decode cX7_threadRegister 13 = .ok (.iload_n 3, 1) := by decide +kernel
theorem dX7_threadRegister_14 : decode cX7_threadRegister 14 = .ok (.iconst (-1), 1) := by decide +kernel
theorem dX7_threadRegister_15 : decode cX7_threadRegister 15 = .ok (.if_icmp .eq 12, 3) := by decide +kernel
theorem dX7_threadRegister_18 : decode cX7_threadRegister 18 = .ok (.aload_n 1, 1) := by decide +kernel
theorem dX7_threadRegister_19 : decode cX7_threadRegister 19 = .ok (.getfield 126, 3) := by decide +kernel
theorem dX7_threadRegister_22 : decode cX7_threadRegister 22 = .ok (.iload_n 2, 1) := by decide +kernel
theorem dX7_threadRegister_23 : decode cX7_threadRegister 23 = .ok (.iload_n 3, 1) := by decide +kernel
theorem dX7_threadRegister_24 : decode cX7_threadRegister 24 = .ok (.invokestatic 139, 3) := by decide +kernel
theorem dX7_threadRegister_27 : decode cX7_threadRegister 27 = .ok (.return_, 1) := by decide +kernel
theorem dX7_unthread_0 : decode cX7_unthread 0 = .ok (.bipush 8, 2) := by decide +kernel
theorem dX7_unthread_2 : decode cX7_unthread 2 = .ok (.iload_n 1, 1) := by decide +kernel
theorem dX7_unthread_3 : decode cX7_unthread 3 = .ok (.iadd, 1) := by decide +kernel
theorem dX7_unthread_4 : decode cX7_unthread 4 = .ok (.istore_n 3, 1) := by decide +kernel
theorem dX7_unthread_5 : decode cX7_unthread 5 = .ok (.iconst 0, 1) := by decide +kernel
theorem dX7_unthread_6 : decode cX7_unthread 6 = .ok (.istore 4, 2) := by decide +kernel
theorem dX7_unthread_8 : decode cX7_unthread 8 = .ok (.iload 4, 2) := by decide +kernel
theorem dX7_unthread_10 : decode cX7_unthread 10 = .ok (.sipush 168, 3) := by decide +kernel
theorem dX7_unthread_13 : decode cX7_unthread 13 = .ok (.if_icmp .ge 46, 3) := by decide +kernel
theorem dX7_unthread_16 : decode cX7_unthread 16 = .ok (.aload_n 0, 1) := by decide +kernel
theorem dX7_unthread_17 : decode cX7_unthread 17 = .ok (.iload_n 3, 1) := by decide +kernel
theorem dX7_unthread_18 : decode cX7_unthread 18 = .ok (.iaload, 1) := by decide +kernel
theorem dX7_unthread_19 : decode cX7_unthread 19 = .ok (.sipush 7136, 3) := by decide +kernel
theorem dX7_unthread_22 : decode cX7_unthread 22 = .ok (.if_icmp .lt 37, 3) := by decide +kernel
theorem dX7_unthread_25 : decode cX7_unthread 25 = .ok (.bipush 8, 2) := by decide +kernel
theorem dX7_unthread_27 : decode cX7_unthread 27 = .ok (.aload_n 0, 1) := by decide +kernel
theorem dX7_unthread_28 : decode cX7_unthread 28 = .ok (.iload_n 3, 1) := by decide +kernel
theorem dX7_unthread_29 : decode cX7_unthread 29 = .ok (.iaload, 1) := by decide +kernel
theorem dX7_unthread_30 : decode cX7_unthread 30 = .ok (.iadd, 1) := by decide +kernel
theorem dX7_unthread_31 : decode cX7_unthread 31 = .ok (.sipush 7144, 3) := by decide +kernel
theorem dX7_unthread_34 : decode cX7_unthread 34 = .ok (.isub, 1) := by decide +kernel
theorem dX7_unthread_35 : decode cX7_unthread 35 = .ok (.istore 5, 2) := by decide +kernel
theorem dX7_unthread_37 : decode cX7_unthread 37 = .ok (.aload_n 0, 1) := by decide +kernel
theorem dX7_unthread_38 : decode cX7_unthread 38 = .ok (.iload_n 3, 1) := by decide +kernel
theorem dX7_unthread_39 : decode cX7_unthread 39 = .ok (.aload_n 0, 1) := by decide +kernel
theorem dX7_unthread_40 : decode cX7_unthread 40 = .ok (.iload 5, 2) := by decide +kernel
theorem dX7_unthread_42 : decode cX7_unthread 42 = .ok (.iaload, 1) := by decide +kernel
theorem dX7_unthread_43 : decode cX7_unthread 43 = .ok (.iastore, 1) := by decide +kernel
theorem dX7_unthread_44 : decode cX7_unthread 44 = .ok (.aload_n 0, 1) := by decide +kernel
theorem dX7_unthread_45 : decode cX7_unthread 45 = .ok (.iload 5, 2) := by decide +kernel
theorem dX7_unthread_47 : decode cX7_unthread 47 = .ok (.sipush 3048, 3) := by decide +kernel
theorem dX7_unthread_50 : decode cX7_unthread 50 = .ok (.iload_n 2, 1) := by decide +kernel
theorem dX7_unthread_51 : decode cX7_unthread 51 = .ok (.iadd, 1) := by decide +kernel
theorem dX7_unthread_52 : decode cX7_unthread 52 = .ok (.iastore, 1) := by decide +kernel
theorem dX7_unthread_53 : decode cX7_unthread 53 = .ok (.iinc 4 1, 3) := by decide +kernel
theorem dX7_unthread_56 : decode cX7_unthread 56 = .ok (.goto (-48), 3) := by decide +kernel
theorem dX7_unthread_59 : decode cX7_unthread 59 = .ok (.return_, 1) := by decide +kernel
theorem dX7_whole_0 : decode cX7_whole 0 = .ok (.aload_n 0, 1) := by decide +kernel
theorem dX7_whole_1 : decode cX7_whole 1 = .ok (.aload_n 1, 1) := by decide +kernel
theorem dX7_whole_2 : decode cX7_whole 2 = .ok (.invokevirtual 60, 3) := by decide +kernel
theorem dX7_whole_5 : decode cX7_whole 5 = .ok (.aload_n 1, 1) := by decide +kernel
theorem dX7_whole_6 : decode cX7_whole 6 = .ok (.iconst 1, 1) := by decide +kernel
theorem dX7_whole_7 : decode cX7_whole 7 = .ok (.putfield 64, 3) := by decide +kernel
theorem dX7_whole_10 : decode cX7_whole 10 = .ok (.aload_n 0, 1) := by decide +kernel
theorem dX7_whole_11 : decode cX7_whole 11 = .ok (.aload_n 1, 1) := by decide +kernel
theorem dX7_whole_12 : decode cX7_whole 12 = .ok (.invokevirtual 68, 3) := by decide +kernel
theorem dX7_whole_15 : decode cX7_whole 15 = .ok (.istore_n 2, 1) := by decide +kernel
theorem dX7_whole_16 : decode cX7_whole 16 = .ok (.iconst 0, 1) := by decide +kernel
theorem dX7_whole_17 : decode cX7_whole 17 = .ok (.istore_n 3, 1) := by decide +kernel
theorem dX7_whole_18 : decode cX7_whole 18 = .ok (.iload_n 3, 1) := by decide +kernel
theorem dX7_whole_19 : decode cX7_whole 19 = .ok (.iload_n 2, 1) := by decide +kernel
theorem dX7_whole_20 : decode cX7_whole 20 = .ok (.if_icmp .ge 14, 3) := by decide +kernel
theorem dX7_whole_23 : decode cX7_whole 23 = .ok (.aload_n 0, 1) := by decide +kernel
theorem dX7_whole_24 : decode cX7_whole 24 = .ok (.aload_n 1, 1) := by decide +kernel
theorem dX7_whole_25 : decode cX7_whole 25 = .ok (.invokevirtual 72, 3) := by decide +kernel
theorem dX7_whole_28 : decode cX7_whole 28 = .ok (.iinc 3 1, 3) := by decide +kernel
theorem dX7_whole_31 : decode cX7_whole 31 = .ok (.goto (-13), 3) := by decide +kernel
theorem dX7_whole_34 : decode cX7_whole 34 = .ok (.return_, 1) := by decide +kernel
theorem dX8_addCell_0 : decode cX8_addCell 0 = .ok (.aload_n 1, 1) := by decide +kernel
theorem dX8_addCell_1 : decode cX8_addCell 1 = .ok (.getfield 71, 3) := by decide +kernel
theorem dX8_addCell_4 : decode cX8_addCell 4 = .ok (.iload_n 2, 1) := by decide +kernel
theorem dX8_addCell_5 : decode cX8_addCell 5 = .ok (.iaload, 1) := by decide +kernel
theorem dX8_addCell_6 : decode cX8_addCell 6 = .ok (.istore_n 3, 1) := by decide +kernel
theorem dX8_addCell_7 : decode cX8_addCell 7 = .ok (.aload_n 0, 1) := by decide +kernel
theorem dX8_addCell_8 : decode cX8_addCell 8 = .ok (.dup, 1) := by decide +kernel
theorem dX8_addCell_9 : decode cX8_addCell 9 = .ok (.getfield 15, 3) := by decide +kernel
theorem dX8_addCell_12 : decode cX8_addCell 12 = .ok (.iload_n 3, 1) := by decide +kernel
theorem dX8_addCell_13 : decode cX8_addCell 13 = .ok (.iconst 1, 1) := by decide +kernel
theorem dX8_addCell_14 : decode cX8_addCell 14 = .ok (.iadd, 1) := by decide +kernel
theorem dX8_addCell_15 : decode cX8_addCell 15 = .ok (.isub, 1) := by decide +kernel
theorem dX8_addCell_16 : decode cX8_addCell 16 = .ok (.putfield 15, 3) := by decide +kernel
theorem dX8_addCell_19 : decode cX8_addCell 19 = .ok (.aload_n 0, 1) := by decide +kernel
theorem dX8_addCell_20 : decode cX8_addCell 20 = .ok (.aload_n 0, 1) := by decide +kernel
theorem dX8_addCell_21 : decode cX8_addCell 21 = .ok (.getfield 15, 3) := by decide +kernel
theorem dX8_addCell_24 : decode cX8_addCell 24 = .ok (.sipush 5096, 3) := by decide +kernel
theorem dX8_addCell_27 : decode cX8_addCell 27 = .ok (.iload_n 2, 1) := by decide +kernel
theorem dX8_addCell_28 : decode cX8_addCell 28 = .ok (.iadd, 1) := by decide +kernel
theorem dX8_addCell_29 : decode cX8_addCell 29 = .ok (.invokevirtual 76, 3) := by decide +kernel
theorem dX8_addCell_32 : decode cX8_addCell 32 = .ok (.iconst 0, 1) := by decide +kernel
theorem dX8_addCell_33 : decode cX8_addCell 33 = .ok (.istore 4, 2) := by decide +kernel
theorem dX8_addCell_35 : decode cX8_addCell 35 = .ok (.iload 4, 2) := by decide +kernel
theorem dX8_addCell_37 : decode cX8_addCell 37 = .ok (.iload_n 3, 1) := by decide +kernel
theorem dX8_addCell_38 : decode cX8_addCell 38 = .ok (.if_icmp .ge 41, 3) := by decide +kernel
theorem dX8_addCell_41 : decode cX8_addCell 41 = .ok (.aload_n 0, 1) := by decide +kernel
theorem dX8_addCell_42 : decode cX8_addCell 42 = .ok (.aload_n 0, 1) := by decide +kernel
theorem dX8_addCell_43 : decode cX8_addCell 43 = .ok (.getfield 15, 3) := by decide +kernel
theorem dX8_addCell_46 : decode cX8_addCell 46 = .ok (.iconst 1, 1) := by decide +kernel
theorem dX8_addCell_47 : decode cX8_addCell 47 = .ok (.iadd, 1) := by decide +kernel
theorem dX8_addCell_48 : decode cX8_addCell 48 = .ok (.iload 4, 2) := by decide +kernel
theorem dX8_addCell_50 : decode cX8_addCell 50 = .ok (.iadd, 1) := by decide +kernel
theorem dX8_addCell_51 : decode cX8_addCell 51 = .ok (.aload_n 1, 1) := by decide +kernel
theorem dX8_addCell_52 : decode cX8_addCell 52 = .ok (.iload_n 2, 1) := by decide +kernel
theorem dX8_addCell_53 : decode cX8_addCell 53 = .ok (.iload 4, 2) := by decide +kernel
theorem dX8_addCell_55 : decode cX8_addCell 55 = .ok (.invokevirtual 80, 3) := by decide +kernel
theorem dX8_addCell_58 : decode cX8_addCell 58 = .ok (.ifCond .ne 9, 3) := by decide +kernel
theorem dX8_addCell_61 : decode cX8_addCell 61 = .ok (.sipush 1000, 3) := by decide +kernel
theorem dX8_addCell_64 : decode cX8_addCell 64 = .ok (.goto 6, 3) := by decide +kernel
theorem dX8_addCell_67 : decode cX8_addCell 67 = .ok (.sipush 3047, 3) := by decide +kernel
theorem dX8_addCell_70 : decode cX8_addCell 70 = .ok (.invokevirtual 76, 3) := by decide +kernel
theorem dX8_addCell_73 : decode cX8_addCell 73 = .ok (.iinc 4 1, 3) := by decide +kernel
theorem dX8_addCell_76 : decode cX8_addCell 76 = .ok (.goto (-41), 3) := by decide +kernel
theorem dX8_addCell_79 : decode cX8_addCell 79 = .ok (.aload_n 0, 1) := by decide +kernel
theorem dX8_addCell_80 : decode cX8_addCell 80 = .ok (.getfield 15, 3) := by decide +kernel
theorem dX8_addCell_83 : decode cX8_addCell 83 = .ok (.ireturn, 1) := by decide +kernel
theorem dX8_at_0 : decode cX8_at 0 = .ok (.aload_n 0, 1) := by decide +kernel
theorem dX8_at_1 : decode cX8_at 1 = .ok (.getfield 21, 3) := by decide +kernel
theorem dX8_at_4 : decode cX8_at 4 = .ok (.bipush 8, 2) := by decide +kernel
theorem dX8_at_6 : decode cX8_at 6 = .ok (.iload_n 1, 1) := by decide +kernel
theorem dX8_at_7 : decode cX8_at 7 = .ok (.iadd, 1) := by decide +kernel
theorem dX8_at_8 : decode cX8_at 8 = .ok (.iaload, 1) := by decide +kernel
theorem dX8_at_9 : decode cX8_at 9 = .ok (.ireturn, 1) := by decide +kernel
theorem dX8_clear_0 : decode cX8_clear 0 = .ok (.aload_n 0, 1) := by decide +kernel
theorem dX8_clear_1 : decode cX8_clear 1 = .ok (.iload_n 1, 1) := by decide +kernel
theorem dX8_clear_2 : decode cX8_clear 2 = .ok (.putfield 9, 3) := by decide +kernel
theorem dX8_clear_5 : decode cX8_clear 5 = .ok (.aload_n 0, 1) := by decide +kernel
theorem dX8_clear_6 : decode cX8_clear 6 = .ok (.iload_n 1, 1) := by decide +kernel
theorem dX8_clear_7 : decode cX8_clear 7 = .ok (.putfield 15, 3) := by decide +kernel
theorem dX8_clear_10 : decode cX8_clear 10 = .ok (.aload_n 0, 1) := by decide +kernel
theorem dX8_clear_11 : decode cX8_clear 11 = .ok (.iconst 0, 1) := by decide +kernel
theorem dX8_clear_12 : decode cX8_clear 12 = .ok (.putfield 18, 3) := by decide +kernel
theorem dX8_clear_15 : decode cX8_clear 15 = .ok (.aload_n 0, 1) := by decide +kernel
theorem dX8_clear_16 : decode cX8_clear 16 = .ok (.iconst 0, 1) := by decide +kernel
theorem dX8_clear_17 : decode cX8_clear 17 = .ok (.putfield 25, 3) := by decide +kernel
theorem dX8_clear_20 : decode cX8_clear 20 = .ok (.aload_n 0, 1) := by decide +kernel
theorem dX8_clear_21 : decode cX8_clear 21 = .ok (.iconst 0, 1) := by decide +kernel
theorem dX8_clear_22 : decode cX8_clear 22 = .ok (.putfield 47, 3) := by decide +kernel
theorem dX8_clear_25 : decode cX8_clear 25 = .ok (.aload_n 0, 1) := by decide +kernel
theorem dX8_clear_26 : decode cX8_clear 26 = .ok (.iconst 0, 1) := by decide +kernel
theorem dX8_clear_27 : decode cX8_clear 27 = .ok (.putfield 50, 3) := by decide +kernel
theorem dX8_clear_30 : decode cX8_clear 30 = .ok (.aload_n 0, 1) := by decide +kernel
theorem dX8_clear_31 : decode cX8_clear 31 = .ok (.getfield 21, 3) := by decide +kernel
theorem dX8_clear_34 : decode cX8_clear 34 = .ok (.sipush 1000, 3) := by decide +kernel
theorem dX8_clear_37 : decode cX8_clear 37 = .ok (.invokestatic 62, 3) := by decide +kernel
theorem dX8_clear_40 : decode cX8_clear 40 = .ok (.aload_n 0, 1) := by decide +kernel
theorem dX8_clear_41 : decode cX8_clear 41 = .ok (.getfield 21, 3) := by decide +kernel
theorem dX8_clear_44 : decode cX8_clear 44 = .ok (.iconst 0, 1) := by decide +kernel
theorem dX8_clear_45 : decode cX8_clear 45 = .ok (.bipush 8, 2) := by decide +kernel
theorem dX8_clear_47 : decode cX8_clear 47 = .ok (.sipush 3047, 3) := by decide +kernel
theorem dX8_clear_50 : decode cX8_clear 50 = .ok (.invokestatic 68, 3) := by decide +kernel
theorem dX8_clear_53 : decode cX8_clear 53 = .ok (.return_, 1) := by decide +kernel
theorem dX8_copyFrom_0 : decode cX8_copyFrom 0 = .ok (.aload_n 0, 1) := by decide +kernel
theorem dX8_copyFrom_1 : decode cX8_copyFrom 1 = .ok (.aload_n 1, 1) := by decide +kernel
theorem dX8_copyFrom_2 : decode cX8_copyFrom 2 = .ok (.getfield 9, 3) := by decide +kernel
theorem dX8_copyFrom_5 : decode cX8_copyFrom 5 = .ok (.putfield 9, 3) := by decide +kernel
theorem dX8_copyFrom_8 : decode cX8_copyFrom 8 = .ok (.aload_n 0, 1) := by decide +kernel
theorem dX8_copyFrom_9 : decode cX8_copyFrom 9 = .ok (.aload_n 1, 1) := by decide +kernel
theorem dX8_copyFrom_10 : decode cX8_copyFrom 10 = .ok (.getfield 15, 3) := by decide +kernel
theorem dX8_copyFrom_13 : decode cX8_copyFrom 13 = .ok (.putfield 15, 3) := by decide +kernel
theorem dX8_copyFrom_16 : decode cX8_copyFrom 16 = .ok (.aload_n 0, 1) := by decide +kernel
theorem dX8_copyFrom_17 : decode cX8_copyFrom 17 = .ok (.aload_n 1, 1) := by decide +kernel
theorem dX8_copyFrom_18 : decode cX8_copyFrom 18 = .ok (.getfield 18, 3) := by decide +kernel
theorem dX8_copyFrom_21 : decode cX8_copyFrom 21 = .ok (.putfield 18, 3) := by decide +kernel
theorem dX8_copyFrom_24 : decode cX8_copyFrom 24 = .ok (.aload_n 1, 1) := by decide +kernel
theorem dX8_copyFrom_25 : decode cX8_copyFrom 25 = .ok (.getfield 21, 3) := by decide +kernel
theorem dX8_copyFrom_28 : decode cX8_copyFrom 28 = .ok (.iconst 0, 1) := by decide +kernel
theorem dX8_copyFrom_29 : decode cX8_copyFrom 29 = .ok (.aload_n 0, 1) := by decide +kernel
theorem dX8_copyFrom_30 : decode cX8_copyFrom 30 = .ok (.getfield 21, 3) := by decide +kernel
theorem dX8_copyFrom_33 : decode cX8_copyFrom 33 = .ok (.iconst 0, 1) := by decide +kernel
theorem dX8_copyFrom_34 : decode cX8_copyFrom 34 = .ok (.aload_n 0, 1) := by decide +kernel
theorem dX8_copyFrom_35 : decode cX8_copyFrom 35 = .ok (.getfield 21, 3) := by decide +kernel
theorem dX8_copyFrom_38 : decode cX8_copyFrom 38 = .ok (.arraylength, 1) := by decide +kernel
theorem dX8_copyFrom_39 : decode cX8_copyFrom 39 = .ok (.invokestatic 56, 3) := by decide +kernel
theorem dX8_copyFrom_42 : decode cX8_copyFrom 42 = .ok (.aload_n 0, 1) := by decide +kernel
theorem dX8_copyFrom_43 : decode cX8_copyFrom 43 = .ok (.aload_n 1, 1) := by decide +kernel
theorem dX8_copyFrom_44 : decode cX8_copyFrom 44 = .ok (.getfield 25, 3) := by decide +kernel
theorem dX8_copyFrom_47 : decode cX8_copyFrom 47 = .ok (.putfield 25, 3) := by decide +kernel
theorem dX8_copyFrom_50 : decode cX8_copyFrom 50 = .ok (.aload_n 0, 1) := by decide +kernel
theorem dX8_copyFrom_51 : decode cX8_copyFrom 51 = .ok (.aload_n 1, 1) := by decide +kernel
theorem dX8_copyFrom_52 : decode cX8_copyFrom 52 = .ok (.getfield 29, 3) := by decide +kernel
theorem dX8_copyFrom_55 : decode cX8_copyFrom 55 = .ok (.putfield 29, 3) := by decide +kernel
theorem dX8_copyFrom_58 : decode cX8_copyFrom 58 = .ok (.aload_n 1, 1) := by decide +kernel
theorem dX8_copyFrom_59 : decode cX8_copyFrom 59 = .ok (.getfield 32, 3) := by decide +kernel
theorem dX8_copyFrom_62 : decode cX8_copyFrom 62 = .ok (.iconst 0, 1) := by decide +kernel
theorem dX8_copyFrom_63 : decode cX8_copyFrom 63 = .ok (.aload_n 0, 1) := by decide +kernel
theorem dX8_copyFrom_64 : decode cX8_copyFrom 64 = .ok (.getfield 32, 3) := by decide +kernel
theorem dX8_copyFrom_67 : decode cX8_copyFrom 67 = .ok (.iconst 0, 1) := by decide +kernel
theorem dX8_copyFrom_68 : decode cX8_copyFrom 68 = .ok (.aload_n 0, 1) := by decide +kernel
theorem dX8_copyFrom_69 : decode cX8_copyFrom 69 = .ok (.getfield 32, 3) := by decide +kernel
theorem dX8_copyFrom_72 : decode cX8_copyFrom 72 = .ok (.arraylength, 1) := by decide +kernel
theorem dX8_copyFrom_73 : decode cX8_copyFrom 73 = .ok (.invokestatic 56, 3) := by decide +kernel
theorem dX8_copyFrom_76 : decode cX8_copyFrom 76 = .ok (.aload_n 0, 1) := by decide +kernel
theorem dX8_copyFrom_77 : decode cX8_copyFrom 77 = .ok (.aload_n 1, 1) := by decide +kernel
theorem dX8_copyFrom_78 : decode cX8_copyFrom 78 = .ok (.getfield 35, 3) := by decide +kernel
theorem dX8_copyFrom_81 : decode cX8_copyFrom 81 = .ok (.putfield 35, 3) := by decide +kernel
theorem dX8_copyFrom_84 : decode cX8_copyFrom 84 = .ok (.aload_n 0, 1) := by decide +kernel
theorem dX8_copyFrom_85 : decode cX8_copyFrom 85 = .ok (.aload_n 1, 1) := by decide +kernel
theorem dX8_copyFrom_86 : decode cX8_copyFrom 86 = .ok (.getfield 38, 3) := by decide +kernel
theorem dX8_copyFrom_89 : decode cX8_copyFrom 89 = .ok (.putfield 38, 3) := by decide +kernel
theorem dX8_copyFrom_92 : decode cX8_copyFrom 92 = .ok (.aload_n 0, 1) := by decide +kernel
theorem dX8_copyFrom_93 : decode cX8_copyFrom 93 = .ok (.aload_n 1, 1) := by decide +kernel
theorem dX8_copyFrom_94 : decode cX8_copyFrom 94 = .ok (.getfield 41, 3) := by decide +kernel
theorem dX8_copyFrom_97 : decode cX8_copyFrom 97 = .ok (.putfield 41, 3) := by decide +kernel
theorem dX8_copyFrom_100 : decode cX8_copyFrom 100 = .ok (.aload_n 0, 1) := by decide +kernel
theorem dX8_copyFrom_101 : decode cX8_copyFrom 101 = .ok (.aload_n 1, 1) := by decide +kernel
theorem dX8_copyFrom_102 : decode cX8_copyFrom 102 = .ok (.getfield 44, 3) := by decide +kernel
theorem dX8_copyFrom_105 : decode cX8_copyFrom 105 = .ok (.putfield 44, 3) := by decide +kernel
theorem dX8_copyFrom_108 : decode cX8_copyFrom 108 = .ok (.aload_n 0, 1) := by decide +kernel
theorem dX8_copyFrom_109 : decode cX8_copyFrom 109 = .ok (.aload_n 1, 1) := by decide +kernel
theorem dX8_copyFrom_110 : decode cX8_copyFrom 110 = .ok (.getfield 47, 3) := by decide +kernel
theorem dX8_copyFrom_113 : decode cX8_copyFrom 113 = .ok (.putfield 47, 3) := by decide +kernel
theorem dX8_copyFrom_116 : decode cX8_copyFrom 116 = .ok (.aload_n 0, 1) := by decide +kernel
theorem dX8_copyFrom_117 : decode cX8_copyFrom 117 = .ok (.aload_n 1, 1) := by decide +kernel
theorem dX8_copyFrom_118 : decode cX8_copyFrom 118 = .ok (.getfield 50, 3) := by decide +kernel
theorem dX8_copyFrom_121 : decode cX8_copyFrom 121 = .ok (.putfield 50, 3) := by decide +kernel
theorem dX8_copyFrom_124 : decode cX8_copyFrom 124 = .ok (.aload_n 1, 1) := by decide +kernel
theorem dX8_copyFrom_125 : decode cX8_copyFrom 125 = .ok (.getfield 53, 3) := by decide +kernel
theorem dX8_copyFrom_128 : decode cX8_copyFrom 128 = .ok (.iconst 0, 1) := by decide +kernel
theorem dX8_copyFrom_129 : decode cX8_copyFrom 129 = .ok (.aload_n 0, 1) := by decide +kernel
theorem dX8_copyFrom_130 : decode cX8_copyFrom 130 = .ok (.getfield 53, 3) := by decide +kernel
theorem dX8_copyFrom_133 : decode cX8_copyFrom 133 = .ok (.iconst 0, 1) := by decide +kernel
theorem dX8_copyFrom_134 : decode cX8_copyFrom 134 = .ok (.aload_n 0, 1) := by decide +kernel
theorem dX8_copyFrom_135 : decode cX8_copyFrom 135 = .ok (.getfield 53, 3) := by decide +kernel
theorem dX8_copyFrom_138 : decode cX8_copyFrom 138 = .ok (.arraylength, 1) := by decide +kernel
theorem dX8_copyFrom_139 : decode cX8_copyFrom 139 = .ok (.invokestatic 56, 3) := by decide +kernel
theorem dX8_copyFrom_142 : decode cX8_copyFrom 142 = .ok (.return_, 1) := by decide +kernel
theorem dX8_headOf_0 : decode cX8_headOf 0 = .ok (.iload_n 1, 1) := by decide +kernel
theorem dX8_headOf_1 : decode cX8_headOf 1 = .ok (.istore_n 2, 1) := by decide +kernel
theorem dX8_headOf_2 : decode cX8_headOf 2 = .ok (.iload_n 2, 1) := by decide +kernel
theorem dX8_headOf_3 : decode cX8_headOf 3 = .ok (.aload_n 0, 1) := by decide +kernel
theorem dX8_headOf_4 : decode cX8_headOf 4 = .ok (.getfield 15, 3) := by decide +kernel
theorem dX8_headOf_7 : decode cX8_headOf 7 = .ok (.if_icmp .lt 34, 3) := by decide +kernel
theorem dX8_headOf_10 : decode cX8_headOf 10 = .ok (.iload_n 2, 1) := by decide +kernel
theorem dX8_headOf_11 : decode cX8_headOf 11 = .ok (.iload_n 1, 1) := by decide +kernel
theorem dX8_headOf_12 : decode cX8_headOf 12 = .ok (.bipush 6, 2) := by decide +kernel
theorem dX8_headOf_14 : decode cX8_headOf 14 = .ok (.isub, 1) := by decide +kernel
theorem dX8_headOf_15 : decode cX8_headOf 15 = .ok (.if_icmp .lt 26, 3) := by decide +kernel
theorem dX8_headOf_18 : decode cX8_headOf 18 = .ok (.aload_n 0, 1) := by decide +kernel
theorem dX8_headOf_19 : decode cX8_headOf 19 = .ok (.getfield 21, 3) := by decide +kernel
theorem dX8_headOf_22 : decode cX8_headOf 22 = .ok (.bipush 8, 2) := by decide +kernel
theorem dX8_headOf_24 : decode cX8_headOf 24 = .ok (.iload_n 2, 1) := by decide +kernel
theorem dX8_headOf_25 : decode cX8_headOf 25 = .ok (.iadd, 1) := by decide +kernel
theorem dX8_headOf_26 : decode cX8_headOf 26 = .ok (.iaload, 1) := by decide +kernel
theorem dX8_headOf_27 : decode cX8_headOf 27 = .ok (.sipush 5096, 3) := by decide +kernel
theorem dX8_headOf_30 : decode cX8_headOf 30 = .ok (.if_icmp .lt 5, 3) := by decide +kernel
theorem dX8_headOf_33 : decode cX8_headOf 33 = .ok (.iload_n 2, 1) := by decide +kernel
theorem dX8_headOf_34 : decode cX8_headOf 34 = .ok (.ireturn, 1) := by decide +kernel
theorem dX8_headOf_35 : decode cX8_headOf 35 = .ok (.iinc 2 (-1), 3) := by decide +kernel
theorem dX8_headOf_38 : decode cX8_headOf 38 = .ok (.goto (-36), 3) := by decide +kernel
theorem dX8_headOf_41 : decode cX8_headOf 41 = .ok (.iconst (-1), 1) := by decide +kernel
theorem dX8_headOf_42 : decode cX8_headOf 42 = .ok (.ireturn, 1) := by decide +kernel
theorem dX8_init_0 : decode cX8_init 0 = .ok (.aload_n 0, 1) := by decide +kernel
theorem dX8_init_1 : decode cX8_init 1 = .ok (.invokespecial 3, 3) := by decide +kernel
theorem dX8_init_4 : decode cX8_init 4 = .ok (.aload_n 0, 1) := by decide +kernel
theorem dX8_init_5 : decode cX8_init 5 = .ok (.iconst 0, 1) := by decide +kernel
theorem dX8_init_6 : decode cX8_init 6 = .ok (.putfield 9, 3) := by decide +kernel
theorem dX8_init_9 : decode cX8_init 9 = .ok (.aload_n 0, 1) := by decide +kernel
theorem dX8_init_10 : decode cX8_init 10 = .ok (.iconst 0, 1) := by decide +kernel
theorem dX8_init_11 : decode cX8_init 11 = .ok (.putfield 15, 3) := by decide +kernel
theorem dX8_init_14 : decode cX8_init 14 = .ok (.aload_n 0, 1) := by decide +kernel
theorem dX8_init_15 : decode cX8_init 15 = .ok (.iconst 0, 1) := by decide +kernel
theorem dX8_init_16 : decode cX8_init 16 = .ok (.putfield 18, 3) := by decide +kernel
theorem dX8_init_19 : decode cX8_init 19 = .ok (.aload_n 0, 1) := by decide +kernel
theorem dX8_init_20 : decode cX8_init 20 = .ok (.sipush 168, 3) := by decide +kernel
theorem dX8_init_23 : decode cX8_init 23 = .ok (.newarray .int, 2) := by decide +kernel
theorem dX8_init_25 : decode cX8_init 25 = .ok (.putfield 21, 3) := by decide +kernel
theorem dX8_init_28 : decode cX8_init 28 = .ok (.aload_n 0, 1) := by decide +kernel
theorem dX8_init_29 : decode cX8_init 29 = .ok (.iconst 0, 1) := by decide +kernel
theorem dX8_init_30 : decode cX8_init 30 = .ok (.putfield 25, 3) := by decide +kernel
theorem dX8_init_33 : decode cX8_init 33 = .ok (.aload_n 0, 1) := by decide +kernel
theorem dX8_init_34 : decode cX8_init 34 = .ok (.iconst 0, 1) := by decide +kernel
theorem dX8_init_35 : decode cX8_init 35 = .ok (.putfield 29, 3) := by decide +kernel
theorem dX8_init_38 : decode cX8_init 38 = .ok (.aload_n 0, 1) := by decide +kernel
theorem dX8_init_39 : decode cX8_init 39 = .ok (.sipush 160, 3) := by decide +kernel
theorem dX8_init_42 : decode cX8_init 42 = .ok (.newarray .int, 2) := by decide +kernel
theorem dX8_init_44 : decode cX8_init 44 = .ok (.putfield 32, 3) := by decide +kernel
theorem dX8_init_47 : decode cX8_init 47 = .ok (.aload_n 0, 1) := by decide +kernel
theorem dX8_init_48 : decode cX8_init 48 = .ok (.iconst 0, 1) := by decide +kernel
theorem dX8_init_49 : decode cX8_init 49 = .ok (.putfield 35, 3) := by decide +kernel
theorem dX8_init_52 : decode cX8_init 52 = .ok (.aload_n 0, 1) := by decide +kernel
theorem dX8_init_53 : decode cX8_init 53 = .ok (.iconst 0, 1) := by decide +kernel
theorem dX8_init_54 : decode cX8_init 54 = .ok (.putfield 38, 3) := by decide +kernel
theorem dX8_init_57 : decode cX8_init 57 = .ok (.aload_n 0, 1) := by decide +kernel
theorem dX8_init_58 : decode cX8_init 58 = .ok (.iconst 0, 1) := by decide +kernel
theorem dX8_init_59 : decode cX8_init 59 = .ok (.putfield 41, 3) := by decide +kernel
theorem dX8_init_62 : decode cX8_init 62 = .ok (.aload_n 0, 1) := by decide +kernel
theorem dX8_init_63 : decode cX8_init 63 = .ok (.iconst 0, 1) := by decide +kernel
theorem dX8_init_64 : decode cX8_init 64 = .ok (.putfield 44, 3) := by decide +kernel
theorem dX8_init_67 : decode cX8_init 67 = .ok (.aload_n 0, 1) := by decide +kernel
theorem dX8_init_68 : decode cX8_init 68 = .ok (.iconst 0, 1) := by decide +kernel
theorem dX8_init_69 : decode cX8_init 69 = .ok (.putfield 47, 3) := by decide +kernel
theorem dX8_init_72 : decode cX8_init 72 = .ok (.aload_n 0, 1) := by decide +kernel
theorem dX8_init_73 : decode cX8_init 73 = .ok (.iconst 0, 1) := by decide +kernel
theorem dX8_init_74 : decode cX8_init 74 = .ok (.putfield 50, 3) := by decide +kernel
theorem dX8_init_77 : decode cX8_init 77 = .ok (.aload_n 0, 1) := by decide +kernel
theorem dX8_init_78 : decode cX8_init 78 = .ok (.bipush 80, 2) := by decide +kernel
theorem dX8_init_80 : decode cX8_init 80 = .ok (.newarray .int, 2) := by decide +kernel
theorem dX8_init_82 : decode cX8_init 82 = .ok (.putfield 53, 3) := by decide +kernel
theorem dX8_init_85 : decode cX8_init 85 = .ok (.return_, 1) := by decide +kernel
theorem dX8_put_0 : decode cX8_put 0 = .ok (.aload_n 0, 1) := by decide +kernel
theorem dX8_put_1 : decode cX8_put 1 = .ok (.getfield 21, 3) := by decide +kernel
theorem dX8_put_4 : decode cX8_put 4 = .ok (.bipush 8, 2) := by decide +kernel
theorem dX8_put_6 : decode cX8_put 6 = .ok (.iload_n 1, 1) := by decide +kernel
theorem dX8_put_7 : decode cX8_put 7 = .ok (.iadd, 1) := by decide +kernel
theorem dX8_put_8 : decode cX8_put 8 = .ok (.iload_n 2, 1) := by decide +kernel
theorem dX8_put_9 : decode cX8_put 9 = .ok (.iastore, 1) := by decide +kernel
theorem dX8_put_10 : decode cX8_put 10 = .ok (.return_, 1) := by decide +kernel
theorem dX8_settle_0 : decode cX8_settle 0 = .ok (.aload_n 0, 1) := by decide +kernel
theorem dX8_settle_1 : decode cX8_settle 1 = .ok (.getfield 9, 3) := by decide +kernel
theorem dX8_settle_4 : decode cX8_settle 4 = .ok (.aload_n 0, 1) := by decide +kernel
theorem dX8_settle_5 : decode cX8_settle 5 = .ok (.getfield 15, 3) := by decide +kernel
theorem dX8_settle_8 : decode cX8_settle 8 = .ok (.isub, 1) := by decide +kernel
theorem dX8_settle_9 : decode cX8_settle 9 = .ok (.aload_n 0, 1) := by decide +kernel
theorem dX8_settle_10 : decode cX8_settle 10 = .ok (.getfield 35, 3) := by decide +kernel
theorem dX8_settle_13 : decode cX8_settle 13 = .ok (.isub, 1) := by decide +kernel
theorem dX8_settle_14 : decode cX8_settle 14 = .ok (.istore_n 1, 1) := by decide +kernel
theorem dX8_settle_15 : decode cX8_settle 15 = .ok (.aload_n 0, 1) := by decide +kernel
theorem dX8_settle_16 : decode cX8_settle 16 = .ok (.aload_n 0, 1) := by decide +kernel
theorem dX8_settle_17 : decode cX8_settle 17 = .ok (.getfield 9, 3) := by decide +kernel
theorem dX8_settle_20 : decode cX8_settle 20 = .ok (.aload_n 0, 1) := by decide +kernel
theorem dX8_settle_21 : decode cX8_settle 21 = .ok (.getfield 35, 3) := by decide +kernel
theorem dX8_settle_24 : decode cX8_settle 24 = .ok (.isub, 1) := by decide +kernel
theorem dX8_settle_25 : decode cX8_settle 25 = .ok (.putfield 15, 3) := by decide +kernel
theorem dX8_settle_28 : decode cX8_settle 28 = .ok (.aload_n 0, 1) := by decide +kernel
theorem dX8_settle_29 : decode cX8_settle 29 = .ok (.getfield 21, 3) := by decide +kernel
theorem dX8_settle_32 : decode cX8_settle 32 = .ok (.bipush 8, 2) := by decide +kernel
theorem dX8_settle_34 : decode cX8_settle 34 = .ok (.bipush 8, 2) := by decide +kernel
theorem dX8_settle_36 : decode cX8_settle 36 = .ok (.aload_n 0, 1) := by decide +kernel
theorem dX8_settle_37 : decode cX8_settle 37 = .ok (.getfield 15, 3) := by decide +kernel
theorem dX8_settle_40 : decode cX8_settle 40 = .ok (.iadd, 1) := by decide +kernel
theorem dX8_settle_41 : decode cX8_settle 41 = .ok (.sipush 1000, 3) := by decide +kernel
theorem dX8_settle_44 : decode cX8_settle 44 = .ok (.invokestatic 68, 3) := by decide +kernel
theorem dX8_settle_47 : decode cX8_settle 47 = .ok (.aload_n 0, 1) := by decide +kernel
theorem dX8_settle_48 : decode cX8_settle 48 = .ok (.iconst 0, 1) := by decide +kernel
theorem dX8_settle_49 : decode cX8_settle 49 = .ok (.putfield 25, 3) := by decide +kernel
theorem dX8_settle_52 : decode cX8_settle 52 = .ok (.aload_n 0, 1) := by decide +kernel
theorem dX8_settle_53 : decode cX8_settle 53 = .ok (.dup, 1) := by decide +kernel
theorem dX8_settle_54 : decode cX8_settle 54 = .ok (.getfield 47, 3) := by decide +kernel
theorem dX8_settle_57 : decode cX8_settle 57 = .ok (.iconst 1, 1) := by decide +kernel
theorem dX8_settle_58 : decode cX8_settle 58 = .ok (.iadd, 1) := by decide +kernel
theorem dX8_settle_59 : decode cX8_settle 59 = .ok (.putfield 47, 3) := by decide +kernel
theorem dX8_settle_62 : decode cX8_settle 62 = .ok (.aload_n 0, 1) := by decide +kernel
theorem dX8_settle_63 : decode cX8_settle 63 = .ok (.getfield 50, 3) := by decide +kernel
theorem dX8_settle_66 : decode cX8_settle 66 = .ok (.bipush 20, 2) := by decide +kernel
theorem dX8_settle_68 : decode cX8_settle 68 = .ok (.if_icmp .ne 28, 3) := by decide +kernel
theorem dX8_settle_71 : decode cX8_settle 71 = .ok (.aload_n 0, 1) := by decide +kernel
theorem dX8_settle_72 : decode cX8_settle 72 = .ok (.getfield 53, 3) := by decide +kernel
theorem dX8_settle_75 : decode cX8_settle 75 = .ok (.iconst 4, 1) := by decide +kernel
theorem dX8_settle_76 : decode cX8_settle 76 = .ok (.aload_n 0, 1) := by decide +kernel
theorem dX8_settle_77 : decode cX8_settle 77 = .ok (.getfield 53, 3) := by decide +kernel
theorem dX8_settle_80 : decode cX8_settle 80 = .ok (.iconst 0, 1) := by decide +kernel
theorem dX8_settle_81 : decode cX8_settle 81 = .ok (.bipush 76, 2) := by decide +kernel
theorem dX8_settle_83 : decode cX8_settle 83 = .ok (.invokestatic 56, 3) := by decide +kernel
theorem dX8_settle_86 : decode cX8_settle 86 = .ok (.aload_n 0, 1) := by decide +kernel
theorem dX8_settle_87 : decode cX8_settle 87 = .ok (.dup, 1) := by decide +kernel
theorem dX8_settle_88 : decode cX8_settle 88 = .ok (.getfield 50, 3) := by decide +kernel
theorem dX8_settle_91 : decode cX8_settle 91 = .ok (.iconst 1, 1) := by decide +kernel
theorem dX8_settle_92 : decode cX8_settle 92 = .ok (.isub, 1) := by decide +kernel
theorem dX8_settle_93 : decode cX8_settle 93 = .ok (.putfield 50, 3) := by decide +kernel
theorem dX8_settle_96 : decode cX8_settle 96 = .ok (.aload_n 0, 1) := by decide +kernel
theorem dX8_settle_97 : decode cX8_settle 97 = .ok (.getfield 50, 3) := by decide +kernel
theorem dX8_settle_100 : decode cX8_settle 100 = .ok (.iconst 4, 1) := by decide +kernel
theorem dX8_settle_101 : decode cX8_settle 101 = .ok (.imul, 1) := by decide +kernel
theorem dX8_settle_102 : decode cX8_settle 102 = .ok (.istore_n 2, 1) := by decide +kernel
theorem dX8_settle_103 : decode cX8_settle 103 = .ok (.aload_n 0, 1) := by decide +kernel
theorem dX8_settle_104 : decode cX8_settle 104 = .ok (.getfield 53, 3) := by decide +kernel
theorem dX8_settle_107 : decode cX8_settle 107 = .ok (.iload_n 2, 1) := by decide +kernel
theorem dX8_settle_108 : decode cX8_settle 108 = .ok (.aload_n 0, 1) := by decide +kernel
theorem dX8_settle_109 : decode cX8_settle 109 = .ok (.getfield 35, 3) := by decide +kernel
theorem dX8_settle_112 : decode cX8_settle 112 = .ok (.iastore, 1) := by decide +kernel
theorem dX8_settle_113 : decode cX8_settle 113 = .ok (.aload_n 0, 1) := by decide +kernel
theorem dX8_settle_114 : decode cX8_settle 114 = .ok (.getfield 53, 3) := by decide +kernel
theorem dX8_settle_117 : decode cX8_settle 117 = .ok (.iload_n 2, 1) := by decide +kernel
theorem dX8_settle_118 : decode cX8_settle 118 = .ok (.iconst 1, 1) := by decide +kernel
theorem dX8_settle_119 : decode cX8_settle 119 = .ok (.iadd, 1) := by decide +kernel
theorem dX8_settle_120 : decode cX8_settle 120 = .ok (.iload_n 1, 1) := by decide +kernel
theorem dX8_settle_121 : decode cX8_settle 121 = .ok (.iastore, 1) := by decide +kernel
theorem dX8_settle_122 : decode cX8_settle 122 = .ok (.aload_n 0, 1) := by decide +kernel
theorem dX8_settle_123 : decode cX8_settle 123 = .ok (.getfield 53, 3) := by decide +kernel
theorem dX8_settle_126 : decode cX8_settle 126 = .ok (.iload_n 2, 1) := by decide +kernel
theorem dX8_settle_127 : decode cX8_settle 127 = .ok (.iconst 2, 1) := by decide +kernel
theorem dX8_settle_128 : decode cX8_settle 128 = .ok (.iadd, 1) := by decide +kernel
theorem dX8_settle_129 : decode cX8_settle 129 = .ok (.aload_n 0, 1) := by decide +kernel
theorem dX8_settle_130 : decode cX8_settle 130 = .ok (.getfield 18, 3) := by decide +kernel
theorem dX8_settle_133 : decode cX8_settle 133 = .ok (.iastore, 1) := by decide +kernel
theorem dX8_settle_134 : decode cX8_settle 134 = .ok (.aload_n 0, 1) := by decide +kernel
theorem dX8_settle_135 : decode cX8_settle 135 = .ok (.getfield 53, 3) := by decide +kernel
theorem dX8_settle_138 : decode cX8_settle 138 = .ok (.iload_n 2, 1) := by decide +kernel
theorem dX8_settle_139 : decode cX8_settle 139 = .ok (.iconst 3, 1) := by decide +kernel
theorem dX8_settle_140 : decode cX8_settle 140 = .ok (.iadd, 1) := by decide +kernel
theorem dX8_settle_141 : decode cX8_settle 141 = .ok (.aload_n 0, 1) := by decide +kernel
theorem dX8_settle_142 : decode cX8_settle 142 = .ok (.getfield 44, 3) := by decide +kernel
theorem dX8_settle_145 : decode cX8_settle 145 = .ok (.iastore, 1) := by decide +kernel
theorem dX8_settle_146 : decode cX8_settle 146 = .ok (.aload_n 0, 1) := by decide +kernel
theorem dX8_settle_147 : decode cX8_settle 147 = .ok (.dup, 1) := by decide +kernel
theorem dX8_settle_148 : decode cX8_settle 148 = .ok (.getfield 50, 3) := by decide +kernel
theorem dX8_settle_151 : decode cX8_settle 151 = .ok (.iconst 1, 1) := by decide +kernel
theorem dX8_settle_152 : decode cX8_settle 152 = .ok (.iadd, 1) := by decide +kernel
theorem dX8_settle_153 : decode cX8_settle 153 = .ok (.putfield 50, 3) := by decide +kernel
theorem dX8_settle_156 : decode cX8_settle 156 = .ok (.return_, 1) := by decide +kernel
theorem dX9_countThreads_0 : decode cX9_countThreads 0 = .ok (.aload_n 0, 1) := by decide +kernel
theorem dX9_countThreads_1 : decode cX9_countThreads 1 = .ok (.getfield 30, 3) := by decide +kernel
theorem dX9_countThreads_4 : decode cX9_countThreads 4 = .ok (.iconst 0, 1) := by decide +kernel
theorem dX9_countThreads_5 : decode cX9_countThreads 5 = .ok (.invokestatic 47, 3) := by decide +kernel
theorem dX9_countThreads_8 : decode cX9_countThreads 8 = .ok (.iload_n 2, 1) := by decide +kernel
theorem dX9_countThreads_9 : decode cX9_countThreads 9 = .ok (.ifCond .ne 8, 3) := by decide +kernel
theorem dX9_countThreads_12 : decode cX9_countThreads 12 = .ok (.bipush (-8), 2) := by decide +kernel
theorem dX9_countThreads_14 : decode cX9_countThreads 14 = .ok (.goto 7, 3) := by decide +kernel
theorem dX9_countThreads_17 : decode cX9_countThreads 17 = .ok (.aload_n 1, 1) := by decide +kernel
theorem dX9_countThreads_18 : decode cX9_countThreads 18 = .ok (.getfield 79, 3) := by decide +kernel
theorem dX9_countThreads_21 : decode cX9_countThreads 21 = .ok (.istore_n 3, 1) := by decide +kernel
theorem dX9_countThreads_22 : decode cX9_countThreads 22 = .ok (.iload_n 3, 1) := by decide +kernel
theorem dX9_countThreads_23 : decode cX9_countThreads 23 = .ok (.aload_n 1, 1) := by decide +kernel
theorem dX9_countThreads_24 : decode cX9_countThreads 24 = .ok (.getfield 82, 3) := by decide +kernel
theorem dX9_countThreads_27 : decode cX9_countThreads 27 = .ok (.if_icmp .ge 88, 3) := by decide +kernel
theorem dX9_countThreads_30 : decode cX9_countThreads 30 = .ok (.iload_n 3, 1) := by decide +kernel
theorem dX9_countThreads_31 : decode cX9_countThreads 31 = .ok (.ifCond .lt 22, 3) := by decide +kernel
theorem dX9_countThreads_34 : decode cX9_countThreads 34 = .ok (.iload_n 3, 1) := by decide +kernel
theorem dX9_countThreads_35 : decode cX9_countThreads 35 = .ok (.aload_n 1, 1) := by decide +kernel
theorem dX9_countThreads_36 : decode cX9_countThreads 36 = .ok (.getfield 79, 3) := by decide +kernel
theorem dX9_countThreads_39 : decode cX9_countThreads 39 = .ok (.if_icmp .lt 70, 3) := by decide +kernel
theorem dX9_countThreads_42 : decode cX9_countThreads 42 = .ok (.aload_n 0, 1) := by decide +kernel
theorem dX9_countThreads_43 : decode cX9_countThreads 43 = .ok (.iload_n 3, 1) := by decide +kernel
theorem dX9_countThreads_44 : decode cX9_countThreads 44 = .ok (.invokevirtual 89, 3) := by decide +kernel
theorem dX9_countThreads_47 : decode cX9_countThreads 47 = .ok (.ifCond .ne 6, 3) := by decide +kernel
theorem dX9_countThreads_50 : decode cX9_countThreads 50 = .ok (.goto 59, 3) := by decide +kernel
theorem dX9_countThreads_53 : decode cX9_countThreads 53 = .ok (.aload_n 1, 1) := by decide +kernel
theorem dX9_countThreads_54 : decode cX9_countThreads 54 = .ok (.iload_n 3, 1) := by decide +kernel
theorem dX9_countThreads_55 : decode cX9_countThreads 55 = .ok (.invokevirtual 93, 3) := by decide +kernel
theorem dX9_countThreads_58 : decode cX9_countThreads 58 = .ok (.invokestatic 62, 3) := by decide +kernel
theorem dX9_countThreads_61 : decode cX9_countThreads 61 = .ok (.istore 4, 2) := by decide +kernel
theorem dX9_countThreads_63 : decode cX9_countThreads 63 = .ok (.iload 4, 2) := by decide +kernel
theorem dX9_countThreads_65 : decode cX9_countThreads 65 = .ok (.iconst (-1), 1) := by decide +kernel
theorem dX9_countThreads_66 : decode cX9_countThreads 66 = .ok (.if_icmp .eq 43, 3) := by decide +kernel
theorem dX9_countThreads_69 : decode cX9_countThreads 69 = .ok (.iload 4, 2) := by decide +kernel
theorem dX9_countThreads_71 : decode cX9_countThreads 71 = .ok (.iload_n 3, 1) := by decide +kernel
theorem dX9_countThreads_72 : decode cX9_countThreads 72 = .ok (.if_icmp .eq 37, 3) := by decide +kernel
theorem dX9_countThreads_75 : decode cX9_countThreads 75 = .ok (.iload 4, 2) := by decide +kernel
theorem dX9_countThreads_77 : decode cX9_countThreads 77 = .ok (.iload_n 3, 1) := by decide +kernel
theorem dX9_countThreads_78 : decode cX9_countThreads 78 = .ok (.if_icmp .le 7, 3) := by decide +kernel
theorem dX9_countThreads_81 : decode cX9_countThreads 81 = .ok (.iconst 1, 1) := by decide +kernel
theorem dX9_countThreads_82 : decode cX9_countThreads 82 = .ok (.goto 4, 3) := by decide +kernel
theorem dX9_countThreads_85 : decode cX9_countThreads 85 = .ok (.iconst 0, 1) := by decide +kernel
theorem dX9_countThreads_86 : decode cX9_countThreads 86 = .ok (.iload_n 2, 1) := by decide +kernel
theorem dX9_countThreads_87 : decode cX9_countThreads 87 = .ok (.ifCond .ne 7, 3) := by decide +kernel
theorem dX9_countThreads_90 : decode cX9_countThreads 90 = .ok (.iconst 1, 1) := by decide +kernel
theorem dX9_countThreads_91 : decode cX9_countThreads 91 = .ok (.goto 4, 3) := by decide +kernel
theorem dX9_countThreads_94 : decode cX9_countThreads 94 = .ok (.iconst 0, 1) := by decide +kernel
theorem dX9_countThreads_95 : decode cX9_countThreads 95 = .ok (.if_icmp .ne 14, 3) := by decide +kernel
theorem dX9_countThreads_98 : decode cX9_countThreads 98 = .ok (.aload_n 0, 1) := by decide +kernel
theorem dX9_countThreads_99 : decode cX9_countThreads 99 = .ok (.getfield 30, 3) := by decide +kernel
theorem dX9_countThreads_102 : decode cX9_countThreads 102 = .ok (.iload 4, 2) := by decide +kernel
theorem dX9_countThreads_104 : decode cX9_countThreads 104 = .ok (.dup2, 1) := by decide +kernel
theorem dX9_countThreads_105 : decode cX9_countThreads 105 = .ok (.iaload, 1) := by decide +kernel
theorem dX9_countThreads_106 : decode cX9_countThreads 106 = .ok (.iconst 1, 1) := by decide +kernel
theorem dX9_countThreads_107 : decode cX9_countThreads 107 = .ok (.iadd, 1) := by decide +kernel
theorem dX9_countThreads_108 : decode cX9_countThreads 108 = .ok (.iastore, 1) := by decide +kernel
theorem dX9_countThreads_109 : decode cX9_countThreads 109 = .ok (.iinc 3 1, 3) := by decide +kernel
theorem dX9_countThreads_112 : decode cX9_countThreads 112 = .ok (.goto (-90), 3) := by decide +kernel
theorem dX9_countThreads_115 : decode cX9_countThreads 115 = .ok (.return_, 1) := by decide +kernel
theorem dX9_foundAs_0 : decode cX9_foundAs 0 = .ok (.aload_n 0, 1) := by decide +kernel
theorem dX9_foundAs_1 : decode cX9_foundAs 1 = .ok (.getfield 15, 3) := by decide +kernel
theorem dX9_foundAs_4 : decode cX9_foundAs 4 = .ok (.aload_n 0, 1) := by decide +kernel
theorem dX9_foundAs_5 : decode cX9_foundAs 5 = .ok (.getfield 9, 3) := by decide +kernel
theorem dX9_foundAs_8 : decode cX9_foundAs 8 = .ok (.iload_n 1, 1) := by decide +kernel
theorem dX9_foundAs_9 : decode cX9_foundAs 9 = .ok (.iaload, 1) := by decide +kernel
theorem dX9_foundAs_10 : decode cX9_foundAs 10 = .ok (.iaload, 1) := by decide +kernel
theorem dX9_foundAs_11 : decode cX9_foundAs 11 = .ok (.ireturn, 1) := by decide +kernel
theorem dX9_init_0 : decode cX9_init 0 = .ok (.aload_n 0, 1) := by decide +kernel
theorem dX9_init_1 : decode cX9_init 1 = .ok (.invokespecial 3, 3) := by decide +kernel
theorem dX9_init_4 : decode cX9_init 4 = .ok (.aload_n 0, 1) := by decide +kernel
theorem dX9_init_5 : decode cX9_init 5 = .ok (.sipush 160, 3) := by decide +kernel
theorem dX9_init_8 : decode cX9_init 8 = .ok (.newarray .int, 2) := by decide +kernel
theorem dX9_init_10 : decode cX9_init 10 = .ok (.putfield 9, 3) := by decide +kernel
theorem dX9_init_13 : decode cX9_init 13 = .ok (.aload_n 0, 1) := by decide +kernel
theorem dX9_init_14 : decode cX9_init 14 = .ok (.sipush 160, 3) := by decide +kernel
theorem dX9_init_17 : decode cX9_init 17 = .ok (.newarray .int, 2) := by decide +kernel
theorem dX9_init_19 : decode cX9_init 19 = .ok (.putfield 15, 3) := by decide +kernel
theorem dX9_init_22 : decode cX9_init 22 = .ok (.aload_n 0, 1) := by decide +kernel
theorem dX9_init_23 : decode cX9_init 23 = .ok (.bipush 80, 2) := by decide +kernel
theorem dX9_init_25 : decode cX9_init 25 = .ok (.newarray .int, 2) := by decide +kernel
theorem dX9_init_27 : decode cX9_init 27 = .ok (.putfield 18, 3) := by decide +kernel
theorem dX9_init_30 : decode cX9_init 30 = .ok (.aload_n 0, 1) := by decide +kernel
theorem dX9_init_31 : decode cX9_init 31 = .ok (.bipush 80, 2) := by decide +kernel
theorem dX9_init_33 : decode cX9_init 33 = .ok (.newarray .int, 2) := by decide +kernel
theorem dX9_init_35 : decode cX9_init 35 = .ok (.putfield 21, 3) := by decide +kernel
theorem dX9_init_38 : decode cX9_init 38 = .ok (.aload_n 0, 1) := by decide +kernel
theorem dX9_init_39 : decode cX9_init 39 = .ok (.bipush 80, 2) := by decide +kernel
theorem dX9_init_41 : decode cX9_init 41 = .ok (.newarray .int, 2) := by decide +kernel
theorem dX9_init_43 : decode cX9_init 43 = .ok (.putfield 24, 3) := by decide +kernel
theorem dX9_init_46 : decode cX9_init 46 = .ok (.aload_n 0, 1) := by decide +kernel
theorem dX9_init_47 : decode cX9_init 47 = .ok (.bipush 80, 2) := by decide +kernel
theorem dX9_init_49 : decode cX9_init 49 = .ok (.newarray .int, 2) := by decide +kernel
theorem dX9_init_51 : decode cX9_init 51 = .ok (.putfield 27, 3) := by decide +kernel
theorem dX9_init_54 : decode cX9_init 54 = .ok (.aload_n 0, 1) := by decide +kernel
theorem dX9_init_55 : decode cX9_init 55 = .ok (.sipush 160, 3) := by decide +kernel
theorem dX9_init_58 : decode cX9_init 58 = .ok (.newarray .int, 2) := by decide +kernel
theorem dX9_init_60 : decode cX9_init 60 = .ok (.putfield 30, 3) := by decide +kernel
theorem dX9_init_63 : decode cX9_init 63 = .ok (.aload_n 0, 1) := by decide +kernel
theorem dX9_init_64 : decode cX9_init 64 = .ok (.iconst 0, 1) := by decide +kernel
theorem dX9_init_65 : decode cX9_init 65 = .ok (.putfield 33, 3) := by decide +kernel
theorem dX9_init_68 : decode cX9_init 68 = .ok (.aload_n 0, 1) := by decide +kernel
theorem dX9_init_69 : decode cX9_init 69 = .ok (.iconst 0, 1) := by decide +kernel
theorem dX9_init_70 : decode cX9_init 70 = .ok (.putfield 37, 3) := by decide +kernel
theorem dX9_init_73 : decode cX9_init 73 = .ok (.aload_n 0, 1) := by decide +kernel
theorem dX9_init_74 : decode cX9_init 74 = .ok (.iconst (-1), 1) := by decide +kernel
theorem dX9_init_75 : decode cX9_init 75 = .ok (.putfield 40, 3) := by decide +kernel
theorem dX9_init_78 : decode cX9_init 78 = .ok (.aload_n 0, 1) := by decide +kernel
theorem dX9_init_79 : decode cX9_init 79 = .ok (.aload_n 1, 1) := by decide +kernel
theorem dX9_init_80 : decode cX9_init 80 = .ok (.putfield 43, 3) := by decide +kernel
theorem dX9_init_83 : decode cX9_init 83 = .ok (.return_, 1) := by decide +kernel
theorem dX9_isLiveWord_0 : decode cX9_isLiveWord 0 = .ok (.aload_n 0, 1) := by decide +kernel
theorem dX9_isLiveWord_1 : decode cX9_isLiveWord 1 = .ok (.getfield 9, 3) := by decide +kernel
theorem dX9_isLiveWord_4 : decode cX9_isLiveWord 4 = .ok (.iload_n 1, 1) := by decide +kernel
theorem dX9_isLiveWord_5 : decode cX9_isLiveWord 5 = .ok (.iaload, 1) := by decide +kernel
theorem dX9_isLiveWord_6 : decode cX9_isLiveWord 6 = .ok (.iconst (-1), 1) := by decide +kernel
theorem dX9_isLiveWord_7 : decode cX9_isLiveWord 7 = .ok (.if_icmp .eq 22, 3) := by decide +kernel
theorem dX9_isLiveWord_10 : decode cX9_isLiveWord 10 = .ok (.aload_n 0, 1) := by decide +kernel
theorem dX9_isLiveWord_11 : decode cX9_isLiveWord 11 = .ok (.getfield 15, 3) := by decide +kernel
theorem dX9_isLiveWord_14 : decode cX9_isLiveWord 14 = .ok (.aload_n 0, 1) := by decide +kernel
theorem dX9_isLiveWord_15 : decode cX9_isLiveWord 15 = .ok (.getfield 9, 3) := by decide +kernel
theorem dX9_isLiveWord_18 : decode cX9_isLiveWord 18 = .ok (.iload_n 1, 1) := by decide +kernel
theorem dX9_isLiveWord_19 : decode cX9_isLiveWord 19 = .ok (.iaload, 1) := by decide +kernel
theorem dX9_isLiveWord_20 : decode cX9_isLiveWord 20 = .ok (.iaload, 1) := by decide +kernel
theorem dX9_isLiveWord_21 : decode cX9_isLiveWord 21 = .ok (.iconst (-1), 1) := by decide +kernel
theorem dX9_isLiveWord_22 : decode cX9_isLiveWord 22 = .ok (.if_icmp .eq 7, 3) := by decide +kernel
theorem dX9_isLiveWord_25 : decode cX9_isLiveWord 25 = .ok (.iconst 1, 1) := by decide +kernel
theorem dX9_isLiveWord_26 : decode cX9_isLiveWord 26 = .ok (.goto 4, 3) := by decide +kernel
theorem dX9_isLiveWord_29 : decode cX9_isLiveWord 29 = .ok (.iconst 0, 1) := by decide +kernel
theorem dX9_isLiveWord_30 : decode cX9_isLiveWord 30 = .ok (.ireturn, 1) := by decide +kernel
theorem dX9_keptBy_0 : decode cX9_keptBy 0 = .ok (.aload_n 0, 1) := by decide +kernel
theorem dX9_keptBy_1 : decode cX9_keptBy 1 = .ok (.aload_n 1, 1) := by decide +kernel
theorem dX9_keptBy_2 : decode cX9_keptBy 2 = .ok (.iconst (-1), 1) := by decide +kernel
theorem dX9_keptBy_3 : decode cX9_keptBy 3 = .ok (.iconst (-1), 1) := by decide +kernel
theorem dX9_keptBy_4 : decode cX9_keptBy 4 = .ok (.invokevirtual 85, 3) := by decide +kernel
theorem dX9_keptBy_7 : decode cX9_keptBy 7 = .ok (.aload_n 0, 1) := by decide +kernel
theorem dX9_keptBy_8 : decode cX9_keptBy 8 = .ok (.getfield 37, 3) := by decide +kernel
theorem dX9_keptBy_11 : decode cX9_keptBy 11 = .ok (.istore 4, 2) := by decide +kernel
theorem dX9_keptBy_13 : decode cX9_keptBy 13 = .ok (.aload_n 0, 1) := by decide +kernel
theorem dX9_keptBy_14 : decode cX9_keptBy 14 = .ok (.aload_n 1, 1) := by decide +kernel
theorem dX9_keptBy_15 : decode cX9_keptBy 15 = .ok (.iload_n 2, 1) := by decide +kernel
theorem dX9_keptBy_16 : decode cX9_keptBy 16 = .ok (.iload_n 3, 1) := by decide +kernel
theorem dX9_keptBy_17 : decode cX9_keptBy 17 = .ok (.invokevirtual 85, 3) := by decide +kernel
theorem dX9_keptBy_20 : decode cX9_keptBy 20 = .ok (.iload 4, 2) := by decide +kernel
theorem dX9_keptBy_22 : decode cX9_keptBy 22 = .ok (.aload_n 0, 1) := by decide +kernel
theorem dX9_keptBy_23 : decode cX9_keptBy 23 = .ok (.getfield 37, 3) := by decide +kernel
theorem dX9_keptBy_26 : decode cX9_keptBy 26 = .ok (.isub, 1) := by decide +kernel
theorem dX9_keptBy_27 : decode cX9_keptBy 27 = .ok (.ireturn, 1) := by decide +kernel
theorem dX9_layOut_0 : decode cX9_layOut 0 = .ok (.iconst (-1), 1) := by decide +kernel
theorem dX9_layOut_1 : decode cX9_layOut 1 = .ok (.istore_n 2, 1) := by decide +kernel
theorem dX9_layOut_2 : decode cX9_layOut 2 = .ok (.aload_n 1, 1) := by decide +kernel
theorem dX9_layOut_3 : decode cX9_layOut 3 = .ok (.getfield 79, 3) := by decide +kernel
theorem dX9_layOut_6 : decode cX9_layOut 6 = .ok (.istore_n 3, 1) := by decide +kernel
theorem dX9_layOut_7 : decode cX9_layOut 7 = .ok (.iload_n 3, 1) := by decide +kernel
theorem dX9_layOut_8 : decode cX9_layOut 8 = .ok (.aload_n 1, 1) := by decide +kernel
theorem dX9_layOut_9 : decode cX9_layOut 9 = .ok (.getfield 82, 3) := by decide +kernel
theorem dX9_layOut_12 : decode cX9_layOut 12 = .ok (.if_icmp .ge 33, 3) := by decide +kernel
theorem dX9_layOut_15 : decode cX9_layOut 15 = .ok (.aload_n 1, 1) := by decide +kernel
theorem dX9_layOut_16 : decode cX9_layOut 16 = .ok (.getfield 57, 3) := by decide +kernel
theorem dX9_layOut_19 : decode cX9_layOut 19 = .ok (.bipush 8, 2) := by decide +kernel
theorem dX9_layOut_21 : decode cX9_layOut 21 = .ok (.iload_n 3, 1) := by decide +kernel
theorem dX9_layOut_22 : decode cX9_layOut 22 = .ok (.iadd, 1) := by decide +kernel
theorem dX9_layOut_23 : decode cX9_layOut 23 = .ok (.iaload, 1) := by decide +kernel
theorem dX9_layOut_24 : decode cX9_layOut 24 = .ok (.sipush 5096, 3) := by decide +kernel
theorem dX9_layOut_27 : decode cX9_layOut 27 = .ok (.if_icmp .lt 5, 3) := by decide +kernel
theorem dX9_layOut_30 : decode cX9_layOut 30 = .ok (.iload_n 3, 1) := by decide +kernel
theorem dX9_layOut_31 : decode cX9_layOut 31 = .ok (.istore_n 2, 1) := by decide +kernel
theorem dX9_layOut_32 : decode cX9_layOut 32 = .ok (.aload_n 0, 1) := by decide +kernel
theorem dX9_layOut_33 : decode cX9_layOut 33 = .ok (.getfield 9, 3) := by decide +kernel
theorem dX9_layOut_36 : decode cX9_layOut 36 = .ok (.iload_n 3, 1) := by decide +kernel
theorem dX9_layOut_37 : decode cX9_layOut 37 = .ok (.iload_n 2, 1) := by decide +kernel
theorem dX9_layOut_38 : decode cX9_layOut 38 = .ok (.iastore, 1) := by decide +kernel
theorem dX9_layOut_39 : decode cX9_layOut 39 = .ok (.iinc 3 1, 3) := by decide +kernel
theorem dX9_layOut_42 : decode cX9_layOut 42 = .ok (.goto (-35), 3) := by decide +kernel
theorem dX9_layOut_45 : decode cX9_layOut 45 = .ok (.return_, 1) := by decide +kernel
theorem dX9_look_0 : decode cX9_look 0 = .ok (.aload_n 0, 1) := by decide +kernel
theorem dX9_look_1 : decode cX9_look 1 = .ok (.getfield 15, 3) := by decide +kernel
theorem dX9_look_4 : decode cX9_look 4 = .ok (.iconst (-1), 1) := by decide +kernel
theorem dX9_look_5 : decode cX9_look 5 = .ok (.invokestatic 47, 3) := by decide +kernel
theorem dX9_look_8 : decode cX9_look 8 = .ok (.aload_n 0, 1) := by decide +kernel
theorem dX9_look_9 : decode cX9_look 9 = .ok (.getfield 9, 3) := by decide +kernel
theorem dX9_look_12 : decode cX9_look 12 = .ok (.iconst (-1), 1) := by decide +kernel
theorem dX9_look_13 : decode cX9_look 13 = .ok (.invokestatic 47, 3) := by decide +kernel
theorem dX9_look_16 : decode cX9_look 16 = .ok (.aload_n 0, 1) := by decide +kernel
theorem dX9_look_17 : decode cX9_look 17 = .ok (.aload_n 1, 1) := by decide +kernel
theorem dX9_look_18 : decode cX9_look 18 = .ok (.invokevirtual 53, 3) := by decide +kernel
theorem dX9_look_21 : decode cX9_look 21 = .ok (.aload_n 0, 1) := by decide +kernel
theorem dX9_look_22 : decode cX9_look 22 = .ok (.iload_n 3, 1) := by decide +kernel
theorem dX9_look_23 : decode cX9_look 23 = .ok (.putfield 40, 3) := by decide +kernel
theorem dX9_look_26 : decode cX9_look 26 = .ok (.aload_n 0, 1) := by decide +kernel
theorem dX9_look_27 : decode cX9_look 27 = .ok (.iconst 0, 1) := by decide +kernel
theorem dX9_look_28 : decode cX9_look 28 = .ok (.putfield 33, 3) := by decide +kernel
theorem dX9_look_31 : decode cX9_look 31 = .ok (.aload_n 0, 1) := by decide +kernel
theorem dX9_look_32 : decode cX9_look 32 = .ok (.iconst 0, 1) := by decide +kernel
theorem dX9_look_33 : decode cX9_look 33 = .ok (.putfield 37, 3) := by decide +kernel
theorem dX9_look_36 : decode cX9_look 36 = .ok (.iconst 0, 1) := by decide +kernel
theorem dX9_look_37 : decode cX9_look 37 = .ok (.istore 4, 2) := by decide +kernel
theorem dX9_look_39 : decode cX9_look 39 = .ok (.iload 4, 2) := by decide +kernel
theorem dX9_look_41 : decode cX9_look 41 = .ok (.bipush 8, 2) := by decide +kernel
theorem dX9_look_43 : decode cX9_look 43 = .ok (.if_icmp .ge 32, 3) := by decide +kernel
theorem dX9_look_46 : decode cX9_look 46 = .ok (.iload 4, 2) := by decide +kernel
theorem dX9_look_48 : decode cX9_look 48 = .ok (.iload_n 2, 1) := by decide +kernel
theorem dX9_look_49 : decode cX9_look 49 = .ok (.if_icmp .eq 20, 3) := by decide +kernel
theorem dX9_look_52 : decode cX9_look 52 = .ok (.aload_n 0, 1) := by decide +kernel
theorem dX9_look_53 : decode cX9_look 53 = .ok (.aload_n 1, 1) := by decide +kernel
theorem dX9_look_54 : decode cX9_look 54 = .ok (.getfield 57, 3) := by decide +kernel
theorem dX9_look_57 : decode cX9_look 57 = .ok (.iload 4, 2) := by decide +kernel
theorem dX9_look_59 : decode cX9_look 59 = .ok (.iaload, 1) := by decide +kernel
theorem dX9_look_60 : decode cX9_look 60 = .ok (.invokestatic 62, 3) := by decide +kernel
theorem dX9_look_63 : decode cX9_look 63 = .ok (.iconst (-1), 1) := by decide +kernel
theorem dX9_look_64 : decode cX9_look 64 = .ok (.iload 4, 2) := by decide +kernel
theorem dX9_look_66 : decode cX9_look 66 = .ok (.invokevirtual 66, 3) := by decide +kernel
theorem dX9_look_69 : decode cX9_look 69 = .ok (.iinc 4 1, 3) := by decide +kernel
theorem dX9_look_72 : decode cX9_look 72 = .ok (.goto (-33), 3) := by decide +kernel
theorem dX9_look_75 : decode cX9_look 75 = .ok (.iconst 0, 1) := by decide +kernel
theorem dX9_look_76 : decode cX9_look 76 = .ok (.istore 4, 2) := by decide +kernel
theorem dX9_look_78 : decode cX9_look 78 = .ok (.iload 4, 2) := by decide +kernel
theorem dX9_look_80 : decode cX9_look 80 = .ok (.aload_n 0, 1) := by decide +kernel
theorem dX9_look_81 : decode cX9_look 81 = .ok (.getfield 33, 3) := by decide +kernel
theorem dX9_look_84 : decode cX9_look 84 = .ok (.if_icmp .ge 121, 3) := by decide +kernel
theorem dX9_look_87 : decode cX9_look 87 = .ok (.aload_n 1, 1) := by decide +kernel
theorem dX9_look_88 : decode cX9_look 88 = .ok (.getfield 57, 3) := by decide +kernel
theorem dX9_look_91 : decode cX9_look 91 = .ok (.bipush 8, 2) := by decide +kernel
theorem dX9_look_93 : decode cX9_look 93 = .ok (.aload_n 0, 1) := by decide +kernel
theorem dX9_look_94 : decode cX9_look 94 = .ok (.getfield 18, 3) := by decide +kernel
theorem dX9_look_97 : decode cX9_look 97 = .ok (.iload 4, 2) := by decide +kernel
theorem dX9_look_99 : decode cX9_look 99 = .ok (.iaload, 1) := by decide +kernel
theorem dX9_look_100 : decode cX9_look 100 = .ok (.iadd, 1) := by decide +kernel
theorem dX9_look_101 : decode cX9_look 101 = .ok (.iaload, 1) := by decide +kernel
theorem dX9_look_102 : decode cX9_look 102 = .ok (.sipush 5096, 3) := by decide +kernel
theorem dX9_look_105 : decode cX9_look 105 = .ok (.isub, 1) := by decide +kernel
theorem dX9_look_106 : decode cX9_look 106 = .ok (.istore 5, 2) := by decide +kernel
theorem dX9_look_108 : decode cX9_look 108 = .ok (.aload_n 0, 1) := by decide +kernel
theorem dX9_look_109 : decode cX9_look 109 = .ok (.dup, 1) := by decide +kernel
theorem dX9_look_110 : decode cX9_look 110 = .ok (.getfield 37, 3) := by decide +kernel
theorem dX9_look_113 : decode cX9_look 113 = .ok (.aload_n 0, 1) := by decide +kernel
theorem dX9_look_114 : decode cX9_look 114 = .ok (.getfield 43, 3) := by decide +kernel
theorem dX9_look_117 : decode cX9_look 117 = .ok (.getfield 70, 3) := by decide +kernel
theorem dX9_look_120 : decode cX9_look 120 = .ok (.iload 5, 2) := by decide +kernel
theorem dX9_look_122 : decode cX9_look 122 = .ok (.iaload, 1) := by decide +kernel
theorem dX9_look_123 : decode cX9_look 123 = .ok (.iconst 1, 1) := by decide +kernel
theorem dX9_look_124 : decode cX9_look 124 = .ok (.iadd, 1) := by decide +kernel
theorem dX9_look_125 : decode cX9_look 125 = .ok (.iadd, 1) := by decide +kernel
theorem dX9_look_126 : decode cX9_look 126 = .ok (.putfield 37, 3) := by decide +kernel
theorem dX9_look_129 : decode cX9_look 129 = .ok (.iconst 0, 1) := by decide +kernel
theorem dX9_look_130 : decode cX9_look 130 = .ok (.istore 6, 2) := by decide +kernel
theorem dX9_look_132 : decode cX9_look 132 = .ok (.iload 6, 2) := by decide +kernel
theorem dX9_look_134 : decode cX9_look 134 = .ok (.aload_n 0, 1) := by decide +kernel
theorem dX9_look_135 : decode cX9_look 135 = .ok (.getfield 43, 3) := by decide +kernel
theorem dX9_look_138 : decode cX9_look 138 = .ok (.getfield 70, 3) := by decide +kernel
theorem dX9_look_141 : decode cX9_look 141 = .ok (.iload 5, 2) := by decide +kernel
theorem dX9_look_143 : decode cX9_look 143 = .ok (.iaload, 1) := by decide +kernel
theorem dX9_look_144 : decode cX9_look 144 = .ok (.if_icmp .ge 55, 3) := by decide +kernel
theorem dX9_look_147 : decode cX9_look 147 = .ok (.aload_n 0, 1) := by decide +kernel
theorem dX9_look_148 : decode cX9_look 148 = .ok (.getfield 43, 3) := by decide +kernel
theorem dX9_look_151 : decode cX9_look 151 = .ok (.iload 5, 2) := by decide +kernel
theorem dX9_look_153 : decode cX9_look 153 = .ok (.iload 6, 2) := by decide +kernel
theorem dX9_look_155 : decode cX9_look 155 = .ok (.invokevirtual 75, 3) := by decide +kernel
theorem dX9_look_158 : decode cX9_look 158 = .ok (.iconst 1, 1) := by decide +kernel
theorem dX9_look_159 : decode cX9_look 159 = .ok (.if_icmp .ne 34, 3) := by decide +kernel
theorem dX9_look_162 : decode cX9_look 162 = .ok (.aload_n 0, 1) := by decide +kernel
theorem dX9_look_163 : decode cX9_look 163 = .ok (.aload_n 1, 1) := by decide +kernel
theorem dX9_look_164 : decode cX9_look 164 = .ok (.getfield 57, 3) := by decide +kernel
theorem dX9_look_167 : decode cX9_look 167 = .ok (.bipush 8, 2) := by decide +kernel
theorem dX9_look_169 : decode cX9_look 169 = .ok (.aload_n 0, 1) := by decide +kernel
theorem dX9_look_170 : decode cX9_look 170 = .ok (.getfield 18, 3) := by decide +kernel
theorem dX9_look_173 : decode cX9_look 173 = .ok (.iload 4, 2) := by decide +kernel
theorem dX9_look_175 : decode cX9_look 175 = .ok (.iaload, 1) := by decide +kernel
theorem dX9_look_176 : decode cX9_look 176 = .ok (.iadd, 1) := by decide +kernel
theorem dX9_look_177 : decode cX9_look 177 = .ok (.iconst 1, 1) := by decide +kernel
theorem dX9_look_178 : decode cX9_look 178 = .ok (.iadd, 1) := by decide +kernel
theorem dX9_look_179 : decode cX9_look 179 = .ok (.iload 6, 2) := by decide +kernel
theorem dX9_look_181 : decode cX9_look 181 = .ok (.iadd, 1) := by decide +kernel
theorem dX9_look_182 : decode cX9_look 182 = .ok (.iaload, 1) := by decide +kernel
theorem dX9_look_183 : decode cX9_look 183 = .ok (.invokestatic 62, 3) := by decide +kernel
theorem dX9_look_186 : decode cX9_look 186 = .ok (.iload 4, 2) := by decide +kernel
theorem dX9_look_188 : decode cX9_look 188 = .ok (.iload 6, 2) := by decide +kernel
theorem dX9_look_190 : decode cX9_look 190 = .ok (.invokevirtual 66, 3) := by decide +kernel
theorem dX9_look_193 : decode cX9_look 193 = .ok (.iinc 6 1, 3) := by decide +kernel
theorem dX9_look_196 : decode cX9_look 196 = .ok (.goto (-64), 3) := by decide +kernel
theorem dX9_look_199 : decode cX9_look 199 = .ok (.iinc 4 1, 3) := by decide +kernel
theorem dX9_look_202 : decode cX9_look 202 = .ok (.goto (-124), 3) := by decide +kernel
theorem dX9_look_205 : decode cX9_look 205 = .ok (.return_, 1) := by decide +kernel
theorem dX9_reach_0 : decode cX9_reach 0 = .ok (.iload_n 1, 1) := by decide +kernel
theorem dX9_reach_1 : decode cX9_reach 1 = .ok (.iconst (-1), 1) := by decide +kernel
theorem dX9_reach_2 : decode cX9_reach 2 = .ok (.if_icmp .eq 26, 3) := by decide +kernel
theorem dX9_reach_5 : decode cX9_reach 5 = .ok (.aload_n 0, 1) := by decide +kernel
theorem dX9_reach_6 : decode cX9_reach 6 = .ok (.getfield 9, 3) := by decide +kernel
theorem dX9_reach_9 : decode cX9_reach 9 = .ok (.iload_n 1, 1) := by decide +kernel
theorem dX9_reach_10 : decode cX9_reach 10 = .ok (.iaload, 1) := by decide +kernel
theorem dX9_reach_11 : decode cX9_reach 11 = .ok (.iconst (-1), 1) := by decide +kernel
theorem dX9_reach_12 : decode cX9_reach 12 = .ok (.if_icmp .eq 16, 3) := by decide +kernel
theorem dX9_reach_15 : decode cX9_reach 15 = .ok (.aload_n 0, 1) := by decide +kernel
theorem dX9_reach_16 : decode cX9_reach 16 = .ok (.getfield 9, 3) := by decide +kernel
theorem dX9_reach_19 : decode cX9_reach 19 = .ok (.iload_n 1, 1) := by decide +kernel
theorem dX9_reach_20 : decode cX9_reach 20 = .ok (.iaload, 1) := by decide +kernel
theorem dX9_reach_21 : decode cX9_reach 21 = .ok (.aload_n 0, 1) := by decide +kernel
theorem dX9_reach_22 : decode cX9_reach 22 = .ok (.getfield 40, 3) := by decide +kernel
theorem dX9_reach_25 : decode cX9_reach 25 = .ok (.if_icmp .ne 4, 3) := by decide +kernel
theorem dX9_reach_28 : decode cX9_reach 28 = .ok (.return_, 1) := by decide +kernel
theorem dX9_reach_29 : decode cX9_reach 29 = .ok (.aload_n 0, 1) := by decide +kernel
theorem dX9_reach_30 : decode cX9_reach 30 = .ok (.getfield 9, 3) := by decide +kernel
theorem dX9_reach_33 : decode cX9_reach 33 = .ok (.iload_n 1, 1) := by decide +kernel
theorem dX9_reach_34 : decode cX9_reach 34 = .ok (.iaload, 1) := by decide +kernel
theorem dX9_reach_35 : decode cX9_reach 35 = .ok (.istore 4, 2) := by decide +kernel
theorem dX9_reach_37 : decode cX9_reach 37 = .ok (.aload_n 0, 1) := by decide +kernel
theorem dX9_reach_38 : decode cX9_reach 38 = .ok (.getfield 15, 3) := by decide +kernel
theorem dX9_reach_41 : decode cX9_reach 41 = .ok (.iload 4, 2) := by decide +kernel
theorem dX9_reach_43 : decode cX9_reach 43 = .ok (.iaload, 1) := by decide +kernel
theorem dX9_reach_44 : decode cX9_reach 44 = .ok (.iconst (-1), 1) := by decide +kernel
theorem dX9_reach_45 : decode cX9_reach 45 = .ok (.if_icmp .ne 12, 3) := by decide +kernel
theorem dX9_reach_48 : decode cX9_reach 48 = .ok (.aload_n 0, 1) := by decide +kernel
theorem dX9_reach_49 : decode cX9_reach 49 = .ok (.getfield 33, 3) := by decide +kernel
theorem dX9_reach_52 : decode cX9_reach 52 = .ok (.bipush 80, 2) := by decide +kernel
theorem dX9_reach_54 : decode cX9_reach 54 = .ok (.if_icmp .ne 4, 3) := by decide +kernel
theorem dX9_reach_57 : decode cX9_reach 57 = .ok (.return_, 1) := by decide +kernel
theorem dX9_reach_58 : decode cX9_reach 58 = .ok (.aload_n 0, 1) := by decide +kernel
theorem dX9_reach_59 : decode cX9_reach 59 = .ok (.getfield 15, 3) := by decide +kernel
theorem dX9_reach_62 : decode cX9_reach 62 = .ok (.iload 4, 2) := by decide +kernel
theorem dX9_reach_64 : decode cX9_reach 64 = .ok (.aload_n 0, 1) := by decide +kernel
theorem dX9_reach_65 : decode cX9_reach 65 = .ok (.getfield 33, 3) := by decide +kernel
theorem dX9_reach_68 : decode cX9_reach 68 = .ok (.iastore, 1) := by decide +kernel
theorem dX9_reach_69 : decode cX9_reach 69 = .ok (.aload_n 0, 1) := by decide +kernel
theorem dX9_reach_70 : decode cX9_reach 70 = .ok (.getfield 18, 3) := by decide +kernel
theorem dX9_reach_73 : decode cX9_reach 73 = .ok (.aload_n 0, 1) := by decide +kernel
theorem dX9_reach_74 : decode cX9_reach 74 = .ok (.getfield 33, 3) := by decide +kernel
theorem dX9_reach_77 : decode cX9_reach 77 = .ok (.iload 4, 2) := by decide +kernel
theorem dX9_reach_79 : decode cX9_reach 79 = .ok (.iastore, 1) := by decide +kernel
theorem dX9_reach_80 : decode cX9_reach 80 = .ok (.aload_n 0, 1) := by decide +kernel
theorem dX9_reach_81 : decode cX9_reach 81 = .ok (.getfield 24, 3) := by decide +kernel
theorem dX9_reach_84 : decode cX9_reach 84 = .ok (.aload_n 0, 1) := by decide +kernel
theorem dX9_reach_85 : decode cX9_reach 85 = .ok (.getfield 33, 3) := by decide +kernel
theorem dX9_reach_88 : decode cX9_reach 88 = .ok (.iload_n 2, 1) := by decide +kernel
theorem dX9_reach_89 : decode cX9_reach 89 = .ok (.iastore, 1) := by decide +kernel
theorem dX9_reach_90 : decode cX9_reach 90 = .ok (.aload_n 0, 1) := by decide +kernel
theorem dX9_reach_91 : decode cX9_reach 91 = .ok (.getfield 27, 3) := by decide +kernel
theorem dX9_reach_94 : decode cX9_reach 94 = .ok (.aload_n 0, 1) := by decide +kernel
theorem dX9_reach_95 : decode cX9_reach 95 = .ok (.getfield 33, 3) := by decide +kernel
theorem dX9_reach_98 : decode cX9_reach 98 = .ok (.iload_n 3, 1) := by decide +kernel
theorem dX9_reach_99 : decode cX9_reach 99 = .ok (.iastore, 1) := by decide +kernel
theorem dX9_reach_100 : decode cX9_reach 100 = .ok (.aload_n 0, 1) := by decide +kernel
theorem dX9_reach_101 : decode cX9_reach 101 = .ok (.getfield 21, 3) := by decide +kernel
theorem dX9_reach_104 : decode cX9_reach 104 = .ok (.aload_n 0, 1) := by decide +kernel
theorem dX9_reach_105 : decode cX9_reach 105 = .ok (.getfield 33, 3) := by decide +kernel
theorem dX9_reach_108 : decode cX9_reach 108 = .ok (.iload_n 2, 1) := by decide +kernel
theorem dX9_reach_109 : decode cX9_reach 109 = .ok (.iconst (-1), 1) := by decide +kernel
theorem dX9_reach_110 : decode cX9_reach 110 = .ok (.if_icmp .ne 7, 3) := by decide +kernel
theorem dX9_reach_113 : decode cX9_reach 113 = .ok (.iconst 0, 1) := by decide +kernel
theorem dX9_reach_114 : decode cX9_reach 114 = .ok (.goto 11, 3) := by decide +kernel
theorem dX9_reach_117 : decode cX9_reach 117 = .ok (.aload_n 0, 1) := by decide +kernel
theorem dX9_reach_118 : decode cX9_reach 118 = .ok (.getfield 21, 3) := by decide +kernel
theorem dX9_reach_121 : decode cX9_reach 121 = .ok (.iload_n 2, 1) := by decide +kernel
theorem dX9_reach_122 : decode cX9_reach 122 = .ok (.iaload, 1) := by decide +kernel
theorem dX9_reach_123 : decode cX9_reach 123 = .ok (.iconst 1, 1) := by decide +kernel
theorem dX9_reach_124 : decode cX9_reach 124 = .ok (.iadd, 1) := by decide +kernel
theorem dX9_reach_125 : decode cX9_reach 125 = .ok (.iastore, 1) := by decide +kernel
theorem dX9_reach_126 : decode cX9_reach 126 = .ok (.aload_n 0, 1) := by decide +kernel
theorem dX9_reach_127 : decode cX9_reach 127 = .ok (.dup, 1) := by decide +kernel
theorem dX9_reach_128 : decode cX9_reach 128 = .ok (.getfield 33, 3) := by decide +kernel
theorem dX9_reach_131 : decode cX9_reach 131 = .ok (.iconst 1, 1) := by decide +kernel
theorem dX9_reach_132 : decode cX9_reach 132 = .ok (.iadd, 1) := by decide +kernel
theorem dX9_reach_133 : decode cX9_reach 133 = .ok (.putfield 33, 3) := by decide +kernel
theorem dX9_reach_136 : decode cX9_reach 136 = .ok (.return_, 1) := by decide +kernel
theorem dX9_shapeOf_0 : decode cX9_shapeOf 0 = .ok (.iload_n 1, 1) := by decide +kernel
theorem dX9_shapeOf_1 : decode cX9_shapeOf 1 = .ok (.invokestatic 62, 3) := by decide +kernel
theorem dX9_shapeOf_4 : decode cX9_shapeOf 4 = .ok (.istore_n 2, 1) := by decide +kernel
theorem dX9_shapeOf_5 : decode cX9_shapeOf 5 = .ok (.iload_n 2, 1) := by decide +kernel
theorem dX9_shapeOf_6 : decode cX9_shapeOf 6 = .ok (.iconst (-1), 1) := by decide +kernel
theorem dX9_shapeOf_7 : decode cX9_shapeOf 7 = .ok (.if_icmp .ne 5, 3) := by decide +kernel
theorem dX9_shapeOf_10 : decode cX9_shapeOf 10 = .ok (.iload_n 1, 1) := by decide +kernel
theorem dX9_shapeOf_11 : decode cX9_shapeOf 11 = .ok (.ireturn, 1) := by decide +kernel
theorem dX9_shapeOf_12 : decode cX9_shapeOf 12 = .ok (.aload_n 0, 1) := by decide +kernel
theorem dX9_shapeOf_13 : decode cX9_shapeOf 13 = .ok (.iload_n 2, 1) := by decide +kernel
theorem dX9_shapeOf_14 : decode cX9_shapeOf 14 = .ok (.invokevirtual 89, 3) := by decide +kernel
theorem dX9_shapeOf_17 : decode cX9_shapeOf 17 = .ok (.ifCond .ne 7, 3) := by decide +kernel
theorem dX9_shapeOf_20 : decode cX9_shapeOf 20 = .ok (.sipush 3047, 3) := by decide +kernel
theorem dX9_shapeOf_23 : decode cX9_shapeOf 23 = .ok (.ireturn, 1) := by decide +kernel
theorem dX9_shapeOf_24 : decode cX9_shapeOf 24 = .ok (.sipush 3048, 3) := by decide +kernel
theorem dX9_shapeOf_27 : decode cX9_shapeOf 27 = .ok (.aload_n 0, 1) := by decide +kernel
theorem dX9_shapeOf_28 : decode cX9_shapeOf 28 = .ok (.iload_n 2, 1) := by decide +kernel
theorem dX9_shapeOf_29 : decode cX9_shapeOf 29 = .ok (.invokevirtual 102, 3) := by decide +kernel
theorem dX9_shapeOf_32 : decode cX9_shapeOf 32 = .ok (.bipush 7, 2) := by decide +kernel
theorem dX9_shapeOf_34 : decode cX9_shapeOf 34 = .ok (.imul, 1) := by decide +kernel
theorem dX9_shapeOf_35 : decode cX9_shapeOf 35 = .ok (.iadd, 1) := by decide +kernel
theorem dX9_shapeOf_36 : decode cX9_shapeOf 36 = .ok (.iload_n 2, 1) := by decide +kernel
theorem dX9_shapeOf_37 : decode cX9_shapeOf 37 = .ok (.iadd, 1) := by decide +kernel
theorem dX9_shapeOf_38 : decode cX9_shapeOf 38 = .ok (.aload_n 0, 1) := by decide +kernel
theorem dX9_shapeOf_39 : decode cX9_shapeOf 39 = .ok (.getfield 9, 3) := by decide +kernel
theorem dX9_shapeOf_42 : decode cX9_shapeOf 42 = .ok (.iload_n 2, 1) := by decide +kernel
theorem dX9_shapeOf_43 : decode cX9_shapeOf 43 = .ok (.iaload, 1) := by decide +kernel
theorem dX9_shapeOf_44 : decode cX9_shapeOf 44 = .ok (.isub, 1) := by decide +kernel
theorem dX9_shapeOf_45 : decode cX9_shapeOf 45 = .ok (.ireturn, 1) := by decide +kernel
theorem dX9_wayTo_0 : decode cX9_wayTo 0 = .ok (.iload_n 1, 1) := by decide +kernel
theorem dX9_wayTo_1 : decode cX9_wayTo 1 = .ok (.istore_n 3, 1) := by decide +kernel
theorem dX9_wayTo_2 : decode cX9_wayTo 2 = .ok (.iload_n 2, 1) := by decide +kernel
theorem dX9_wayTo_3 : decode cX9_wayTo 3 = .ok (.aload_n 0, 1) := by decide +kernel
theorem dX9_wayTo_4 : decode cX9_wayTo 4 = .ok (.getfield 21, 3) := by decide +kernel
theorem dX9_wayTo_7 : decode cX9_wayTo 7 = .ok (.iload_n 3, 1) := by decide +kernel
theorem dX9_wayTo_8 : decode cX9_wayTo 8 = .ok (.iaload, 1) := by decide +kernel
theorem dX9_wayTo_9 : decode cX9_wayTo 9 = .ok (.if_icmp .le 5, 3) := by decide +kernel
theorem dX9_wayTo_12 : decode cX9_wayTo 12 = .ok (.iconst (-1), 1) := by decide +kernel
theorem dX9_wayTo_13 : decode cX9_wayTo 13 = .ok (.ireturn, 1) := by decide +kernel
theorem dX9_wayTo_14 : decode cX9_wayTo 14 = .ok (.aload_n 0, 1) := by decide +kernel
theorem dX9_wayTo_15 : decode cX9_wayTo 15 = .ok (.getfield 21, 3) := by decide +kernel
theorem dX9_wayTo_18 : decode cX9_wayTo 18 = .ok (.iload_n 3, 1) := by decide +kernel
theorem dX9_wayTo_19 : decode cX9_wayTo 19 = .ok (.iaload, 1) := by decide +kernel
theorem dX9_wayTo_20 : decode cX9_wayTo 20 = .ok (.istore 4, 2) := by decide +kernel
theorem dX9_wayTo_22 : decode cX9_wayTo 22 = .ok (.iload 4, 2) := by decide +kernel
theorem dX9_wayTo_24 : decode cX9_wayTo 24 = .ok (.iload_n 2, 1) := by decide +kernel
theorem dX9_wayTo_25 : decode cX9_wayTo 25 = .ok (.if_icmp .le 16, 3) := by decide +kernel
theorem dX9_wayTo_28 : decode cX9_wayTo 28 = .ok (.aload_n 0, 1) := by decide +kernel
theorem dX9_wayTo_29 : decode cX9_wayTo 29 = .ok (.getfield 24, 3) := by decide +kernel
theorem dX9_wayTo_32 : decode cX9_wayTo 32 = .ok (.iload_n 3, 1) := by decide +kernel
theorem dX9_wayTo_33 : decode cX9_wayTo 33 = .ok (.iaload, 1) := by decide +kernel
theorem dX9_wayTo_34 : decode cX9_wayTo 34 = .ok (.istore_n 3, 1) := by decide +kernel
theorem dX9_wayTo_35 : decode cX9_wayTo 35 = .ok (.iinc 4 (-1), 3) := by decide +kernel
theorem dX9_wayTo_38 : decode cX9_wayTo 38 = .ok (.goto (-16), 3) := by decide +kernel
theorem dX9_wayTo_41 : decode cX9_wayTo 41 = .ok (.aload_n 0, 1) := by decide +kernel
theorem dX9_wayTo_42 : decode cX9_wayTo 42 = .ok (.getfield 27, 3) := by decide +kernel
theorem dX9_wayTo_45 : decode cX9_wayTo 45 = .ok (.iload_n 3, 1) := by decide +kernel
theorem dX9_wayTo_46 : decode cX9_wayTo 46 = .ok (.iaload, 1) := by decide +kernel
theorem dX9_wayTo_47 : decode cX9_wayTo 47 = .ok (.ireturn, 1) := by decide +kernel
theorem dX9_writeShape_0 : decode cX9_writeShape 0 = .ok (.iconst 0, 1) := by decide +kernel
theorem dX9_writeShape_1 : decode cX9_writeShape 1 = .ok (.istore_n 3, 1) := by decide +kernel
theorem dX9_writeShape_2 : decode cX9_writeShape 2 = .ok (.iconst 0, 1) := by decide +kernel
theorem dX9_writeShape_3 : decode cX9_writeShape 3 = .ok (.istore 4, 2) := by decide +kernel
theorem dX9_writeShape_5 : decode cX9_writeShape 5 = .ok (.iload 4, 2) := by decide +kernel
theorem dX9_writeShape_7 : decode cX9_writeShape 7 = .ok (.bipush 8, 2) := by decide +kernel
theorem dX9_writeShape_9 : decode cX9_writeShape 9 = .ok (.if_icmp .ge 26, 3) := by decide +kernel
theorem dX9_writeShape_12 : decode cX9_writeShape 12 = .ok (.aload_n 2, 1) := by decide +kernel
theorem dX9_writeShape_13 : decode cX9_writeShape 13 = .ok (.iload_n 3, 1) := by decide +kernel
theorem dX9_writeShape_14 : decode cX9_writeShape 14 = .ok (.aload_n 0, 1) := by decide +kernel
theorem dX9_writeShape_15 : decode cX9_writeShape 15 = .ok (.aload_n 1, 1) := by decide +kernel
