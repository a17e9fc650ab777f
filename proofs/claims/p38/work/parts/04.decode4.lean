theorem dX12_shapesAll_85 : decode cX12_shapesAll 85 = .ok (.goto (-30), 3) := by decide +kernel
theorem dX12_shapesAll_88 : decode cX12_shapesAll 88 = .ok (.iinc 1 1, 3) := by decide +kernel
theorem dX12_shapesAll_91 : decode cX12_shapesAll 91 = .ok (.goto (-62), 3) := by decide +kernel
theorem dX12_shapesAll_94 : decode cX12_shapesAll 94 = .ok (.return_, 1) := by decide +kernel
theorem dX12_shapesOf_0 : decode cX12_shapesOf 0 = .ok (.aload_n 0, 1) := by decide +kernel
theorem dX12_shapesOf_1 : decode cX12_shapesOf 1 = .ok (.iload_n 1, 1) := by decide +kernel
theorem dX12_shapesOf_2 : decode cX12_shapesOf 2 = .ok (.invokevirtual 359, 3) := by decide +kernel
theorem dX12_shapesOf_5 : decode cX12_shapesOf 5 = .ok (.istore_n 2, 1) := by decide +kernel
theorem dX12_shapesOf_6 : decode cX12_shapesOf 6 = .ok (.iload_n 2, 1) := by decide +kernel
theorem dX12_shapesOf_7 : decode cX12_shapesOf 7 = .ok (.iconst (-1), 1) := by decide +kernel
theorem dX12_shapesOf_8 : decode cX12_shapesOf 8 = .ok (.if_icmp .eq 17, 3) := by decide +kernel
theorem dX12_shapesOf_11 : decode cX12_shapesOf 11 = .ok (.aload_n 0, 1) := by decide +kernel
theorem dX12_shapesOf_12 : decode cX12_shapesOf 12 = .ok (.getfield 118, 3) := by decide +kernel
theorem dX12_shapesOf_15 : decode cX12_shapesOf 15 = .ok (.iload_n 2, 1) := by decide +kernel
theorem dX12_shapesOf_16 : decode cX12_shapesOf 16 = .ok (.iaload, 1) := by decide +kernel
theorem dX12_shapesOf_17 : decode cX12_shapesOf 17 = .ok (.iconst (-1), 1) := by decide +kernel
theorem dX12_shapesOf_18 : decode cX12_shapesOf 18 = .ok (.if_icmp .eq 7, 3) := by decide +kernel
theorem dX12_shapesOf_21 : decode cX12_shapesOf 21 = .ok (.iconst 1, 1) := by decide +kernel
theorem dX12_shapesOf_22 : decode cX12_shapesOf 22 = .ok (.goto 4, 3) := by decide +kernel
theorem dX12_shapesOf_25 : decode cX12_shapesOf 25 = .ok (.iconst 0, 1) := by decide +kernel
theorem dX12_shapesOf_26 : decode cX12_shapesOf 26 = .ok (.istore_n 3, 1) := by decide +kernel
theorem dX12_shapesOf_27 : decode cX12_shapesOf 27 = .ok (.aload_n 0, 1) := by decide +kernel
theorem dX12_shapesOf_28 : decode cX12_shapesOf 28 = .ok (.aload_n 0, 1) := by decide +kernel
theorem dX12_shapesOf_29 : decode cX12_shapesOf 29 = .ok (.getfield 78, 3) := by decide +kernel
theorem dX12_shapesOf_32 : decode cX12_shapesOf 32 = .ok (.iload_n 1, 1) := by decide +kernel
theorem dX12_shapesOf_33 : decode cX12_shapesOf 33 = .ok (.invokestatic 240, 3) := by decide +kernel
theorem dX12_shapesOf_36 : decode cX12_shapesOf 36 = .ok (.ifCond .ne 7, 3) := by decide +kernel
theorem dX12_shapesOf_39 : decode cX12_shapesOf 39 = .ok (.iconst 0, 1) := by decide +kernel
theorem dX12_shapesOf_40 : decode cX12_shapesOf 40 = .ok (.goto 12, 3) := by decide +kernel
theorem dX12_shapesOf_43 : decode cX12_shapesOf 43 = .ok (.iload_n 3, 1) := by decide +kernel
theorem dX12_shapesOf_44 : decode cX12_shapesOf 44 = .ok (.ifCond .eq 7, 3) := by decide +kernel
theorem dX12_shapesOf_47 : decode cX12_shapesOf 47 = .ok (.iconst 2, 1) := by decide +kernel
theorem dX12_shapesOf_48 : decode cX12_shapesOf 48 = .ok (.goto 4, 3) := by decide +kernel
theorem dX12_shapesOf_51 : decode cX12_shapesOf 51 = .ok (.iconst 1, 1) := by decide +kernel
theorem dX12_shapesOf_52 : decode cX12_shapesOf 52 = .ok (.invokevirtual 496, 3) := by decide +kernel
theorem dX12_shapesOf_55 : decode cX12_shapesOf 55 = .ok (.aload_n 0, 1) := by decide +kernel
theorem dX12_shapesOf_56 : decode cX12_shapesOf 56 = .ok (.aload_n 0, 1) := by decide +kernel
theorem dX12_shapesOf_57 : decode cX12_shapesOf 57 = .ok (.getfield 78, 3) := by decide +kernel
theorem dX12_shapesOf_60 : decode cX12_shapesOf 60 = .ok (.iload_n 1, 1) := by decide +kernel
theorem dX12_shapesOf_61 : decode cX12_shapesOf 61 = .ok (.invokestatic 240, 3) := by decide +kernel
theorem dX12_shapesOf_64 : decode cX12_shapesOf 64 = .ok (.ifCond .ne 14, 3) := by decide +kernel
theorem dX12_shapesOf_67 : decode cX12_shapesOf 67 = .ok (.aload_n 0, 1) := by decide +kernel
theorem dX12_shapesOf_68 : decode cX12_shapesOf 68 = .ok (.getfield 78, 3) := by decide +kernel
theorem dX12_shapesOf_71 : decode cX12_shapesOf 71 = .ok (.iload_n 1, 1) := by decide +kernel
theorem dX12_shapesOf_72 : decode cX12_shapesOf 72 = .ok (.invokestatic 244, 3) := by decide +kernel
theorem dX12_shapesOf_75 : decode cX12_shapesOf 75 = .ok (.goto 17, 3) := by decide +kernel
theorem dX12_shapesOf_78 : decode cX12_shapesOf 78 = .ok (.iload_n 3, 1) := by decide +kernel
theorem dX12_shapesOf_79 : decode cX12_shapesOf 79 = .ok (.ifCond .eq 12, 3) := by decide +kernel
theorem dX12_shapesOf_82 : decode cX12_shapesOf 82 = .ok (.aload_n 0, 1) := by decide +kernel
theorem dX12_shapesOf_83 : decode cX12_shapesOf 83 = .ok (.getfield 118, 3) := by decide +kernel
theorem dX12_shapesOf_86 : decode cX12_shapesOf 86 = .ok (.iload_n 2, 1) := by decide +kernel
theorem dX12_shapesOf_87 : decode cX12_shapesOf 87 = .ok (.iaload, 1) := by decide +kernel
theorem dX12_shapesOf_88 : decode cX12_shapesOf 88 = .ok (.goto 4, 3) := by decide +kernel
theorem dX12_shapesOf_91 : decode cX12_shapesOf 91 = .ok (.iconst (-1), 1) := by decide +kernel
theorem dX12_shapesOf_92 : decode cX12_shapesOf 92 = .ok (.invokevirtual 496, 3) := by decide +kernel
theorem dX12_shapesOf_95 : decode cX12_shapesOf 95 = .ok (.aload_n 0, 1) := by decide +kernel
theorem dX12_shapesOf_96 : decode cX12_shapesOf 96 = .ok (.iload_n 3, 1) := by decide +kernel
theorem dX12_shapesOf_97 : decode cX12_shapesOf 97 = .ok (.ifCond .eq 21, 3) := by decide +kernel
theorem dX12_shapesOf_100 : decode cX12_shapesOf 100 = .ok (.aload_n 0, 1) := by decide +kernel
theorem dX12_shapesOf_101 : decode cX12_shapesOf 101 = .ok (.getfield 78, 3) := by decide +kernel
theorem dX12_shapesOf_104 : decode cX12_shapesOf 104 = .ok (.iload_n 1, 1) := by decide +kernel
theorem dX12_shapesOf_105 : decode cX12_shapesOf 105 = .ok (.invokestatic 244, 3) := by decide +kernel
theorem dX12_shapesOf_108 : decode cX12_shapesOf 108 = .ok (.aload_n 0, 1) := by decide +kernel
theorem dX12_shapesOf_109 : decode cX12_shapesOf 109 = .ok (.getfield 87, 3) := by decide +kernel
theorem dX12_shapesOf_112 : decode cX12_shapesOf 112 = .ok (.iload_n 2, 1) := by decide +kernel
theorem dX12_shapesOf_113 : decode cX12_shapesOf 113 = .ok (.iaload, 1) := by decide +kernel
theorem dX12_shapesOf_114 : decode cX12_shapesOf 114 = .ok (.isub, 1) := by decide +kernel
theorem dX12_shapesOf_115 : decode cX12_shapesOf 115 = .ok (.goto 4, 3) := by decide +kernel
theorem dX12_shapesOf_118 : decode cX12_shapesOf 118 = .ok (.iconst 0, 1) := by decide +kernel
theorem dX12_shapesOf_119 : decode cX12_shapesOf 119 = .ok (.invokevirtual 496, 3) := by decide +kernel
theorem dX12_shapesOf_122 : decode cX12_shapesOf 122 = .ok (.return_, 1) := by decide +kernel
theorem dX12_skips_0 : decode cX12_skips 0 = .ok (.iconst 1, 1) := by decide +kernel
theorem dX12_skips_1 : decode cX12_skips 1 = .ok (.istore_n 1, 1) := by decide +kernel
theorem dX12_skips_2 : decode cX12_skips 2 = .ok (.iload_n 1, 1) := by decide +kernel
theorem dX12_skips_3 : decode cX12_skips 3 = .ok (.ifCond .le 50, 3) := by decide +kernel
theorem dX12_skips_6 : decode cX12_skips 6 = .ok (.aload_n 0, 1) := by decide +kernel
theorem dX12_skips_7 : decode cX12_skips 7 = .ok (.getfield 7, 3) := by decide +kernel
theorem dX12_skips_10 : decode cX12_skips 10 = .ok (.aload_n 0, 1) := by decide +kernel
theorem dX12_skips_11 : decode cX12_skips 11 = .ok (.getfield 188, 3) := by decide +kernel
theorem dX12_skips_14 : decode cX12_skips 14 = .ok (.iaload, 1) := by decide +kernel
theorem dX12_skips_15 : decode cX12_skips 15 = .ok (.bipush 91, 2) := by decide +kernel
theorem dX12_skips_17 : decode cX12_skips 17 = .ok (.if_icmp .ne 6, 3) := by decide +kernel
theorem dX12_skips_20 : decode cX12_skips 20 = .ok (.iinc 1 1, 3) := by decide +kernel
theorem dX12_skips_23 : decode cX12_skips 23 = .ok (.aload_n 0, 1) := by decide +kernel
theorem dX12_skips_24 : decode cX12_skips 24 = .ok (.getfield 7, 3) := by decide +kernel
theorem dX12_skips_27 : decode cX12_skips 27 = .ok (.aload_n 0, 1) := by decide +kernel
theorem dX12_skips_28 : decode cX12_skips 28 = .ok (.getfield 188, 3) := by decide +kernel
theorem dX12_skips_31 : decode cX12_skips 31 = .ok (.iaload, 1) := by decide +kernel
theorem dX12_skips_32 : decode cX12_skips 32 = .ok (.bipush 93, 2) := by decide +kernel
theorem dX12_skips_34 : decode cX12_skips 34 = .ok (.if_icmp .ne 6, 3) := by decide +kernel
theorem dX12_skips_37 : decode cX12_skips 37 = .ok (.iinc 1 (-1), 3) := by decide +kernel
theorem dX12_skips_40 : decode cX12_skips 40 = .ok (.aload_n 0, 1) := by decide +kernel
theorem dX12_skips_41 : decode cX12_skips 41 = .ok (.dup, 1) := by decide +kernel
theorem dX12_skips_42 : decode cX12_skips 42 = .ok (.getfield 188, 3) := by decide +kernel
theorem dX12_skips_45 : decode cX12_skips 45 = .ok (.iconst 1, 1) := by decide +kernel
theorem dX12_skips_46 : decode cX12_skips 46 = .ok (.iadd, 1) := by decide +kernel
theorem dX12_skips_47 : decode cX12_skips 47 = .ok (.putfield 188, 3) := by decide +kernel
theorem dX12_skips_50 : decode cX12_skips 50 = .ok (.goto (-48), 3) := by decide +kernel
theorem dX12_skips_53 : decode cX12_skips 53 = .ok (.return_, 1) := by decide +kernel
theorem dX12_sortAt_0 : decode cX12_sortAt 0 = .ok (.aload_n 0, 1) := by decide +kernel
theorem dX12_sortAt_1 : decode cX12_sortAt 1 = .ok (.iload_n 1, 1) := by decide +kernel
theorem dX12_sortAt_2 : decode cX12_sortAt 2 = .ok (.invokestatic 237, 3) := by decide +kernel
theorem dX12_sortAt_5 : decode cX12_sortAt 5 = .ok (.iaload, 1) := by decide +kernel
theorem dX12_sortAt_6 : decode cX12_sortAt 6 = .ok (.ireturn, 1) := by decide +kernel
theorem dX12_sortOf_0 : decode cX12_sortOf 0 = .ok (.aload_n 0, 1) := by decide +kernel
theorem dX12_sortOf_1 : decode cX12_sortOf 1 = .ok (.getfield 66, 3) := by decide +kernel
theorem dX12_sortOf_4 : decode cX12_sortOf 4 = .ok (.bipush 6, 2) := by decide +kernel
theorem dX12_sortOf_6 : decode cX12_sortOf 6 = .ok (.bipush 6, 2) := by decide +kernel
theorem dX12_sortOf_8 : decode cX12_sortOf 8 = .ok (.iload_n 1, 1) := by decide +kernel
theorem dX12_sortOf_9 : decode cX12_sortOf 9 = .ok (.iadd, 1) := by decide +kernel
theorem dX12_sortOf_10 : decode cX12_sortOf 10 = .ok (.imul, 1) := by decide +kernel
theorem dX12_sortOf_11 : decode cX12_sortOf 11 = .ok (.iload_n 2, 1) := by decide +kernel
theorem dX12_sortOf_12 : decode cX12_sortOf 12 = .ok (.iadd, 1) := by decide +kernel
theorem dX12_sortOf_13 : decode cX12_sortOf 13 = .ok (.iaload, 1) := by decide +kernel
theorem dX12_sortOf_14 : decode cX12_sortOf 14 = .ok (.ireturn, 1) := by decide +kernel
theorem dX12_stage_0 : decode cX12_stage 0 = .ok (.aload_n 0, 1) := by decide +kernel
theorem dX12_stage_1 : decode cX12_stage 1 = .ok (.getfield 78, 3) := by decide +kernel
theorem dX12_stage_4 : decode cX12_stage 4 = .ok (.iconst 3, 1) := by decide +kernel
theorem dX12_stage_5 : decode cX12_stage 5 = .ok (.iaload, 1) := by decide +kernel
theorem dX12_stage_6 : decode cX12_stage 6 = .ok (.ifCond .eq 15, 3) := by decide +kernel
theorem dX12_stage_9 : decode cX12_stage 9 = .ok (.iload_n 1, 1) := by decide +kernel
theorem dX12_stage_10 : decode cX12_stage 10 = .ok (.i2l, 1) := by decide +kernel
theorem dX12_stage_11 : decode cX12_stage 11 = .ok (.lconst 0, 1) := by decide +kernel
theorem dX12_stage_12 : decode cX12_stage 12 = .ok (.ldc2_w 450, 3) := by decide +kernel
theorem dX12_stage_15 : decode cX12_stage 15 = .ok (.invokestatic 178, 3) := by decide +kernel
theorem dX12_stage_18 : decode cX12_stage 18 = .ok (.ifCond .ne 7, 3) := by decide +kernel
theorem dX12_stage_21 : decode cX12_stage 21 = .ok (.ldc_w 414, 3) := by decide +kernel
theorem dX12_stage_24 : decode cX12_stage 24 = .ok (.ireturn, 1) := by decide +kernel
theorem dX12_stage_25 : decode cX12_stage 25 = .ok (.aload_n 0, 1) := by decide +kernel
theorem dX12_stage_26 : decode cX12_stage 26 = .ok (.invokevirtual 436, 3) := by decide +kernel
theorem dX12_stage_29 : decode cX12_stage 29 = .ok (.aload_n 0, 1) := by decide +kernel
theorem dX12_stage_30 : decode cX12_stage 30 = .ok (.getfield 78, 3) := by decide +kernel
theorem dX12_stage_33 : decode cX12_stage 33 = .ok (.iconst 4, 1) := by decide +kernel
theorem dX12_stage_34 : decode cX12_stage 34 = .ok (.iaload, 1) := by decide +kernel
theorem dX12_stage_35 : decode cX12_stage 35 = .ok (.iconst 1, 1) := by decide +kernel
theorem dX12_stage_36 : decode cX12_stage 36 = .ok (.iadd, 1) := by decide +kernel
theorem dX12_stage_37 : decode cX12_stage 37 = .ok (.istore_n 2, 1) := by decide +kernel
theorem dX12_stage_38 : decode cX12_stage 38 = .ok (.iload_n 1, 1) := by decide +kernel
theorem dX12_stage_39 : decode cX12_stage 39 = .ok (.tableswitch 66 0 2 #[25, 31, 59], 25) := by decide +kernel
theorem dX12_stage_64 : decode cX12_stage 64 = .ok (.aload_n 0, 1) := by decide +kernel
theorem dX12_stage_65 : decode cX12_stage 65 = .ok (.iload_n 2, 1) := by decide +kernel
theorem dX12_stage_66 : decode cX12_stage 66 = .ok (.invokevirtual 411, 3) := by decide +kernel
theorem dX12_stage_69 : decode cX12_stage 69 = .ok (.ireturn, 1) := by decide +kernel
theorem dX12_stage_70 : decode cX12_stage 70 = .ok (.aload_n 0, 1) := by decide +kernel
theorem dX12_stage_71 : decode cX12_stage 71 = .ok (.iload_n 2, 1) := by decide +kernel
theorem dX12_stage_72 : decode cX12_stage 72 = .ok (.invokevirtual 411, 3) := by decide +kernel
theorem dX12_stage_75 : decode cX12_stage 75 = .ok (.iconst 5, 1) := by decide +kernel
theorem dX12_stage_76 : decode cX12_stage 76 = .ok (.if_icmp .ne 16, 3) := by decide +kernel
theorem dX12_stage_79 : decode cX12_stage 79 = .ok (.aload_n 0, 1) := by decide +kernel
theorem dX12_stage_80 : decode cX12_stage 80 = .ok (.getfield 103, 3) := by decide +kernel
theorem dX12_stage_83 : decode cX12_stage 83 = .ok (.aload_n 0, 1) := by decide +kernel
theorem dX12_stage_84 : decode cX12_stage 84 = .ok (.iload_n 2, 1) := by decide +kernel
theorem dX12_stage_85 : decode cX12_stage 85 = .ok (.invokevirtual 418, 3) := by decide +kernel
theorem dX12_stage_88 : decode cX12_stage 88 = .ok (.iaload, 1) := by decide +kernel
theorem dX12_stage_89 : decode cX12_stage 89 = .ok (.goto 8, 3) := by decide +kernel
theorem dX12_stage_92 : decode cX12_stage 92 = .ok (.aload_n 0, 1) := by decide +kernel
theorem dX12_stage_93 : decode cX12_stage 93 = .ok (.iload_n 2, 1) := by decide +kernel
theorem dX12_stage_94 : decode cX12_stage 94 = .ok (.invokevirtual 418, 3) := by decide +kernel
theorem dX12_stage_97 : decode cX12_stage 97 = .ok (.ireturn, 1) := by decide +kernel
theorem dX12_stage_98 : decode cX12_stage 98 = .ok (.aload_n 0, 1) := by decide +kernel
theorem dX12_stage_99 : decode cX12_stage 99 = .ok (.getfield 78, 3) := by decide +kernel
theorem dX12_stage_102 : decode cX12_stage 102 = .ok (.iconst 4, 1) := by decide +kernel
theorem dX12_stage_103 : decode cX12_stage 103 = .ok (.iaload, 1) := by decide +kernel
theorem dX12_stage_104 : decode cX12_stage 104 = .ok (.ireturn, 1) := by decide +kernel
theorem dX12_stage_105 : decode cX12_stage 105 = .ok (.aload_n 0, 1) := by decide +kernel
theorem dX12_stage_106 : decode cX12_stage 106 = .ok (.aload_n 0, 1) := by decide +kernel
theorem dX12_stage_107 : decode cX12_stage 107 = .ok (.getfield 78, 3) := by decide +kernel
theorem dX12_stage_110 : decode cX12_stage 110 = .ok (.iconst 0, 1) := by decide +kernel
theorem dX12_stage_111 : decode cX12_stage 111 = .ok (.iaload, 1) := by decide +kernel
theorem dX12_stage_112 : decode cX12_stage 112 = .ok (.invokevirtual 408, 3) := by decide +kernel
theorem dX12_stage_115 : decode cX12_stage 115 = .ok (.aload_n 0, 1) := by decide +kernel
theorem dX12_stage_116 : decode cX12_stage 116 = .ok (.getfield 78, 3) := by decide +kernel
theorem dX12_stage_119 : decode cX12_stage 119 = .ok (.iconst 4, 1) := by decide +kernel
theorem dX12_stage_120 : decode cX12_stage 120 = .ok (.iaload, 1) := by decide +kernel
theorem dX12_stage_121 : decode cX12_stage 121 = .ok (.isub, 1) := by decide +kernel
theorem dX12_stage_122 : decode cX12_stage 122 = .ok (.ireturn, 1) := by decide +kernel
theorem dX12_standingKind_0 : decode cX12_standingKind 0 = .ok (.aload_n 0, 1) := by decide +kernel
theorem dX12_standingKind_1 : decode cX12_standingKind 1 = .ok (.invokevirtual 257, 3) := by decide +kernel
theorem dX12_standingKind_4 : decode cX12_standingKind 4 = .ok (.istore_n 1, 1) := by decide +kernel
theorem dX12_standingKind_5 : decode cX12_standingKind 5 = .ok (.iconst 0, 1) := by decide +kernel
theorem dX12_standingKind_6 : decode cX12_standingKind 6 = .ok (.istore_n 2, 1) := by decide +kernel
theorem dX12_standingKind_7 : decode cX12_standingKind 7 = .ok (.iload_n 2, 1) := by decide +kernel
theorem dX12_standingKind_8 : decode cX12_standingKind 8 = .ok (.aload_n 0, 1) := by decide +kernel
theorem dX12_standingKind_9 : decode cX12_standingKind 9 = .ok (.getfield 328, 3) := by decide +kernel
theorem dX12_standingKind_12 : decode cX12_standingKind 12 = .ok (.if_icmp .ge 31, 3) := by decide +kernel
theorem dX12_standingKind_15 : decode cX12_standingKind 15 = .ok (.aload_n 0, 1) := by decide +kernel
theorem dX12_standingKind_16 : decode cX12_standingKind 16 = .ok (.getfield 69, 3) := by decide +kernel
theorem dX12_standingKind_19 : decode cX12_standingKind 19 = .ok (.bipush 6, 2) := by decide +kernel
theorem dX12_standingKind_21 : decode cX12_standingKind 21 = .ok (.iload_n 2, 1) := by decide +kernel
theorem dX12_standingKind_22 : decode cX12_standingKind 22 = .ok (.iadd, 1) := by decide +kernel
theorem dX12_standingKind_23 : decode cX12_standingKind 23 = .ok (.iaload, 1) := by decide +kernel
theorem dX12_standingKind_24 : decode cX12_standingKind 24 = .ok (.iload_n 1, 1) := by decide +kernel
theorem dX12_standingKind_25 : decode cX12_standingKind 25 = .ok (.if_icmp .ne 12, 3) := by decide +kernel
theorem dX12_standingKind_28 : decode cX12_standingKind 28 = .ok (.aload_n 0, 1) := by decide +kernel
theorem dX12_standingKind_29 : decode cX12_standingKind 29 = .ok (.getfield 194, 3) := by decide +kernel
theorem dX12_standingKind_32 : decode cX12_standingKind 32 = .ok (.ifCond .ne 5, 3) := by decide +kernel
theorem dX12_standingKind_35 : decode cX12_standingKind 35 = .ok (.iload_n 2, 1) := by decide +kernel
theorem dX12_standingKind_36 : decode cX12_standingKind 36 = .ok (.ireturn, 1) := by decide +kernel
theorem dX12_standingKind_37 : decode cX12_standingKind 37 = .ok (.iinc 2 1, 3) := by decide +kernel
theorem dX12_standingKind_40 : decode cX12_standingKind 40 = .ok (.goto (-33), 3) := by decide +kernel
theorem dX12_standingKind_43 : decode cX12_standingKind 43 = .ok (.aload_n 0, 1) := by decide +kernel
theorem dX12_standingKind_44 : decode cX12_standingKind 44 = .ok (.getfield 194, 3) := by decide +kernel
theorem dX12_standingKind_47 : decode cX12_standingKind 47 = .ok (.ifCond .ne 12, 3) := by decide +kernel
theorem dX12_standingKind_50 : decode cX12_standingKind 50 = .ok (.aload_n 0, 1) := by decide +kernel
theorem dX12_standingKind_51 : decode cX12_standingKind 51 = .ok (.iconst 3, 1) := by decide +kernel
theorem dX12_standingKind_52 : decode cX12_standingKind 52 = .ok (.aload_n 0, 1) := by decide +kernel
theorem dX12_standingKind_53 : decode cX12_standingKind 53 = .ok (.getfield 231, 3) := by decide +kernel
theorem dX12_standingKind_56 : decode cX12_standingKind 56 = .ok (.invokevirtual 214, 3) := by decide +kernel
theorem dX12_standingKind_59 : decode cX12_standingKind 59 = .ok (.iconst (-1), 1) := by decide +kernel
theorem dX12_standingKind_60 : decode cX12_standingKind 60 = .ok (.ireturn, 1) := by decide +kernel
theorem dX12_stands_0 : decode cX12_stands 0 = .ok (.aload_n 0, 1) := by decide +kernel
theorem dX12_stands_1 : decode cX12_stands 1 = .ok (.iconst 1, 1) := by decide +kernel
theorem dX12_stands_2 : decode cX12_stands 2 = .ok (.putfield 321, 3) := by decide +kernel
theorem dX12_stands_5 : decode cX12_stands 5 = .ok (.aload_n 0, 1) := by decide +kernel
theorem dX12_stands_6 : decode cX12_stands 6 = .ok (.aload_n 0, 1) := by decide +kernel
theorem dX12_stands_7 : decode cX12_stands 7 = .ok (.getfield 312, 3) := by decide +kernel
theorem dX12_stands_10 : decode cX12_stands 10 = .ok (.putfield 325, 3) := by decide +kernel
theorem dX12_stands_13 : decode cX12_stands 13 = .ok (.aload_n 0, 1) := by decide +kernel
theorem dX12_stands_14 : decode cX12_stands 14 = .ok (.aload_n 0, 1) := by decide +kernel
theorem dX12_stands_15 : decode cX12_stands 15 = .ok (.getfield 251, 3) := by decide +kernel
theorem dX12_stands_18 : decode cX12_stands 18 = .ok (.putfield 328, 3) := by decide +kernel
theorem dX12_stands_21 : decode cX12_stands 21 = .ok (.iconst 0, 1) := by decide +kernel
theorem dX12_stands_22 : decode cX12_stands 22 = .ok (.istore_n 1, 1) := by decide +kernel
theorem dX12_stands_23 : decode cX12_stands 23 = .ok (.iload_n 1, 1) := by decide +kernel
theorem dX12_stands_24 : decode cX12_stands 24 = .ok (.bipush 6, 2) := by decide +kernel
theorem dX12_stands_26 : decode cX12_stands 26 = .ok (.if_icmp .ge 39, 3) := by decide +kernel
theorem dX12_stands_29 : decode cX12_stands 29 = .ok (.aload_n 0, 1) := by decide +kernel
theorem dX12_stands_30 : decode cX12_stands 30 = .ok (.getfield 63, 3) := by decide +kernel
theorem dX12_stands_33 : decode cX12_stands 33 = .ok (.bipush 6, 2) := by decide +kernel
theorem dX12_stands_35 : decode cX12_stands 35 = .ok (.iload_n 1, 1) := by decide +kernel
theorem dX12_stands_36 : decode cX12_stands 36 = .ok (.iadd, 1) := by decide +kernel
theorem dX12_stands_37 : decode cX12_stands 37 = .ok (.aload_n 0, 1) := by decide +kernel
theorem dX12_stands_38 : decode cX12_stands 38 = .ok (.getfield 63, 3) := by decide +kernel
theorem dX12_stands_41 : decode cX12_stands 41 = .ok (.iload_n 1, 1) := by decide +kernel
theorem dX12_stands_42 : decode cX12_stands 42 = .ok (.iaload, 1) := by decide +kernel
theorem dX12_stands_43 : decode cX12_stands 43 = .ok (.iastore, 1) := by decide +kernel
theorem dX12_stands_44 : decode cX12_stands 44 = .ok (.aload_n 0, 1) := by decide +kernel
theorem dX12_stands_45 : decode cX12_stands 45 = .ok (.getfield 69, 3) := by decide +kernel
theorem dX12_stands_48 : decode cX12_stands 48 = .ok (.bipush 6, 2) := by decide +kernel
theorem dX12_stands_50 : decode cX12_stands 50 = .ok (.iload_n 1, 1) := by decide +kernel
theorem dX12_stands_51 : decode cX12_stands 51 = .ok (.iadd, 1) := by decide +kernel
theorem dX12_stands_52 : decode cX12_stands 52 = .ok (.aload_n 0, 1) := by decide +kernel
theorem dX12_stands_53 : decode cX12_stands 53 = .ok (.getfield 69, 3) := by decide +kernel
theorem dX12_stands_56 : decode cX12_stands 56 = .ok (.iload_n 1, 1) := by decide +kernel
theorem dX12_stands_57 : decode cX12_stands 57 = .ok (.iaload, 1) := by decide +kernel
theorem dX12_stands_58 : decode cX12_stands 58 = .ok (.iastore, 1) := by decide +kernel
theorem dX12_stands_59 : decode cX12_stands 59 = .ok (.iinc 1 1, 3) := by decide +kernel
theorem dX12_stands_62 : decode cX12_stands 62 = .ok (.goto (-39), 3) := by decide +kernel
theorem dX12_stands_65 : decode cX12_stands 65 = .ok (.iconst 0, 1) := by decide +kernel
theorem dX12_stands_66 : decode cX12_stands 66 = .ok (.istore_n 1, 1) := by decide +kernel
theorem dX12_stands_67 : decode cX12_stands 67 = .ok (.iload_n 1, 1) := by decide +kernel
theorem dX12_stands_68 : decode cX12_stands 68 = .ok (.bipush 36, 2) := by decide +kernel
theorem dX12_stands_70 : decode cX12_stands 70 = .ok (.if_icmp .ge 24, 3) := by decide +kernel
theorem dX12_stands_73 : decode cX12_stands 73 = .ok (.aload_n 0, 1) := by decide +kernel
theorem dX12_stands_74 : decode cX12_stands 74 = .ok (.getfield 66, 3) := by decide +kernel
theorem dX12_stands_77 : decode cX12_stands 77 = .ok (.bipush 36, 2) := by decide +kernel
theorem dX12_stands_79 : decode cX12_stands 79 = .ok (.iload_n 1, 1) := by decide +kernel
theorem dX12_stands_80 : decode cX12_stands 80 = .ok (.iadd, 1) := by decide +kernel
theorem dX12_stands_81 : decode cX12_stands 81 = .ok (.aload_n 0, 1) := by decide +kernel
theorem dX12_stands_82 : decode cX12_stands 82 = .ok (.getfield 66, 3) := by decide +kernel
theorem dX12_stands_85 : decode cX12_stands 85 = .ok (.iload_n 1, 1) := by decide +kernel
theorem dX12_stands_86 : decode cX12_stands 86 = .ok (.iaload, 1) := by decide +kernel
theorem dX12_stands_87 : decode cX12_stands 87 = .ok (.iastore, 1) := by decide +kernel
theorem dX12_stands_88 : decode cX12_stands 88 = .ok (.iinc 1 1, 3) := by decide +kernel
theorem dX12_stands_91 : decode cX12_stands 91 = .ok (.goto (-24), 3) := by decide +kernel
theorem dX12_stands_94 : decode cX12_stands 94 = .ok (.iconst 0, 1) := by decide +kernel
theorem dX12_stands_95 : decode cX12_stands 95 = .ok (.istore_n 1, 1) := by decide +kernel
theorem dX12_stands_96 : decode cX12_stands 96 = .ok (.iload_n 1, 1) := by decide +kernel
theorem dX12_stands_97 : decode cX12_stands 97 = .ok (.sipush 422, 3) := by decide +kernel
theorem dX12_stands_100 : decode cX12_stands 100 = .ok (.if_icmp .ge 21, 3) := by decide +kernel
theorem dX12_stands_103 : decode cX12_stands 103 = .ok (.aload_n 0, 1) := by decide +kernel
theorem dX12_stands_104 : decode cX12_stands 104 = .ok (.getfield 78, 3) := by decide +kernel
theorem dX12_stands_107 : decode cX12_stands 107 = .ok (.iload_n 1, 1) := by decide +kernel
theorem dX12_stands_108 : decode cX12_stands 108 = .ok (.aload_n 0, 1) := by decide +kernel
theorem dX12_stands_109 : decode cX12_stands 109 = .ok (.getfield 81, 3) := by decide +kernel
theorem dX12_stands_112 : decode cX12_stands 112 = .ok (.iload_n 1, 1) := by decide +kernel
theorem dX12_stands_113 : decode cX12_stands 113 = .ok (.iaload, 1) := by decide +kernel
theorem dX12_stands_114 : decode cX12_stands 114 = .ok (.iastore, 1) := by decide +kernel
theorem dX12_stands_115 : decode cX12_stands 115 = .ok (.iinc 1 1, 3) := by decide +kernel
theorem dX12_stands_118 : decode cX12_stands 118 = .ok (.goto (-22), 3) := by decide +kernel
theorem dX12_stands_121 : decode cX12_stands 121 = .ok (.aload_n 0, 1) := by decide +kernel
theorem dX12_stands_122 : decode cX12_stands 122 = .ok (.iconst 0, 1) := by decide +kernel
theorem dX12_stands_123 : decode cX12_stands 123 = .ok (.putfield 331, 3) := by decide +kernel
theorem dX12_stands_126 : decode cX12_stands 126 = .ok (.aload_n 0, 1) := by decide +kernel
theorem dX12_stands_127 : decode cX12_stands 127 = .ok (.iconst 0, 1) := by decide +kernel
theorem dX12_stands_128 : decode cX12_stands 128 = .ok (.putfield 334, 3) := by decide +kernel
theorem dX12_stands_131 : decode cX12_stands 131 = .ok (.aload_n 0, 1) := by decide +kernel
theorem dX12_stands_132 : decode cX12_stands 132 = .ok (.iconst 0, 1) := by decide +kernel
theorem dX12_stands_133 : decode cX12_stands 133 = .ok (.putfield 337, 3) := by decide +kernel
theorem dX12_stands_136 : decode cX12_stands 136 = .ok (.aload_n 0, 1) := by decide +kernel
theorem dX12_stands_137 : decode cX12_stands 137 = .ok (.iconst 0, 1) := by decide +kernel
theorem dX12_stands_138 : decode cX12_stands 138 = .ok (.putfield 340, 3) := by decide +kernel
theorem dX12_stands_141 : decode cX12_stands 141 = .ok (.aload_n 0, 1) := by decide +kernel
theorem dX12_stands_142 : decode cX12_stands 142 = .ok (.iconst (-1), 1) := by decide +kernel
theorem dX12_stands_143 : decode cX12_stands 143 = .ok (.putfield 150, 3) := by decide +kernel
theorem dX12_stands_146 : decode cX12_stands 146 = .ok (.return_, 1) := by decide +kernel
theorem dX12_statementTold_0 : decode cX12_statementTold 0 = .ok (.aload_n 0, 1) := by decide +kernel
theorem dX12_statementTold_1 : decode cX12_statementTold 1 = .ok (.getfield 188, 3) := by decide +kernel
theorem dX12_statementTold_4 : decode cX12_statementTold 4 = .ok (.istore_n 1, 1) := by decide +kernel
theorem dX12_statementTold_5 : decode cX12_statementTold 5 = .ok (.aload_n 0, 1) := by decide +kernel
theorem dX12_statementTold_6 : decode cX12_statementTold 6 = .ok (.getfield 297, 3) := by decide +kernel
theorem dX12_statementTold_9 : decode cX12_statementTold 9 = .ok (.bipush 60, 2) := by decide +kernel
theorem dX12_statementTold_11 : decode cX12_statementTold 11 = .ok (.if_icmp .ne 10, 3) := by decide +kernel
theorem dX12_statementTold_14 : decode cX12_statementTold 14 = .ok (.aload_n 0, 1) := by decide +kernel
theorem dX12_statementTold_15 : decode cX12_statementTold 15 = .ok (.iconst 5, 1) := by decide +kernel
theorem dX12_statementTold_16 : decode cX12_statementTold 16 = .ok (.iload_n 1, 1) := by decide +kernel
theorem dX12_statementTold_17 : decode cX12_statementTold 17 = .ok (.invokevirtual 214, 3) := by decide +kernel
theorem dX12_statementTold_20 : decode cX12_statementTold 20 = .ok (.return_, 1) := by decide +kernel
theorem dX12_statementTold_21 : decode cX12_statementTold 21 = .ok (.aload_n 0, 1) := by decide +kernel
theorem dX12_statementTold_22 : decode cX12_statementTold 22 = .ok (.aload_n 0, 1) := by decide +kernel
theorem dX12_statementTold_23 : decode cX12_statementTold 23 = .ok (.getfield 24, 3) := by decide +kernel
theorem dX12_statementTold_26 : decode cX12_statementTold 26 = .ok (.invokevirtual 211, 3) := by decide +kernel
theorem dX12_statementTold_29 : decode cX12_statementTold 29 = .ok (.ifCond .eq 11, 3) := by decide +kernel
theorem dX12_statementTold_32 : decode cX12_statementTold 32 = .ok (.aload_n 0, 1) := by decide +kernel
theorem dX12_statementTold_33 : decode cX12_statementTold 33 = .ok (.iload_n 1, 1) := by decide +kernel
theorem dX12_statementTold_34 : decode cX12_statementTold 34 = .ok (.invokevirtual 300, 3) := by decide +kernel
theorem dX12_statementTold_37 : decode cX12_statementTold 37 = .ok (.goto 97, 3) := by decide +kernel
theorem dX12_statementTold_40 : decode cX12_statementTold 40 = .ok (.aload_n 0, 1) := by decide +kernel
theorem dX12_statementTold_41 : decode cX12_statementTold 41 = .ok (.aload_n 0, 1) := by decide +kernel
theorem dX12_statementTold_42 : decode cX12_statementTold 42 = .ok (.getfield 27, 3) := by decide +kernel
theorem dX12_statementTold_45 : decode cX12_statementTold 45 = .ok (.invokevirtual 211, 3) := by decide +kernel
theorem dX12_statementTold_48 : decode cX12_statementTold 48 = .ok (.ifCond .eq 10, 3) := by decide +kernel
theorem dX12_statementTold_51 : decode cX12_statementTold 51 = .ok (.aload_n 0, 1) := by decide +kernel
theorem dX12_statementTold_52 : decode cX12_statementTold 52 = .ok (.invokevirtual 303, 3) := by decide +kernel
theorem dX12_statementTold_55 : decode cX12_statementTold 55 = .ok (.goto 79, 3) := by decide +kernel
theorem dX12_statementTold_58 : decode cX12_statementTold 58 = .ok (.aload_n 0, 1) := by decide +kernel
theorem dX12_statementTold_59 : decode cX12_statementTold 59 = .ok (.aload_n 0, 1) := by decide +kernel
theorem dX12_statementTold_60 : decode cX12_statementTold 60 = .ok (.getfield 30, 3) := by decide +kernel
theorem dX12_statementTold_63 : decode cX12_statementTold 63 = .ok (.invokevirtual 211, 3) := by decide +kernel
theorem dX12_statementTold_66 : decode cX12_statementTold 66 = .ok (.ifCond .eq 10, 3) := by decide +kernel
theorem dX12_statementTold_69 : decode cX12_statementTold 69 = .ok (.aload_n 0, 1) := by decide +kernel
theorem dX12_statementTold_70 : decode cX12_statementTold 70 = .ok (.invokevirtual 306, 3) := by decide +kernel
theorem dX12_statementTold_73 : decode cX12_statementTold 73 = .ok (.goto 61, 3) := by decide +kernel
theorem dX12_statementTold_76 : decode cX12_statementTold 76 = .ok (.aload_n 0, 1) := by decide +kernel
theorem dX12_statementTold_77 : decode cX12_statementTold 77 = .ok (.aload_n 0, 1) := by decide +kernel
theorem dX12_statementTold_78 : decode cX12_statementTold 78 = .ok (.getfield 33, 3) := by decide +kernel
theorem dX12_statementTold_81 : decode cX12_statementTold 81 = .ok (.invokevirtual 211, 3) := by decide +kernel
theorem dX12_statementTold_84 : decode cX12_statementTold 84 = .ok (.ifCond .eq 30, 3) := by decide +kernel
theorem dX12_statementTold_87 : decode cX12_statementTold 87 = .ok (.aload_n 0, 1) := by decide +kernel
theorem dX12_statementTold_88 : decode cX12_statementTold 88 = .ok (.iconst 0, 1) := by decide +kernel
theorem dX12_statementTold_89 : decode cX12_statementTold 89 = .ok (.bipush 7, 2) := by decide +kernel
theorem dX12_statementTold_91 : decode cX12_statementTold 91 = .ok (.invokevirtual 276, 3) := by decide +kernel
theorem dX12_statementTold_94 : decode cX12_statementTold 94 = .ok (.istore_n 2, 1) := by decide +kernel
theorem dX12_statementTold_95 : decode cX12_statementTold 95 = .ok (.aload_n 0, 1) := by decide +kernel
theorem dX12_statementTold_96 : decode cX12_statementTold 96 = .ok (.getfield 194, 3) := by decide +kernel
theorem dX12_statementTold_99 : decode cX12_statementTold 99 = .ok (.ifCond .ne 12, 3) := by decide +kernel
theorem dX12_statementTold_102 : decode cX12_statementTold 102 = .ok (.aload_n 0, 1) := by decide +kernel
theorem dX12_statementTold_103 : decode cX12_statementTold 103 = .ok (.iconst 3, 1) := by decide +kernel
theorem dX12_statementTold_104 : decode cX12_statementTold 104 = .ok (.iload_n 2, 1) := by decide +kernel
theorem dX12_statementTold_105 : decode cX12_statementTold 105 = .ok (.bipush 8, 2) := by decide +kernel
theorem dX12_statementTold_107 : decode cX12_statementTold 107 = .ok (.isub, 1) := by decide +kernel
theorem dX12_statementTold_108 : decode cX12_statementTold 108 = .ok (.invokevirtual 294, 3) := by decide +kernel
theorem dX12_statementTold_111 : decode cX12_statementTold 111 = .ok (.goto 23, 3) := by decide +kernel
theorem dX12_statementTold_114 : decode cX12_statementTold 114 = .ok (.aload_n 0, 1) := by decide +kernel
theorem dX12_statementTold_115 : decode cX12_statementTold 115 = .ok (.aload_n 0, 1) := by decide +kernel
theorem dX12_statementTold_116 : decode cX12_statementTold 116 = .ok (.getfield 36, 3) := by decide +kernel
theorem dX12_statementTold_119 : decode cX12_statementTold 119 = .ok (.invokevirtual 269, 3) := by decide +kernel
theorem dX12_statementTold_122 : decode cX12_statementTold 122 = .ok (.aload_n 0, 1) := by decide +kernel
theorem dX12_statementTold_123 : decode cX12_statementTold 123 = .ok (.getfield 81, 3) := by decide +kernel
theorem dX12_statementTold_126 : decode cX12_statementTold 126 = .ok (.iconst 0, 1) := by decide +kernel
theorem dX12_statementTold_127 : decode cX12_statementTold 127 = .ok (.aload_n 0, 1) := by decide +kernel
theorem dX12_statementTold_128 : decode cX12_statementTold 128 = .ok (.iconst 0, 1) := by decide +kernel
theorem dX12_statementTold_129 : decode cX12_statementTold 129 = .ok (.iconst 1, 1) := by decide +kernel
theorem dX12_statementTold_130 : decode cX12_statementTold 130 = .ok (.invokevirtual 276, 3) := by decide +kernel
theorem dX12_statementTold_133 : decode cX12_statementTold 133 = .ok (.iastore, 1) := by decide +kernel
theorem dX12_statementTold_134 : decode cX12_statementTold 134 = .ok (.aload_n 0, 1) := by decide +kernel
theorem dX12_statementTold_135 : decode cX12_statementTold 135 = .ok (.bipush 59, 2) := by decide +kernel
theorem dX12_statementTold_137 : decode cX12_statementTold 137 = .ok (.invokevirtual 290, 3) := by decide +kernel
theorem dX12_statementTold_140 : decode cX12_statementTold 140 = .ok (.aload_n 0, 1) := by decide +kernel
theorem dX12_statementTold_141 : decode cX12_statementTold 141 = .ok (.dup, 1) := by decide +kernel
theorem dX12_statementTold_142 : decode cX12_statementTold 142 = .ok (.getfield 297, 3) := by decide +kernel
theorem dX12_statementTold_145 : decode cX12_statementTold 145 = .ok (.iconst 1, 1) := by decide +kernel
theorem dX12_statementTold_146 : decode cX12_statementTold 146 = .ok (.iadd, 1) := by decide +kernel
theorem dX12_statementTold_147 : decode cX12_statementTold 147 = .ok (.putfield 297, 3) := by decide +kernel
theorem dX12_statementTold_150 : decode cX12_statementTold 150 = .ok (.return_, 1) := by decide +kernel
theorem dX12_status_0 : decode cX12_status 0 = .ok (.iload_n 1, 1) := by decide +kernel
theorem dX12_status_1 : decode cX12_status 1 = .ok (.i2l, 1) := by decide +kernel
theorem dX12_status_2 : decode cX12_status 2 = .ok (.lconst 0, 1) := by decide +kernel
theorem dX12_status_3 : decode cX12_status 3 = .ok (.ldc2_w 176, 3) := by decide +kernel
theorem dX12_status_6 : decode cX12_status 6 = .ok (.invokestatic 178, 3) := by decide +kernel
theorem dX12_status_9 : decode cX12_status 9 = .ok (.ifCond .eq 12, 3) := by decide +kernel
theorem dX12_status_12 : decode cX12_status 12 = .ok (.aload_n 0, 1) := by decide +kernel
theorem dX12_status_13 : decode cX12_status 13 = .ok (.getfield 17, 3) := by decide +kernel
theorem dX12_status_16 : decode cX12_status 16 = .ok (.iload_n 1, 1) := by decide +kernel
theorem dX12_status_17 : decode cX12_status 17 = .ok (.iaload, 1) := by decide +kernel
theorem dX12_status_18 : decode cX12_status 18 = .ok (.goto 4, 3) := by decide +kernel
theorem dX12_status_21 : decode cX12_status 21 = .ok (.iconst (-1), 1) := by decide +kernel
theorem dX12_status_22 : decode cX12_status 22 = .ok (.ireturn, 1) := by decide +kernel
theorem dX12_step_0 : decode cX12_step 0 = .ok (.aload_n 0, 1) := by decide +kernel
theorem dX12_step_1 : decode cX12_step 1 = .ok (.getfield 78, 3) := by decide +kernel
theorem dX12_step_4 : decode cX12_step 4 = .ok (.iconst 3, 1) := by decide +kernel
theorem dX12_step_5 : decode cX12_step 5 = .ok (.iaload, 1) := by decide +kernel
theorem dX12_step_6 : decode cX12_step 6 = .ok (.ifCond .eq 15, 3) := by decide +kernel
theorem dX12_step_9 : decode cX12_step 9 = .ok (.iload_n 1, 1) := by decide +kernel
theorem dX12_step_10 : decode cX12_step 10 = .ok (.i2l, 1) := by decide +kernel
theorem dX12_step_11 : decode cX12_step 11 = .ok (.lconst 1, 1) := by decide +kernel
theorem dX12_step_12 : decode cX12_step 12 = .ok (.ldc2_w 550, 3) := by decide +kernel
theorem dX12_step_15 : decode cX12_step 15 = .ok (.invokestatic 178, 3) := by decide +kernel
theorem dX12_step_18 : decode cX12_step 18 = .ok (.ifCond .ne 9, 3) := by decide +kernel
theorem dX12_step_21 : decode cX12_step 21 = .ok (.aload_n 0, 1) := by decide +kernel
theorem dX12_step_22 : decode cX12_step 22 = .ok (.iconst 3, 1) := by decide +kernel
theorem dX12_step_23 : decode cX12_step 23 = .ok (.invokevirtual 168, 3) := by decide +kernel
theorem dX12_step_26 : decode cX12_step 26 = .ok (.ireturn, 1) := by decide +kernel
theorem dX12_step_27 : decode cX12_step 27 = .ok (.aload_n 0, 1) := by decide +kernel
theorem dX12_step_28 : decode cX12_step 28 = .ok (.invokevirtual 544, 3) := by decide +kernel
theorem dX12_step_31 : decode cX12_step 31 = .ok (.aload_n 0, 1) := by decide +kernel
theorem dX12_step_32 : decode cX12_step 32 = .ok (.invokevirtual 436, 3) := by decide +kernel
theorem dX12_step_35 : decode cX12_step 35 = .ok (.aload_n 0, 1) := by decide +kernel
theorem dX12_step_36 : decode cX12_step 36 = .ok (.invokevirtual 526, 3) := by decide +kernel
theorem dX12_step_39 : decode cX12_step 39 = .ok (.aload_n 0, 1) := by decide +kernel
theorem dX12_step_40 : decode cX12_step 40 = .ok (.getfield 78, 3) := by decide +kernel
theorem dX12_step_43 : decode cX12_step 43 = .ok (.iconst 4, 1) := by decide +kernel
theorem dX12_step_44 : decode cX12_step 44 = .ok (.iaload, 1) := by decide +kernel
theorem dX12_step_45 : decode cX12_step 45 = .ok (.isub, 1) := by decide +kernel
theorem dX12_step_46 : decode cX12_step 46 = .ok (.istore_n 2, 1) := by decide +kernel
theorem dX12_step_47 : decode cX12_step 47 = .ok (.iload_n 1, 1) := by decide +kernel
theorem dX12_step_48 : decode cX12_step 48 = .ok (.iload_n 2, 1) := by decide +kernel
theorem dX12_step_49 : decode cX12_step 49 = .ok (.if_icmp .ge 17, 3) := by decide +kernel
theorem dX12_step_52 : decode cX12_step 52 = .ok (.aload_n 0, 1) := by decide +kernel
theorem dX12_step_53 : decode cX12_step 53 = .ok (.getfield 78, 3) := by decide +kernel
theorem dX12_step_56 : decode cX12_step 56 = .ok (.iconst 4, 1) := by decide +kernel
theorem dX12_step_57 : decode cX12_step 57 = .ok (.dup2, 1) := by decide +kernel
theorem dX12_step_58 : decode cX12_step 58 = .ok (.iaload, 1) := by decide +kernel
theorem dX12_step_59 : decode cX12_step 59 = .ok (.iload_n 1, 1) := by decide +kernel
theorem dX12_step_60 : decode cX12_step 60 = .ok (.iadd, 1) := by decide +kernel
theorem dX12_step_61 : decode cX12_step 61 = .ok (.iastore, 1) := by decide +kernel
theorem dX12_step_62 : decode cX12_step 62 = .ok (.iload_n 2, 1) := by decide +kernel
theorem dX12_step_63 : decode cX12_step 63 = .ok (.iload_n 1, 1) := by decide +kernel
theorem dX12_step_64 : decode cX12_step 64 = .ok (.isub, 1) := by decide +kernel
theorem dX12_step_65 : decode cX12_step 65 = .ok (.ireturn, 1) := by decide +kernel
theorem dX12_step_66 : decode cX12_step 66 = .ok (.aload_n 0, 1) := by decide +kernel
theorem dX12_step_67 : decode cX12_step 67 = .ok (.invokevirtual 445, 3) := by decide +kernel
theorem dX12_step_70 : decode cX12_step 70 = .ok (.iconst 0, 1) := by decide +kernel
theorem dX12_step_71 : decode cX12_step 71 = .ok (.ireturn, 1) := by decide +kernel
theorem dX12_stepGoes_0 : decode cX12_stepGoes 0 = .ok (.aload_n 0, 1) := by decide +kernel
theorem dX12_stepGoes_1 : decode cX12_stepGoes 1 = .ok (.iload_n 1, 1) := by decide +kernel
theorem dX12_stepGoes_2 : decode cX12_stepGoes 2 = .ok (.invokevirtual 411, 3) := by decide +kernel
theorem dX12_stepGoes_5 : decode cX12_stepGoes 5 = .ok (.tableswitch 110 1 7 #[43, 50, 62, 74, 86, 98, 98], 43) := by decide +kernel
theorem dX12_stepGoes_48 : decode cX12_stepGoes 48 = .ok (.aload_n 0, 1) := by decide +kernel
theorem dX12_stepGoes_49 : decode cX12_stepGoes 49 = .ok (.invokevirtual 415, 3) := by decide +kernel
theorem dX12_stepGoes_52 : decode cX12_stepGoes 52 = .ok (.goto 67, 3) := by decide +kernel
theorem dX12_stepGoes_55 : decode cX12_stepGoes 55 = .ok (.aload_n 0, 1) := by decide +kernel
theorem dX12_stepGoes_56 : decode cX12_stepGoes 56 = .ok (.aload_n 0, 1) := by decide +kernel
theorem dX12_stepGoes_57 : decode cX12_stepGoes 57 = .ok (.iload_n 1, 1) := by decide +kernel
theorem dX12_stepGoes_58 : decode cX12_stepGoes 58 = .ok (.invokevirtual 418, 3) := by decide +kernel
theorem dX12_stepGoes_61 : decode cX12_stepGoes 61 = .ok (.invokevirtual 396, 3) := by decide +kernel
theorem dX12_stepGoes_64 : decode cX12_stepGoes 64 = .ok (.goto 55, 3) := by decide +kernel
theorem dX12_stepGoes_67 : decode cX12_stepGoes 67 = .ok (.aload_n 0, 1) := by decide +kernel
theorem dX12_stepGoes_68 : decode cX12_stepGoes 68 = .ok (.aload_n 0, 1) := by decide +kernel
theorem dX12_stepGoes_69 : decode cX12_stepGoes 69 = .ok (.iload_n 1, 1) := by decide +kernel
theorem dX12_stepGoes_70 : decode cX12_stepGoes 70 = .ok (.invokevirtual 418, 3) := by decide +kernel
theorem dX12_stepGoes_73 : decode cX12_stepGoes 73 = .ok (.invokevirtual 421, 3) := by decide +kernel
theorem dX12_stepGoes_76 : decode cX12_stepGoes 76 = .ok (.goto 43, 3) := by decide +kernel
theorem dX12_stepGoes_79 : decode cX12_stepGoes 79 = .ok (.aload_n 0, 1) := by decide +kernel
theorem dX12_stepGoes_80 : decode cX12_stepGoes 80 = .ok (.aload_n 0, 1) := by decide +kernel
theorem dX12_stepGoes_81 : decode cX12_stepGoes 81 = .ok (.iload_n 1, 1) := by decide +kernel
theorem dX12_stepGoes_82 : decode cX12_stepGoes 82 = .ok (.invokevirtual 418, 3) := by decide +kernel
theorem dX12_stepGoes_85 : decode cX12_stepGoes 85 = .ok (.invokevirtual 424, 3) := by decide +kernel
theorem dX12_stepGoes_88 : decode cX12_stepGoes 88 = .ok (.goto 31, 3) := by decide +kernel
theorem dX12_stepGoes_91 : decode cX12_stepGoes 91 = .ok (.aload_n 0, 1) := by decide +kernel
theorem dX12_stepGoes_92 : decode cX12_stepGoes 92 = .ok (.aload_n 0, 1) := by decide +kernel
theorem dX12_stepGoes_93 : decode cX12_stepGoes 93 = .ok (.iload_n 1, 1) := by decide +kernel
theorem dX12_stepGoes_94 : decode cX12_stepGoes 94 = .ok (.invokevirtual 418, 3) := by decide +kernel
theorem dX12_stepGoes_97 : decode cX12_stepGoes 97 = .ok (.invokevirtual 427, 3) := by decide +kernel
theorem dX12_stepGoes_100 : decode cX12_stepGoes 100 = .ok (.goto 19, 3) := by decide +kernel
theorem dX12_stepGoes_103 : decode cX12_stepGoes 103 = .ok (.aload_n 0, 1) := by decide +kernel
theorem dX12_stepGoes_104 : decode cX12_stepGoes 104 = .ok (.aload_n 0, 1) := by decide +kernel
theorem dX12_stepGoes_105 : decode cX12_stepGoes 105 = .ok (.iload_n 1, 1) := by decide +kernel
theorem dX12_stepGoes_106 : decode cX12_stepGoes 106 = .ok (.invokevirtual 418, 3) := by decide +kernel
theorem dX12_stepGoes_109 : decode cX12_stepGoes 109 = .ok (.invokevirtual 430, 3) := by decide +kernel
theorem dX12_stepGoes_112 : decode cX12_stepGoes 112 = .ok (.goto 7, 3) := by decide +kernel
theorem dX12_stepGoes_115 : decode cX12_stepGoes 115 = .ok (.aload_n 0, 1) := by decide +kernel
theorem dX12_stepGoes_116 : decode cX12_stepGoes 116 = .ok (.invokevirtual 433, 3) := by decide +kernel
theorem dX12_stepGoes_119 : decode cX12_stepGoes 119 = .ok (.return_, 1) := by decide +kernel
theorem dX12_stepOf_0 : decode cX12_stepOf 0 = .ok (.aload_n 0, 1) := by decide +kernel
theorem dX12_stepOf_1 : decode cX12_stepOf 1 = .ok (.iload_n 1, 1) := by decide +kernel
theorem dX12_stepOf_2 : decode cX12_stepOf 2 = .ok (.invokevirtual 411, 3) := by decide +kernel
theorem dX12_stepOf_5 : decode cX12_stepOf 5 = .ok (.tableswitch 110 2 7 #[39, 44, 54, 71, 80, 90], 39) := by decide +kernel
theorem dX12_stepOf_44 : decode cX12_stepOf 44 = .ok (.iload_n 1, 1) := by decide +kernel
theorem dX12_stepOf_45 : decode cX12_stepOf 45 = .ok (.bipush 10, 2) := by decide +kernel
theorem dX12_stepOf_47 : decode cX12_stepOf 47 = .ok (.isub, 1) := by decide +kernel
theorem dX12_stepOf_48 : decode cX12_stepOf 48 = .ok (.ireturn, 1) := by decide +kernel
theorem dX12_stepOf_49 : decode cX12_stepOf 49 = .ok (.aload_n 0, 1) := by decide +kernel
theorem dX12_stepOf_50 : decode cX12_stepOf 50 = .ok (.getfield 97, 3) := by decide +kernel
theorem dX12_stepOf_53 : decode cX12_stepOf 53 = .ok (.iload_n 1, 1) := by decide +kernel
theorem dX12_stepOf_54 : decode cX12_stepOf 54 = .ok (.bipush 10, 2) := by decide +kernel
theorem dX12_stepOf_56 : decode cX12_stepOf 56 = .ok (.isub, 1) := by decide +kernel
theorem dX12_stepOf_57 : decode cX12_stepOf 57 = .ok (.iaload, 1) := by decide +kernel
theorem dX12_stepOf_58 : decode cX12_stepOf 58 = .ok (.ireturn, 1) := by decide +kernel
theorem dX12_stepOf_59 : decode cX12_stepOf 59 = .ok (.aload_n 0, 1) := by decide +kernel
theorem dX12_stepOf_60 : decode cX12_stepOf 60 = .ok (.getfield 97, 3) := by decide +kernel
theorem dX12_stepOf_63 : decode cX12_stepOf 63 = .ok (.bipush 9, 2) := by decide +kernel
theorem dX12_stepOf_65 : decode cX12_stepOf 65 = .ok (.iconst 2, 1) := by decide +kernel
theorem dX12_stepOf_66 : decode cX12_stepOf 66 = .ok (.aload_n 0, 1) := by decide +kernel
theorem dX12_stepOf_67 : decode cX12_stepOf 67 = .ok (.getfield 372, 3) := by decide +kernel
theorem dX12_stepOf_70 : decode cX12_stepOf 70 = .ok (.imul, 1) := by decide +kernel
theorem dX12_stepOf_71 : decode cX12_stepOf 71 = .ok (.iadd, 1) := by decide +kernel
theorem dX12_stepOf_72 : decode cX12_stepOf 72 = .ok (.iload_n 1, 1) := by decide +kernel
theorem dX12_stepOf_73 : decode cX12_stepOf 73 = .ok (.isub, 1) := by decide +kernel
theorem dX12_stepOf_74 : decode cX12_stepOf 74 = .ok (.iaload, 1) := by decide +kernel
theorem dX12_stepOf_75 : decode cX12_stepOf 75 = .ok (.ireturn, 1) := by decide +kernel
theorem dX12_stepOf_76 : decode cX12_stepOf 76 = .ok (.aload_n 0, 1) := by decide +kernel
theorem dX12_stepOf_77 : decode cX12_stepOf 77 = .ok (.getfield 378, 3) := by decide +kernel
theorem dX12_stepOf_80 : decode cX12_stepOf 80 = .ok (.iconst 1, 1) := by decide +kernel
theorem dX12_stepOf_81 : decode cX12_stepOf 81 = .ok (.iadd, 1) := by decide +kernel
theorem dX12_stepOf_82 : decode cX12_stepOf 82 = .ok (.iload_n 1, 1) := by decide +kernel
theorem dX12_stepOf_83 : decode cX12_stepOf 83 = .ok (.isub, 1) := by decide +kernel
theorem dX12_stepOf_84 : decode cX12_stepOf 84 = .ok (.ireturn, 1) := by decide +kernel
theorem dX12_stepOf_85 : decode cX12_stepOf 85 = .ok (.iload_n 1, 1) := by decide +kernel
theorem dX12_stepOf_86 : decode cX12_stepOf 86 = .ok (.bipush 10, 2) := by decide +kernel
theorem dX12_stepOf_88 : decode cX12_stepOf 88 = .ok (.isub, 1) := by decide +kernel
theorem dX12_stepOf_89 : decode cX12_stepOf 89 = .ok (.aload_n 0, 1) := by decide +kernel
theorem dX12_stepOf_90 : decode cX12_stepOf 90 = .ok (.getfield 378, 3) := by decide +kernel
theorem dX12_stepOf_93 : decode cX12_stepOf 93 = .ok (.isub, 1) := by decide +kernel
theorem dX12_stepOf_94 : decode cX12_stepOf 94 = .ok (.ireturn, 1) := by decide +kernel
theorem dX12_stepOf_95 : decode cX12_stepOf 95 = .ok (.aload_n 0, 1) := by decide +kernel
theorem dX12_stepOf_96 : decode cX12_stepOf 96 = .ok (.getfield 325, 3) := by decide +kernel
theorem dX12_stepOf_99 : decode cX12_stepOf 99 = .ok (.aload_n 0, 1) := by decide +kernel
theorem dX12_stepOf_100 : decode cX12_stepOf 100 = .ok (.getfield 372, 3) := by decide +kernel
theorem dX12_stepOf_103 : decode cX12_stepOf 103 = .ok (.isub, 1) := by decide +kernel
theorem dX12_stepOf_104 : decode cX12_stepOf 104 = .ok (.iload_n 1, 1) := by decide +kernel
theorem dX12_stepOf_105 : decode cX12_stepOf 105 = .ok (.iadd, 1) := by decide +kernel
theorem dX12_stepOf_106 : decode cX12_stepOf 106 = .ok (.bipush 10, 2) := by decide +kernel
theorem dX12_stepOf_108 : decode cX12_stepOf 108 = .ok (.isub, 1) := by decide +kernel
theorem dX12_stepOf_109 : decode cX12_stepOf 109 = .ok (.aload_n 0, 1) := by decide +kernel
theorem dX12_stepOf_110 : decode cX12_stepOf 110 = .ok (.getfield 378, 3) := by decide +kernel
theorem dX12_stepOf_113 : decode cX12_stepOf 113 = .ok (.isub, 1) := by decide +kernel
theorem dX12_stepOf_114 : decode cX12_stepOf 114 = .ok (.ireturn, 1) := by decide +kernel
theorem dX12_stepOf_115 : decode cX12_stepOf 115 = .ok (.ldc_w 414, 3) := by decide +kernel
theorem dX12_stepOf_118 : decode cX12_stepOf 118 = .ok (.ireturn, 1) := by decide +kernel
theorem dX12_stepSort_0 : decode cX12_stepSort 0 = .ok (.iload_n 1, 1) := by decide +kernel
theorem dX12_stepSort_1 : decode cX12_stepSort 1 = .ok (.iconst 1, 1) := by decide +kernel
theorem dX12_stepSort_2 : decode cX12_stepSort 2 = .ok (.if_icmp .ne 5, 3) := by decide +kernel
theorem dX12_stepSort_5 : decode cX12_stepSort 5 = .ok (.iconst 1, 1) := by decide +kernel
theorem dX12_stepSort_6 : decode cX12_stepSort 6 = .ok (.ireturn, 1) := by decide +kernel
theorem dX12_stepSort_7 : decode cX12_stepSort 7 = .ok (.iload_n 1, 1) := by decide +kernel
theorem dX12_stepSort_8 : decode cX12_stepSort 8 = .ok (.aload_n 0, 1) := by decide +kernel
theorem dX12_stepSort_9 : decode cX12_stepSort 9 = .ok (.aload_n 0, 1) := by decide +kernel
theorem dX12_stepSort_10 : decode cX12_stepSort 10 = .ok (.getfield 78, 3) := by decide +kernel
theorem dX12_stepSort_13 : decode cX12_stepSort 13 = .ok (.iconst 0, 1) := by decide +kernel
theorem dX12_stepSort_14 : decode cX12_stepSort 14 = .ok (.iaload, 1) := by decide +kernel
theorem dX12_stepSort_15 : decode cX12_stepSort 15 = .ok (.invokevirtual 408, 3) := by decide +kernel
theorem dX12_stepSort_18 : decode cX12_stepSort 18 = .ok (.if_icmp .ne 6, 3) := by decide +kernel
theorem dX12_stepSort_21 : decode cX12_stepSort 21 = .ok (.bipush 8, 2) := by decide +kernel
theorem dX12_stepSort_23 : decode cX12_stepSort 23 = .ok (.ireturn, 1) := by decide +kernel
theorem dX12_stepSort_24 : decode cX12_stepSort 24 = .ok (.aload_n 0, 1) := by decide +kernel
theorem dX12_stepSort_25 : decode cX12_stepSort 25 = .ok (.getfield 78, 3) := by decide +kernel
theorem dX12_stepSort_28 : decode cX12_stepSort 28 = .ok (.iconst 0, 1) := by decide +kernel
theorem dX12_stepSort_29 : decode cX12_stepSort 29 = .ok (.iaload, 1) := by decide +kernel
theorem dX12_stepSort_30 : decode cX12_stepSort 30 = .ok (.ifCond .ne 30, 3) := by decide +kernel
theorem dX12_stepSort_33 : decode cX12_stepSort 33 = .ok (.iload_n 1, 1) := by decide +kernel
theorem dX12_stepSort_34 : decode cX12_stepSort 34 = .ok (.bipush 9, 2) := by decide +kernel
theorem dX12_stepSort_36 : decode cX12_stepSort 36 = .ok (.if_icmp .gt 7, 3) := by decide +kernel
theorem dX12_stepSort_39 : decode cX12_stepSort 39 = .ok (.iconst 2, 1) := by decide +kernel
theorem dX12_stepSort_40 : decode cX12_stepSort 40 = .ok (.goto 19, 3) := by decide +kernel
theorem dX12_stepSort_43 : decode cX12_stepSort 43 = .ok (.iload_n 1, 1) := by decide +kernel
theorem dX12_stepSort_44 : decode cX12_stepSort 44 = .ok (.bipush 9, 2) := by decide +kernel
theorem dX12_stepSort_46 : decode cX12_stepSort 46 = .ok (.aload_n 0, 1) := by decide +kernel
theorem dX12_stepSort_47 : decode cX12_stepSort 47 = .ok (.getfield 372, 3) := by decide +kernel
theorem dX12_stepSort_50 : decode cX12_stepSort 50 = .ok (.iadd, 1) := by decide +kernel
theorem dX12_stepSort_51 : decode cX12_stepSort 51 = .ok (.if_icmp .gt 7, 3) := by decide +kernel
theorem dX12_stepSort_54 : decode cX12_stepSort 54 = .ok (.iconst 3, 1) := by decide +kernel
theorem dX12_stepSort_55 : decode cX12_stepSort 55 = .ok (.goto 4, 3) := by decide +kernel
theorem dX12_stepSort_58 : decode cX12_stepSort 58 = .ok (.iconst 4, 1) := by decide +kernel
theorem dX12_stepSort_59 : decode cX12_stepSort 59 = .ok (.ireturn, 1) := by decide +kernel
theorem dX12_stepSort_60 : decode cX12_stepSort 60 = .ok (.iload_n 1, 1) := by decide +kernel
theorem dX12_stepSort_61 : decode cX12_stepSort 61 = .ok (.iconst 1, 1) := by decide +kernel
theorem dX12_stepSort_62 : decode cX12_stepSort 62 = .ok (.aload_n 0, 1) := by decide +kernel
theorem dX12_stepSort_63 : decode cX12_stepSort 63 = .ok (.getfield 378, 3) := by decide +kernel
theorem dX12_stepSort_66 : decode cX12_stepSort 66 = .ok (.iadd, 1) := by decide +kernel
theorem dX12_stepSort_67 : decode cX12_stepSort 67 = .ok (.if_icmp .gt 7, 3) := by decide +kernel
theorem dX12_stepSort_70 : decode cX12_stepSort 70 = .ok (.iconst 5, 1) := by decide +kernel
theorem dX12_stepSort_71 : decode cX12_stepSort 71 = .ok (.goto 21, 3) := by decide +kernel
theorem dX12_stepSort_74 : decode cX12_stepSort 74 = .ok (.iload_n 1, 1) := by decide +kernel
theorem dX12_stepSort_75 : decode cX12_stepSort 75 = .ok (.bipush 9, 2) := by decide +kernel
theorem dX12_stepSort_77 : decode cX12_stepSort 77 = .ok (.aload_n 0, 1) := by decide +kernel
theorem dX12_stepSort_78 : decode cX12_stepSort 78 = .ok (.getfield 378, 3) := by decide +kernel
theorem dX12_stepSort_81 : decode cX12_stepSort 81 = .ok (.iadd, 1) := by decide +kernel
theorem dX12_stepSort_82 : decode cX12_stepSort 82 = .ok (.if_icmp .gt 8, 3) := by decide +kernel
theorem dX12_stepSort_85 : decode cX12_stepSort 85 = .ok (.bipush 6, 2) := by decide +kernel
theorem dX12_stepSort_87 : decode cX12_stepSort 87 = .ok (.goto 5, 3) := by decide +kernel
theorem dX12_stepSort_90 : decode cX12_stepSort 90 = .ok (.bipush 7, 2) := by decide +kernel
theorem dX12_stepSort_92 : decode cX12_stepSort 92 = .ok (.ireturn, 1) := by decide +kernel
theorem dX12_steps_0 : decode cX12_steps 0 = .ok (.aload_n 0, 1) := by decide +kernel
theorem dX12_steps_1 : decode cX12_steps 1 = .ok (.invokevirtual 452, 3) := by decide +kernel
theorem dX12_steps_4 : decode cX12_steps 4 = .ok (.ifCond .eq 21, 3) := by decide +kernel
theorem dX12_steps_7 : decode cX12_steps 7 = .ok (.iload_n 1, 1) := by decide +kernel
theorem dX12_steps_8 : decode cX12_steps 8 = .ok (.i2l, 1) := by decide +kernel
theorem dX12_steps_9 : decode cX12_steps 9 = .ok (.lconst 0, 1) := by decide +kernel
theorem dX12_steps_10 : decode cX12_steps 10 = .ok (.lconst 1, 1) := by decide +kernel
theorem dX12_steps_11 : decode cX12_steps 11 = .ok (.invokestatic 178, 3) := by decide +kernel
theorem dX12_steps_14 : decode cX12_steps 14 = .ok (.ifCond .eq 11, 3) := by decide +kernel
theorem dX12_steps_17 : decode cX12_steps 17 = .ok (.aload_n 0, 1) := by decide +kernel
theorem dX12_steps_18 : decode cX12_steps 18 = .ok (.iload_n 1, 1) := by decide +kernel
theorem dX12_steps_19 : decode cX12_steps 19 = .ok (.invokevirtual 408, 3) := by decide +kernel
theorem dX12_steps_22 : decode cX12_steps 22 = .ok (.goto 4, 3) := by decide +kernel
theorem dX12_steps_25 : decode cX12_steps 25 = .ok (.iconst (-1), 1) := by decide +kernel
theorem dX12_steps_26 : decode cX12_steps 26 = .ok (.ireturn, 1) := by decide +kernel
theorem dX12_stepsBy_0 : decode cX12_stepsBy 0 = .ok (.iload_n 1, 1) := by decide +kernel
theorem dX12_stepsBy_1 : decode cX12_stepsBy 1 = .ok (.ifCond .ne 15, 3) := by decide +kernel
theorem dX12_stepsBy_4 : decode cX12_stepsBy 4 = .ok (.bipush 10, 2) := by decide +kernel
theorem dX12_stepsBy_6 : decode cX12_stepsBy 6 = .ok (.iconst 2, 1) := by decide +kernel
theorem dX12_stepsBy_7 : decode cX12_stepsBy 7 = .ok (.aload_n 0, 1) := by decide +kernel
theorem dX12_stepsBy_8 : decode cX12_stepsBy 8 = .ok (.getfield 372, 3) := by decide +kernel
theorem dX12_stepsBy_11 : decode cX12_stepsBy 11 = .ok (.imul, 1) := by decide +kernel
theorem dX12_stepsBy_12 : decode cX12_stepsBy 12 = .ok (.iadd, 1) := by decide +kernel
theorem dX12_stepsBy_13 : decode cX12_stepsBy 13 = .ok (.goto 15, 3) := by decide +kernel
theorem dX12_stepsBy_16 : decode cX12_stepsBy 16 = .ok (.bipush 10, 2) := by decide +kernel
theorem dX12_stepsBy_18 : decode cX12_stepsBy 18 = .ok (.aload_n 0, 1) := by decide +kernel
theorem dX12_stepsBy_19 : decode cX12_stepsBy 19 = .ok (.getfield 378, 3) := by decide +kernel
theorem dX12_stepsBy_22 : decode cX12_stepsBy 22 = .ok (.iadd, 1) := by decide +kernel
theorem dX12_stepsBy_23 : decode cX12_stepsBy 23 = .ok (.aload_n 0, 1) := by decide +kernel
theorem dX12_stepsBy_24 : decode cX12_stepsBy 24 = .ok (.getfield 372, 3) := by decide +kernel
theorem dX12_stepsBy_27 : decode cX12_stepsBy 27 = .ok (.iadd, 1) := by decide +kernel
theorem dX12_stepsBy_28 : decode cX12_stepsBy 28 = .ok (.ireturn, 1) := by decide +kernel
theorem dX12_stores_0 : decode cX12_stores 0 = .ok (.aload_n 0, 1) := by decide +kernel
theorem dX12_stores_1 : decode cX12_stores 1 = .ok (.getfield 610, 3) := by decide +kernel
theorem dX12_stores_4 : decode cX12_stores 4 = .ok (.istore_n 2, 1) := by decide +kernel
theorem dX12_stores_5 : decode cX12_stores 5 = .ok (.aload_n 0, 1) := by decide +kernel
theorem dX12_stores_6 : decode cX12_stores 6 = .ok (.getfield 613, 3) := by decide +kernel
theorem dX12_stores_9 : decode cX12_stores 9 = .ok (.istore_n 3, 1) := by decide +kernel
theorem dX12_stores_10 : decode cX12_stores 10 = .ok (.aload_n 0, 1) := by decide +kernel
theorem dX12_stores_11 : decode cX12_stores 11 = .ok (.invokevirtual 619, 3) := by decide +kernel
theorem dX12_stores_14 : decode cX12_stores 14 = .ok (.istore 4, 2) := by decide +kernel
theorem dX12_stores_16 : decode cX12_stores 16 = .ok (.iconst (-1), 1) := by decide +kernel
theorem dX12_stores_17 : decode cX12_stores 17 = .ok (.istore 5, 2) := by decide +kernel
theorem dX12_stores_19 : decode cX12_stores 19 = .ok (.aload_n 0, 1) := by decide +kernel
theorem dX12_stores_20 : decode cX12_stores 20 = .ok (.getfield 340, 3) := by decide +kernel
theorem dX12_stores_23 : decode cX12_stores 23 = .ok (.ifCond .ne 56, 3) := by decide +kernel
theorem dX12_stores_26 : decode cX12_stores 26 = .ok (.aload_n 0, 1) := by decide +kernel
theorem dX12_stores_27 : decode cX12_stores 27 = .ok (.bipush 46, 2) := by decide +kernel
theorem dX12_stores_29 : decode cX12_stores 29 = .ok (.invokevirtual 218, 3) := by decide +kernel
theorem dX12_stores_32 : decode cX12_stores 32 = .ok (.ifCond .eq 47, 3) := by decide +kernel
theorem dX12_stores_35 : decode cX12_stores 35 = .ok (.aload_n 0, 1) := by decide +kernel
theorem dX12_stores_36 : decode cX12_stores 36 = .ok (.aload_n 0, 1) := by decide +kernel
theorem dX12_stores_37 : decode cX12_stores 37 = .ok (.getfield 78, 3) := by decide +kernel
theorem dX12_stores_40 : decode cX12_stores 40 = .ok (.iload 4, 2) := by decide +kernel
theorem dX12_stores_42 : decode cX12_stores 42 = .ok (.invokestatic 240, 3) := by decide +kernel
theorem dX12_stores_45 : decode cX12_stores 45 = .ok (.aload_n 0, 1) := by decide +kernel
theorem dX12_stores_46 : decode cX12_stores 46 = .ok (.getfield 78, 3) := by decide +kernel
theorem dX12_stores_49 : decode cX12_stores 49 = .ok (.iload 4, 2) := by decide +kernel
theorem dX12_stores_51 : decode cX12_stores 51 = .ok (.invokestatic 244, 3) := by decide +kernel
theorem dX12_stores_54 : decode cX12_stores 54 = .ok (.invokevirtual 622, 3) := by decide +kernel
theorem dX12_stores_57 : decode cX12_stores 57 = .ok (.aload_n 0, 1) := by decide +kernel
theorem dX12_stores_58 : decode cX12_stores 58 = .ok (.iconst 0, 1) := by decide +kernel
theorem dX12_stores_59 : decode cX12_stores 59 = .ok (.sipush 999, 3) := by decide +kernel
theorem dX12_stores_62 : decode cX12_stores 62 = .ok (.invokevirtual 276, 3) := by decide +kernel
theorem dX12_stores_65 : decode cX12_stores 65 = .ok (.istore 5, 2) := by decide +kernel
theorem dX12_stores_67 : decode cX12_stores 67 = .ok (.aload_n 0, 1) := by decide +kernel
theorem dX12_stores_68 : decode cX12_stores 68 = .ok (.iload 5, 2) := by decide +kernel
theorem dX12_stores_70 : decode cX12_stores 70 = .ok (.iload_n 1, 1) := by decide +kernel
theorem dX12_stores_71 : decode cX12_stores 71 = .ok (.invokevirtual 625, 3) := by decide +kernel
theorem dX12_stores_74 : decode cX12_stores 74 = .ok (.istore 4, 2) := by decide +kernel
theorem dX12_stores_76 : decode cX12_stores 76 = .ok (.goto (-57), 3) := by decide +kernel
theorem dX12_stores_79 : decode cX12_stores 79 = .ok (.aload_n 0, 1) := by decide +kernel
theorem dX12_stores_80 : decode cX12_stores 80 = .ok (.getfield 340, 3) := by decide +kernel
theorem dX12_stores_83 : decode cX12_stores 83 = .ok (.ifCond .eq 4, 3) := by decide +kernel
theorem dX12_stores_86 : decode cX12_stores 86 = .ok (.return_, 1) := by decide +kernel
theorem dX12_stores_87 : decode cX12_stores 87 = .ok (.iload 5, 2) := by decide +kernel
theorem dX12_stores_89 : decode cX12_stores 89 = .ok (.iconst (-1), 1) := by decide +kernel
theorem dX12_stores_90 : decode cX12_stores 90 = .ok (.if_icmp .eq 44, 3) := by decide +kernel
theorem dX12_stores_93 : decode cX12_stores 93 = .ok (.iload_n 2, 1) := by decide +kernel
theorem dX12_stores_94 : decode cX12_stores 94 = .ok (.aload_n 0, 1) := by decide +kernel
theorem dX12_stores_95 : decode cX12_stores 95 = .ok (.aload_n 0, 1) := by decide +kernel
theorem dX12_stores_96 : decode cX12_stores 96 = .ok (.getfield 78, 3) := by decide +kernel
theorem dX12_stores_99 : decode cX12_stores 99 = .ok (.iload 4, 2) := by decide +kernel
theorem dX12_stores_101 : decode cX12_stores 101 = .ok (.iconst 1, 1) := by decide +kernel
theorem dX12_stores_102 : decode cX12_stores 102 = .ok (.isub, 1) := by decide +kernel
theorem dX12_stores_103 : decode cX12_stores 103 = .ok (.iload 5, 2) := by decide +kernel
theorem dX12_stores_105 : decode cX12_stores 105 = .ok (.isub, 1) := by decide +kernel
theorem dX12_stores_106 : decode cX12_stores 106 = .ok (.invokestatic 244, 3) := by decide +kernel
theorem dX12_stores_109 : decode cX12_stores 109 = .ok (.iload 5, 2) := by decide +kernel
theorem dX12_stores_111 : decode cX12_stores 111 = .ok (.invokevirtual 356, 3) := by decide +kernel
theorem dX12_stores_114 : decode cX12_stores 114 = .ok (.ifCond .ne 7, 3) := by decide +kernel
theorem dX12_stores_117 : decode cX12_stores 117 = .ok (.iconst 0, 1) := by decide +kernel
theorem dX12_stores_118 : decode cX12_stores 118 = .ok (.goto 4, 3) := by decide +kernel
theorem dX12_stores_121 : decode cX12_stores 121 = .ok (.iconst 1, 1) := by decide +kernel
theorem dX12_stores_122 : decode cX12_stores 122 = .ok (.if_icmp .eq 12, 3) := by decide +kernel
theorem dX12_stores_125 : decode cX12_stores 125 = .ok (.aload_n 0, 1) := by decide +kernel
theorem dX12_stores_126 : decode cX12_stores 126 = .ok (.iconst 3, 1) := by decide +kernel
theorem dX12_stores_127 : decode cX12_stores 127 = .ok (.iload_n 1, 1) := by decide +kernel
theorem dX12_stores_128 : decode cX12_stores 128 = .ok (.invokevirtual 616, 3) := by decide +kernel
theorem dX12_stores_131 : decode cX12_stores 131 = .ok (.goto 14, 3) := by decide +kernel
theorem dX12_stores_134 : decode cX12_stores 134 = .ok (.aload_n 0, 1) := by decide +kernel
theorem dX12_stores_135 : decode cX12_stores 135 = .ok (.getfield 78, 3) := by decide +kernel
theorem dX12_stores_138 : decode cX12_stores 138 = .ok (.iload 4, 2) := by decide +kernel
theorem dX12_stores_140 : decode cX12_stores 140 = .ok (.iload_n 2, 1) := by decide +kernel
theorem dX12_stores_141 : decode cX12_stores 141 = .ok (.iload_n 3, 1) := by decide +kernel
theorem dX12_stores_142 : decode cX12_stores 142 = .ok (.invokestatic 247, 3) := by decide +kernel
theorem dX12_stores_145 : decode cX12_stores 145 = .ok (.return_, 1) := by decide +kernel
theorem dX12_takenTaken_0 : decode cX12_takenTaken 0 = .ok (.aload_n 0, 1) := by decide +kernel
theorem dX12_takenTaken_1 : decode cX12_takenTaken 1 = .ok (.invokevirtual 224, 3) := by decide +kernel
theorem dX12_takenTaken_4 : decode cX12_takenTaken 4 = .ok (.ifCond .eq 17, 3) := by decide +kernel
theorem dX12_takenTaken_7 : decode cX12_takenTaken 7 = .ok (.aload_n 0, 1) := by decide +kernel
theorem dX12_takenTaken_8 : decode cX12_takenTaken 8 = .ok (.iconst 0, 1) := by decide +kernel
theorem dX12_takenTaken_9 : decode cX12_takenTaken 9 = .ok (.aload_n 0, 1) := by decide +kernel
theorem dX12_takenTaken_10 : decode cX12_takenTaken 10 = .ok (.iconst 0, 1) := by decide +kernel
theorem dX12_takenTaken_11 : decode cX12_takenTaken 11 = .ok (.sipush 999, 3) := by decide +kernel
theorem dX12_takenTaken_14 : decode cX12_takenTaken 14 = .ok (.invokevirtual 276, 3) := by decide +kernel
theorem dX12_takenTaken_17 : decode cX12_takenTaken 17 = .ok (.invokevirtual 622, 3) := by decide +kernel
theorem dX12_takenTaken_20 : decode cX12_takenTaken 20 = .ok (.return_, 1) := by decide +kernel
theorem dX12_takenTaken_21 : decode cX12_takenTaken 21 = .ok (.aload_n 0, 1) := by decide +kernel
theorem dX12_takenTaken_22 : decode cX12_takenTaken 22 = .ok (.aload_n 0, 1) := by decide +kernel
theorem dX12_takenTaken_23 : decode cX12_takenTaken 23 = .ok (.getfield 48, 3) := by decide +kernel
theorem dX12_takenTaken_26 : decode cX12_takenTaken 26 = .ok (.invokevirtual 211, 3) := by decide +kernel
theorem dX12_takenTaken_29 : decode cX12_takenTaken 29 = .ok (.ifCond .eq 10, 3) := by decide +kernel
theorem dX12_takenTaken_32 : decode cX12_takenTaken 32 = .ok (.aload_n 0, 1) := by decide +kernel
theorem dX12_takenTaken_33 : decode cX12_takenTaken 33 = .ok (.iconst 1, 1) := by decide +kernel
theorem dX12_takenTaken_34 : decode cX12_takenTaken 34 = .ok (.iconst (-1), 1) := by decide +kernel
theorem dX12_takenTaken_35 : decode cX12_takenTaken 35 = .ok (.invokevirtual 622, 3) := by decide +kernel
theorem dX12_takenTaken_38 : decode cX12_takenTaken 38 = .ok (.return_, 1) := by decide +kernel
theorem dX12_takenTaken_39 : decode cX12_takenTaken 39 = .ok (.aload_n 0, 1) := by decide +kernel
theorem dX12_takenTaken_40 : decode cX12_takenTaken 40 = .ok (.iload_n 1, 1) := by decide +kernel
theorem dX12_takenTaken_41 : decode cX12_takenTaken 41 = .ok (.invokevirtual 628, 3) := by decide +kernel
theorem dX12_takenTaken_44 : decode cX12_takenTaken 44 = .ok (.aload_n 0, 1) := by decide +kernel
theorem dX12_takenTaken_45 : decode cX12_takenTaken 45 = .ok (.bipush 43, 2) := by decide +kernel
theorem dX12_takenTaken_47 : decode cX12_takenTaken 47 = .ok (.invokevirtual 218, 3) := by decide +kernel
theorem dX12_takenTaken_50 : decode cX12_takenTaken 50 = .ok (.ifCond .eq 19, 3) := by decide +kernel
theorem dX12_takenTaken_53 : decode cX12_takenTaken 53 = .ok (.aload_n 0, 1) := by decide +kernel
theorem dX12_takenTaken_54 : decode cX12_takenTaken 54 = .ok (.aload_n 0, 1) := by decide +kernel
theorem dX12_takenTaken_55 : decode cX12_takenTaken 55 = .ok (.iconst 0, 1) := by decide +kernel
theorem dX12_takenTaken_56 : decode cX12_takenTaken 56 = .ok (.sipush 999, 3) := by decide +kernel
theorem dX12_takenTaken_59 : decode cX12_takenTaken 59 = .ok (.invokevirtual 276, 3) := by decide +kernel
theorem dX12_takenTaken_62 : decode cX12_takenTaken 62 = .ok (.iload_n 1, 1) := by decide +kernel
theorem dX12_takenTaken_63 : decode cX12_takenTaken 63 = .ok (.invokevirtual 631, 3) := by decide +kernel
theorem dX12_takenTaken_66 : decode cX12_takenTaken 66 = .ok (.goto 26, 3) := by decide +kernel
theorem dX12_takenTaken_69 : decode cX12_takenTaken 69 = .ok (.aload_n 0, 1) := by decide +kernel
theorem dX12_takenTaken_70 : decode cX12_takenTaken 70 = .ok (.bipush 45, 2) := by decide +kernel
theorem dX12_takenTaken_72 : decode cX12_takenTaken 72 = .ok (.invokevirtual 218, 3) := by decide +kernel
theorem dX12_takenTaken_75 : decode cX12_takenTaken 75 = .ok (.ifCond .eq 17, 3) := by decide +kernel
theorem dX12_takenTaken_78 : decode cX12_takenTaken 78 = .ok (.aload_n 0, 1) := by decide +kernel
theorem dX12_takenTaken_79 : decode cX12_takenTaken 79 = .ok (.aload_n 0, 1) := by decide +kernel
theorem dX12_takenTaken_80 : decode cX12_takenTaken 80 = .ok (.iconst 0, 1) := by decide +kernel
theorem dX12_takenTaken_81 : decode cX12_takenTaken 81 = .ok (.sipush 999, 3) := by decide +kernel
theorem dX12_takenTaken_84 : decode cX12_takenTaken 84 = .ok (.invokevirtual 276, 3) := by decide +kernel
theorem dX12_takenTaken_87 : decode cX12_takenTaken 87 = .ok (.ineg, 1) := by decide +kernel
theorem dX12_takenTaken_88 : decode cX12_takenTaken 88 = .ok (.iload_n 1, 1) := by decide +kernel
theorem dX12_takenTaken_89 : decode cX12_takenTaken 89 = .ok (.invokevirtual 631, 3) := by decide +kernel
theorem dX12_takenTaken_92 : decode cX12_takenTaken 92 = .ok (.return_, 1) := by decide +kernel
theorem dX12_takenTold_0 : decode cX12_takenTold 0 = .ok (.aload_n 0, 1) := by decide +kernel
theorem dX12_takenTold_1 : decode cX12_takenTold 1 = .ok (.invokevirtual 224, 3) := by decide +kernel
theorem dX12_takenTold_4 : decode cX12_takenTold 4 = .ok (.ifCond .eq 13, 3) := by decide +kernel
theorem dX12_takenTold_7 : decode cX12_takenTold 7 = .ok (.aload_n 0, 1) := by decide +kernel
theorem dX12_takenTold_8 : decode cX12_takenTold 8 = .ok (.iconst 0, 1) := by decide +kernel
theorem dX12_takenTold_9 : decode cX12_takenTold 9 = .ok (.sipush 999, 3) := by decide +kernel
theorem dX12_takenTold_12 : decode cX12_takenTold 12 = .ok (.invokevirtual 276, 3) := by decide +kernel
theorem dX12_takenTold_15 : decode cX12_takenTold 15 = .ok (.pop, 1) := by decide +kernel
theorem dX12_takenTold_16 : decode cX12_takenTold 16 = .ok (.return_, 1) := by decide +kernel
theorem dX12_takenTold_17 : decode cX12_takenTold 17 = .ok (.aload_n 0, 1) := by decide +kernel
theorem dX12_takenTold_18 : decode cX12_takenTold 18 = .ok (.aload_n 0, 1) := by decide +kernel
theorem dX12_takenTold_19 : decode cX12_takenTold 19 = .ok (.getfield 48, 3) := by decide +kernel
theorem dX12_takenTold_22 : decode cX12_takenTold 22 = .ok (.invokevirtual 211, 3) := by decide +kernel
theorem dX12_takenTold_25 : decode cX12_takenTold 25 = .ok (.ifCond .eq 4, 3) := by decide +kernel
theorem dX12_takenTold_28 : decode cX12_takenTold 28 = .ok (.return_, 1) := by decide +kernel
theorem dX12_takenTold_29 : decode cX12_takenTold 29 = .ok (.aload_n 0, 1) := by decide +kernel
theorem dX12_takenTold_30 : decode cX12_takenTold 30 = .ok (.invokevirtual 580, 3) := by decide +kernel
theorem dX12_takenTold_33 : decode cX12_takenTold 33 = .ok (.aload_n 0, 1) := by decide +kernel
theorem dX12_takenTold_34 : decode cX12_takenTold 34 = .ok (.bipush 43, 2) := by decide +kernel
theorem dX12_takenTold_36 : decode cX12_takenTold 36 = .ok (.invokevirtual 218, 3) := by decide +kernel
theorem dX12_takenTold_39 : decode cX12_takenTold 39 = .ok (.ifCond .ne 12, 3) := by decide +kernel
theorem dX12_takenTold_42 : decode cX12_takenTold 42 = .ok (.aload_n 0, 1) := by decide +kernel
theorem dX12_takenTold_43 : decode cX12_takenTold 43 = .ok (.bipush 45, 2) := by decide +kernel
theorem dX12_takenTold_45 : decode cX12_takenTold 45 = .ok (.invokevirtual 218, 3) := by decide +kernel
theorem dX12_takenTold_48 : decode cX12_takenTold 48 = .ok (.ifCond .eq 12, 3) := by decide +kernel
theorem dX12_takenTold_51 : decode cX12_takenTold 51 = .ok (.aload_n 0, 1) := by decide +kernel
theorem dX12_takenTold_52 : decode cX12_takenTold 52 = .ok (.iconst 0, 1) := by decide +kernel
theorem dX12_takenTold_53 : decode cX12_takenTold 53 = .ok (.sipush 999, 3) := by decide +kernel
theorem dX12_takenTold_56 : decode cX12_takenTold 56 = .ok (.invokevirtual 276, 3) := by decide +kernel
theorem dX12_takenTold_59 : decode cX12_takenTold 59 = .ok (.pop, 1) := by decide +kernel
theorem dX12_takenTold_60 : decode cX12_takenTold 60 = .ok (.return_, 1) := by decide +kernel
theorem dX12_takes_0 : decode cX12_takes 0 = .ok (.aload_n 0, 1) := by decide +kernel
theorem dX12_takes_1 : decode cX12_takes 1 = .ok (.aload_n 1, 1) := by decide +kernel
theorem dX12_takes_2 : decode cX12_takes 2 = .ok (.invokevirtual 207, 3) := by decide +kernel
theorem dX12_takes_5 : decode cX12_takes 5 = .ok (.ifCond .ne 5, 3) := by decide +kernel
theorem dX12_takes_8 : decode cX12_takes 8 = .ok (.iconst 0, 1) := by decide +kernel
theorem dX12_takes_9 : decode cX12_takes 9 = .ok (.ireturn, 1) := by decide +kernel
theorem dX12_takes_10 : decode cX12_takes 10 = .ok (.aload_n 0, 1) := by decide +kernel
theorem dX12_takes_11 : decode cX12_takes 11 = .ok (.dup, 1) := by decide +kernel
theorem dX12_takes_12 : decode cX12_takes 12 = .ok (.getfield 188, 3) := by decide +kernel
theorem dX12_takes_15 : decode cX12_takes 15 = .ok (.aload_n 1, 1) := by decide +kernel
theorem dX12_takes_16 : decode cX12_takes 16 = .ok (.arraylength, 1) := by decide +kernel
theorem dX12_takes_17 : decode cX12_takes 17 = .ok (.iadd, 1) := by decide +kernel
theorem dX12_takes_18 : decode cX12_takes 18 = .ok (.putfield 188, 3) := by decide +kernel
theorem dX12_takes_21 : decode cX12_takes 21 = .ok (.aload_n 0, 1) := by decide +kernel
theorem dX12_takes_22 : decode cX12_takes 22 = .ok (.aload_n 0, 1) := by decide +kernel
theorem dX12_takes_23 : decode cX12_takes 23 = .ok (.getfield 188, 3) := by decide +kernel
theorem dX12_takes_26 : decode cX12_takes 26 = .ok (.putfield 191, 3) := by decide +kernel
theorem dX12_takes_29 : decode cX12_takes 29 = .ok (.iconst 1, 1) := by decide +kernel
theorem dX12_takes_30 : decode cX12_takes 30 = .ok (.ireturn, 1) := by decide +kernel
theorem dX12_takesOver_0 : decode cX12_takesOver 0 = .ok (.aload_n 0, 1) := by decide +kernel
theorem dX12_takesOver_1 : decode cX12_takesOver 1 = .ok (.iload_n 1, 1) := by decide +kernel
theorem dX12_takesOver_2 : decode cX12_takesOver 2 = .ok (.aload_n 0, 1) := by decide +kernel
theorem dX12_takesOver_3 : decode cX12_takesOver 3 = .ok (.iload_n 2, 1) := by decide +kernel
theorem dX12_takesOver_4 : decode cX12_takesOver 4 = .ok (.invokestatic 240, 3) := by decide +kernel
theorem dX12_takesOver_7 : decode cX12_takesOver 7 = .ok (.aload_n 0, 1) := by decide +kernel
theorem dX12_takesOver_8 : decode cX12_takesOver 8 = .ok (.iload_n 2, 1) := by decide +kernel
theorem dX12_takesOver_9 : decode cX12_takesOver 9 = .ok (.invokestatic 244, 3) := by decide +kernel
theorem dX12_takesOver_12 : decode cX12_takesOver 12 = .ok (.invokestatic 247, 3) := by decide +kernel
theorem dX12_takesOver_15 : decode cX12_takesOver 15 = .ok (.return_, 1) := by decide +kernel
theorem dX12_takesSign_0 : decode cX12_takesSign 0 = .ok (.aload_n 0, 1) := by decide +kernel
theorem dX12_takesSign_1 : decode cX12_takesSign 1 = .ok (.getfield 194, 3) := by decide +kernel
theorem dX12_takesSign_4 : decode cX12_takesSign 4 = .ok (.ifCond .ne 11, 3) := by decide +kernel
theorem dX12_takesSign_7 : decode cX12_takesSign 7 = .ok (.aload_n 0, 1) := by decide +kernel
theorem dX12_takesSign_8 : decode cX12_takesSign 8 = .ok (.invokevirtual 200, 3) := by decide +kernel
theorem dX12_takesSign_11 : decode cX12_takesSign 11 = .ok (.iload_n 1, 1) := by decide +kernel
theorem dX12_takesSign_12 : decode cX12_takesSign 12 = .ok (.if_icmp .eq 5, 3) := by decide +kernel
theorem dX12_takesSign_15 : decode cX12_takesSign 15 = .ok (.iconst 0, 1) := by decide +kernel
theorem dX12_takesSign_16 : decode cX12_takesSign 16 = .ok (.ireturn, 1) := by decide +kernel
theorem dX12_takesSign_17 : decode cX12_takesSign 17 = .ok (.aload_n 0, 1) := by decide +kernel
theorem dX12_takesSign_18 : decode cX12_takesSign 18 = .ok (.dup, 1) := by decide +kernel
theorem dX12_takesSign_19 : decode cX12_takesSign 19 = .ok (.getfield 188, 3) := by decide +kernel
theorem dX12_takesSign_22 : decode cX12_takesSign 22 = .ok (.iconst 1, 1) := by decide +kernel
theorem dX12_takesSign_23 : decode cX12_takesSign 23 = .ok (.iadd, 1) := by decide +kernel
theorem dX12_takesSign_24 : decode cX12_takesSign 24 = .ok (.putfield 188, 3) := by decide +kernel
theorem dX12_takesSign_27 : decode cX12_takesSign 27 = .ok (.iconst 1, 1) := by decide +kernel
theorem dX12_takesSign_28 : decode cX12_takesSign 28 = .ok (.ireturn, 1) := by decide +kernel
theorem dX12_takesValue_0 : decode cX12_takesValue 0 = .ok (.aload_n 0, 1) := by decide +kernel
theorem dX12_takesValue_1 : decode cX12_takesValue 1 = .ok (.iload_n 1, 1) := by decide +kernel
theorem dX12_takesValue_2 : decode cX12_takesValue 2 = .ok (.putfield 610, 3) := by decide +kernel
theorem dX12_takesValue_5 : decode cX12_takesValue 5 = .ok (.aload_n 0, 1) := by decide +kernel
theorem dX12_takesValue_6 : decode cX12_takesValue 6 = .ok (.iload_n 2, 1) := by decide +kernel
theorem dX12_takesValue_7 : decode cX12_takesValue 7 = .ok (.putfield 613, 3) := by decide +kernel
theorem dX12_takesValue_10 : decode cX12_takesValue 10 = .ok (.return_, 1) := by decide +kernel
theorem dX12_tells_0 : decode cX12_tells 0 = .ok (.aload_n 0, 1) := by decide +kernel
theorem dX12_tells_1 : decode cX12_tells 1 = .ok (.invokevirtual 452, 3) := by decide +kernel
theorem dX12_tells_4 : decode cX12_tells 4 = .ok (.ifCond .eq 13, 3) := by decide +kernel
theorem dX12_tells_7 : decode cX12_tells 7 = .ok (.iload_n 1, 1) := by decide +kernel
theorem dX12_tells_8 : decode cX12_tells 8 = .ok (.i2l, 1) := by decide +kernel
theorem dX12_tells_9 : decode cX12_tells 9 = .ok (.lconst 0, 1) := by decide +kernel
theorem dX12_tells_10 : decode cX12_tells 10 = .ok (.lconst 1, 1) := by decide +kernel
theorem dX12_tells_11 : decode cX12_tells 11 = .ok (.invokestatic 178, 3) := by decide +kernel
theorem dX12_tells_14 : decode cX12_tells 14 = .ok (.ifCond .ne 5, 3) := by decide +kernel
theorem dX12_tells_17 : decode cX12_tells 17 = .ok (.iconst (-1), 1) := by decide +kernel
theorem dX12_tells_18 : decode cX12_tells 18 = .ok (.ireturn, 1) := by decide +kernel
theorem dX12_tells_19 : decode cX12_tells 19 = .ok (.aload_n 0, 1) := by decide +kernel
theorem dX12_tells_20 : decode cX12_tells 20 = .ok (.invokevirtual 532, 3) := by decide +kernel
theorem dX12_tells_23 : decode cX12_tells 23 = .ok (.iconst (-1), 1) := by decide +kernel
theorem dX12_tells_24 : decode cX12_tells 24 = .ok (.istore_n 2, 1) := by decide +kernel
theorem dX12_tells_25 : decode cX12_tells 25 = .ok (.iconst 0, 1) := by decide +kernel
theorem dX12_tells_26 : decode cX12_tells 26 = .ok (.istore_n 3, 1) := by decide +kernel
theorem dX12_tells_27 : decode cX12_tells 27 = .ok (.iconst 0, 1) := by decide +kernel
theorem dX12_tells_28 : decode cX12_tells 28 = .ok (.istore 4, 2) := by decide +kernel
theorem dX12_tells_30 : decode cX12_tells 30 = .ok (.iload 4, 2) := by decide +kernel
theorem dX12_tells_32 : decode cX12_tells 32 = .ok (.aload_n 0, 1) := by decide +kernel
theorem dX12_tells_33 : decode cX12_tells 33 = .ok (.getfield 325, 3) := by decide +kernel
theorem dX12_tells_36 : decode cX12_tells 36 = .ok (.if_icmp .ge 44, 3) := by decide +kernel
theorem dX12_tells_39 : decode cX12_tells 39 = .ok (.aload_n 0, 1) := by decide +kernel
theorem dX12_tells_40 : decode cX12_tells 40 = .ok (.getfield 523, 3) := by decide +kernel
theorem dX12_tells_43 : decode cX12_tells 43 = .ok (.ifCond .le 37, 3) := by decide +kernel
theorem dX12_tells_46 : decode cX12_tells 46 = .ok (.aload_n 0, 1) := by decide +kernel
theorem dX12_tells_47 : decode cX12_tells 47 = .ok (.iload 4, 2) := by decide +kernel
theorem dX12_tells_49 : decode cX12_tells 49 = .ok (.invokevirtual 535, 3) := by decide +kernel
theorem dX12_tells_52 : decode cX12_tells 52 = .ok (.istore 5, 2) := by decide +kernel
theorem dX12_tells_54 : decode cX12_tells 54 = .ok (.iload_n 2, 1) := by decide +kernel
theorem dX12_tells_55 : decode cX12_tells 55 = .ok (.iconst (-1), 1) := by decide +kernel
theorem dX12_tells_56 : decode cX12_tells 56 = .ok (.if_icmp .eq 12, 3) := by decide +kernel
theorem dX12_tells_59 : decode cX12_tells 59 = .ok (.iload 5, 2) := by decide +kernel
theorem dX12_tells_61 : decode cX12_tells 61 = .ok (.iload_n 3, 1) := by decide +kernel
theorem dX12_tells_62 : decode cX12_tells 62 = .ok (.if_icmp .lt 6, 3) := by decide +kernel
theorem dX12_tells_65 : decode cX12_tells 65 = .ok (.goto 9, 3) := by decide +kernel
theorem dX12_tells_68 : decode cX12_tells 68 = .ok (.iload 4, 2) := by decide +kernel
theorem dX12_tells_70 : decode cX12_tells 70 = .ok (.istore_n 2, 1) := by decide +kernel
theorem dX12_tells_71 : decode cX12_tells 71 = .ok (.iload 5, 2) := by decide +kernel
theorem dX12_tells_73 : decode cX12_tells 73 = .ok (.istore_n 3, 1) := by decide +kernel
theorem dX12_tells_74 : decode cX12_tells 74 = .ok (.iinc 4 1, 3) := by decide +kernel
theorem dX12_tells_77 : decode cX12_tells 77 = .ok (.goto (-47), 3) := by decide +kernel
theorem dX12_tells_80 : decode cX12_tells 80 = .ok (.iload_n 2, 1) := by decide +kernel
theorem dX12_tells_81 : decode cX12_tells 81 = .ok (.iconst (-1), 1) := by decide +kernel
theorem dX12_tells_82 : decode cX12_tells 82 = .ok (.if_icmp .ne 7, 3) := by decide +kernel
theorem dX12_tells_85 : decode cX12_tells 85 = .ok (.iconst (-1), 1) := by decide +kernel
theorem dX12_tells_86 : decode cX12_tells 86 = .ok (.goto 12, 3) := by decide +kernel
theorem dX12_tells_89 : decode cX12_tells 89 = .ok (.iload_n 1, 1) := by decide +kernel
theorem dX12_tells_90 : decode cX12_tells 90 = .ok (.ifCond .ne 7, 3) := by decide +kernel
theorem dX12_tells_93 : decode cX12_tells 93 = .ok (.iload_n 2, 1) := by decide +kernel
theorem dX12_tells_94 : decode cX12_tells 94 = .ok (.goto 4, 3) := by decide +kernel
theorem dX12_tells_97 : decode cX12_tells 97 = .ok (.iload_n 3, 1) := by decide +kernel
theorem dX12_tells_98 : decode cX12_tells 98 = .ok (.ireturn, 1) := by decide +kernel
theorem dX12_then_0 : decode cX12_then 0 = .ok (.aload_n 0, 1) := by decide +kernel
theorem dX12_then_1 : decode cX12_then 1 = .ok (.invokevirtual 452, 3) := by decide +kernel
theorem dX12_then_4 : decode cX12_then 4 = .ok (.ifCond .eq 8, 3) := by decide +kernel
theorem dX12_then_7 : decode cX12_then 7 = .ok (.iload_n 1, 1) := by decide +kernel
theorem dX12_then_8 : decode cX12_then 8 = .ok (.iconst (-1), 1) := by decide +kernel
theorem dX12_then_9 : decode cX12_then 9 = .ok (.if_icmp .ge 5, 3) := by decide +kernel
theorem dX12_then_12 : decode cX12_then 12 = .ok (.iconst (-1), 1) := by decide +kernel
theorem dX12_then_13 : decode cX12_then 13 = .ok (.ireturn, 1) := by decide +kernel
theorem dX12_then_14 : decode cX12_then 14 = .ok (.aload_n 0, 1) := by decide +kernel
theorem dX12_then_15 : decode cX12_then 15 = .ok (.invokevirtual 532, 3) := by decide +kernel
theorem dX12_then_18 : decode cX12_then 18 = .ok (.iload_n 1, 1) := by decide +kernel
theorem dX12_then_19 : decode cX12_then 19 = .ok (.iconst (-1), 1) := by decide +kernel
theorem dX12_then_20 : decode cX12_then 20 = .ok (.if_icmp .ne 8, 3) := by decide +kernel
theorem dX12_then_23 : decode cX12_then 23 = .ok (.aload_n 0, 1) := by decide +kernel
theorem dX12_then_24 : decode cX12_then 24 = .ok (.getfield 523, 3) := by decide +kernel
theorem dX12_then_27 : decode cX12_then 27 = .ok (.ireturn, 1) := by decide +kernel
theorem dX12_then_28 : decode cX12_then 28 = .ok (.iconst 0, 1) := by decide +kernel
theorem dX12_then_29 : decode cX12_then 29 = .ok (.istore_n 2, 1) := by decide +kernel
theorem dX12_then_30 : decode cX12_then 30 = .ok (.iconst 0, 1) := by decide +kernel
theorem dX12_then_31 : decode cX12_then 31 = .ok (.istore_n 3, 1) := by decide +kernel
theorem dX12_then_32 : decode cX12_then 32 = .ok (.iload_n 3, 1) := by decide +kernel
theorem dX12_then_33 : decode cX12_then 33 = .ok (.aload_n 0, 1) := by decide +kernel
theorem dX12_then_34 : decode cX12_then 34 = .ok (.invokevirtual 526, 3) := by decide +kernel
theorem dX12_then_37 : decode cX12_then 37 = .ok (.if_icmp .gt 31, 3) := by decide +kernel
theorem dX12_then_40 : decode cX12_then 40 = .ok (.aload_n 0, 1) := by decide +kernel
theorem dX12_then_41 : decode cX12_then 41 = .ok (.getfield 130, 3) := by decide +kernel
theorem dX12_then_44 : decode cX12_then 44 = .ok (.iload_n 3, 1) := by decide +kernel
theorem dX12_then_45 : decode cX12_then 45 = .ok (.baload, 1) := by decide +kernel
theorem dX12_then_46 : decode cX12_then 46 = .ok (.ifCond .ne 6, 3) := by decide +kernel
theorem dX12_then_49 : decode cX12_then 49 = .ok (.goto 13, 3) := by decide +kernel
theorem dX12_then_52 : decode cX12_then 52 = .ok (.iload_n 2, 1) := by decide +kernel
theorem dX12_then_53 : decode cX12_then 53 = .ok (.iload_n 1, 1) := by decide +kernel
theorem dX12_then_54 : decode cX12_then 54 = .ok (.if_icmp .ne 5, 3) := by decide +kernel
theorem dX12_then_57 : decode cX12_then 57 = .ok (.iload_n 3, 1) := by decide +kernel
theorem dX12_then_58 : decode cX12_then 58 = .ok (.ireturn, 1) := by decide +kernel
theorem dX12_then_59 : decode cX12_then 59 = .ok (.iinc 2 1, 3) := by decide +kernel
theorem dX12_then_62 : decode cX12_then 62 = .ok (.iinc 3 1, 3) := by decide +kernel
theorem dX12_then_65 : decode cX12_then 65 = .ok (.goto (-33), 3) := by decide +kernel
theorem dX12_then_68 : decode cX12_then 68 = .ok (.iconst (-1), 1) := by decide +kernel
theorem dX12_then_69 : decode cX12_then 69 = .ok (.ireturn, 1) := by decide +kernel
theorem dX12_threads_0 : decode cX12_threads 0 = .ok (.aload_n 0, 1) := by decide +kernel
theorem dX12_threads_1 : decode cX12_threads 1 = .ok (.getfield 84, 3) := by decide +kernel
theorem dX12_threads_4 : decode cX12_threads 4 = .ok (.iload_n 1, 1) := by decide +kernel
theorem dX12_threads_5 : decode cX12_threads 5 = .ok (.invokestatic 349, 3) := by decide +kernel
theorem dX12_threads_8 : decode cX12_threads 8 = .ok (.ifCond .ne 4, 3) := by decide +kernel
theorem dX12_threads_11 : decode cX12_threads 11 = .ok (.return_, 1) := by decide +kernel
theorem dX12_threads_12 : decode cX12_threads 12 = .ok (.aload_n 0, 1) := by decide +kernel
theorem dX12_threads_13 : decode cX12_threads 13 = .ok (.getfield 84, 3) := by decide +kernel
theorem dX12_threads_16 : decode cX12_threads 16 = .ok (.iload_n 1, 1) := by decide +kernel
theorem dX12_threads_17 : decode cX12_threads 17 = .ok (.invokestatic 244, 3) := by decide +kernel
theorem dX12_threads_20 : decode cX12_threads 20 = .ok (.istore_n 2, 1) := by decide +kernel
theorem dX12_threads_21 : decode cX12_threads 21 = .ok (.aload_n 0, 1) := by decide +kernel
theorem dX12_threads_22 : decode cX12_threads 22 = .ok (.getfield 84, 3) := by decide +kernel
theorem dX12_threads_25 : decode cX12_threads 25 = .ok (.iload_n 1, 1) := by decide +kernel
theorem dX12_threads_26 : decode cX12_threads 26 = .ok (.iload_n 2, 1) := by decide +kernel
theorem dX12_threads_27 : decode cX12_threads 27 = .ok (.invokestatic 390, 3) := by decide +kernel
theorem dX12_threads_30 : decode cX12_threads 30 = .ok (.aload_n 0, 1) := by decide +kernel
theorem dX12_threads_31 : decode cX12_threads 31 = .ok (.getfield 84, 3) := by decide +kernel
theorem dX12_threads_34 : decode cX12_threads 34 = .ok (.iload_n 2, 1) := by decide +kernel
theorem dX12_threads_35 : decode cX12_threads 35 = .ok (.iconst 3, 1) := by decide +kernel
theorem dX12_threads_36 : decode cX12_threads 36 = .ok (.iload_n 1, 1) := by decide +kernel
theorem dX12_threads_37 : decode cX12_threads 37 = .ok (.invokestatic 247, 3) := by decide +kernel
theorem dX12_threads_40 : decode cX12_threads 40 = .ok (.return_, 1) := by decide +kernel
theorem dX12_twoAt_0 : decode cX12_twoAt 0 = .ok (.sipush 256, 3) := by decide +kernel
theorem dX12_twoAt_3 : decode cX12_twoAt 3 = .ok (.aload_n 0, 1) := by decide +kernel
theorem dX12_twoAt_4 : decode cX12_twoAt 4 = .ok (.getfield 7, 3) := by decide +kernel
theorem dX12_twoAt_7 : decode cX12_twoAt 7 = .ok (.iload_n 1, 1) := by decide +kernel
theorem dX12_twoAt_8 : decode cX12_twoAt 8 = .ok (.iaload, 1) := by decide +kernel
theorem dX12_twoAt_9 : decode cX12_twoAt 9 = .ok (.imul, 1) := by decide +kernel
theorem dX12_twoAt_10 : decode cX12_twoAt 10 = .ok (.aload_n 0, 1) := by decide +kernel
theorem dX12_twoAt_11 : decode cX12_twoAt 11 = .ok (.getfield 7, 3) := by decide +kernel
theorem dX12_twoAt_14 : decode cX12_twoAt 14 = .ok (.iload_n 1, 1) := by decide +kernel
theorem dX12_twoAt_15 : decode cX12_twoAt 15 = .ok (.iconst 1, 1) := by decide +kernel
theorem dX12_twoAt_16 : decode cX12_twoAt 16 = .ok (.iadd, 1) := by decide +kernel
theorem dX12_twoAt_17 : decode cX12_twoAt 17 = .ok (.iaload, 1) := by decide +kernel
theorem dX12_twoAt_18 : decode cX12_twoAt 18 = .ok (.iadd, 1) := by decide +kernel
theorem dX12_twoAt_19 : decode cX12_twoAt 19 = .ok (.sipush 1000, 3) := by decide +kernel
theorem dX12_twoAt_22 : decode cX12_twoAt 22 = .ok (.isub, 1) := by decide +kernel
theorem dX12_twoAt_23 : decode cX12_twoAt 23 = .ok (.ireturn, 1) := by decide +kernel
theorem dX12_undo_0 : decode cX12_undo 0 = .ok (.aload_n 0, 1) := by decide +kernel
theorem dX12_undo_1 : decode cX12_undo 1 = .ok (.getfield 331, 3) := by decide +kernel
theorem dX12_undo_4 : decode cX12_undo 4 = .ok (.ifCond .ne 9, 3) := by decide +kernel
theorem dX12_undo_7 : decode cX12_undo 7 = .ok (.aload_n 0, 1) := by decide +kernel
theorem dX12_undo_8 : decode cX12_undo 8 = .ok (.iconst 5, 1) := by decide +kernel
theorem dX12_undo_9 : decode cX12_undo 9 = .ok (.invokevirtual 172, 3) := by decide +kernel
theorem dX12_undo_12 : decode cX12_undo 12 = .ok (.ireturn, 1) := by decide +kernel
theorem dX12_undo_13 : decode cX12_undo 13 = .ok (.iconst 0, 1) := by decide +kernel
theorem dX12_undo_14 : decode cX12_undo 14 = .ok (.istore_n 1, 1) := by decide +kernel
theorem dX12_undo_15 : decode cX12_undo 15 = .ok (.iload_n 1, 1) := by decide +kernel
theorem dX12_undo_16 : decode cX12_undo 16 = .ok (.sipush 422, 3) := by decide +kernel
theorem dX12_undo_19 : decode cX12_undo 19 = .ok (.if_icmp .ge 30, 3) := by decide +kernel
theorem dX12_undo_22 : decode cX12_undo 22 = .ok (.aload_n 0, 1) := by decide +kernel
theorem dX12_undo_23 : decode cX12_undo 23 = .ok (.getfield 78, 3) := by decide +kernel
theorem dX12_undo_26 : decode cX12_undo 26 = .ok (.iload_n 1, 1) := by decide +kernel
theorem dX12_undo_27 : decode cX12_undo 27 = .ok (.aload_n 0, 1) := by decide +kernel
theorem dX12_undo_28 : decode cX12_undo 28 = .ok (.getfield 140, 3) := by decide +kernel
theorem dX12_undo_31 : decode cX12_undo 31 = .ok (.sipush 422, 3) := by decide +kernel
theorem dX12_undo_34 : decode cX12_undo 34 = .ok (.aload_n 0, 1) := by decide +kernel
theorem dX12_undo_35 : decode cX12_undo 35 = .ok (.getfield 538, 3) := by decide +kernel
theorem dX12_undo_38 : decode cX12_undo 38 = .ok (.imul, 1) := by decide +kernel
theorem dX12_undo_39 : decode cX12_undo 39 = .ok (.iload_n 1, 1) := by decide +kernel
theorem dX12_undo_40 : decode cX12_undo 40 = .ok (.iadd, 1) := by decide +kernel
theorem dX12_undo_41 : decode cX12_undo 41 = .ok (.iaload, 1) := by decide +kernel
theorem dX12_undo_42 : decode cX12_undo 42 = .ok (.iastore, 1) := by decide +kernel
theorem dX12_undo_43 : decode cX12_undo 43 = .ok (.iinc 1 1, 3) := by decide +kernel
theorem dX12_undo_46 : decode cX12_undo 46 = .ok (.goto (-31), 3) := by decide +kernel
theorem dX12_undo_49 : decode cX12_undo 49 = .ok (.aload_n 0, 1) := by decide +kernel
theorem dX12_undo_50 : decode cX12_undo 50 = .ok (.aload_n 0, 1) := by decide +kernel
theorem dX12_undo_51 : decode cX12_undo 51 = .ok (.getfield 538, 3) := by decide +kernel
theorem dX12_undo_54 : decode cX12_undo 54 = .ok (.bipush 20, 2) := by decide +kernel
theorem dX12_undo_56 : decode cX12_undo 56 = .ok (.iadd, 1) := by decide +kernel
theorem dX12_undo_57 : decode cX12_undo 57 = .ok (.iconst 1, 1) := by decide +kernel
theorem dX12_undo_58 : decode cX12_undo 58 = .ok (.isub, 1) := by decide +kernel
theorem dX12_undo_59 : decode cX12_undo 59 = .ok (.bipush 20, 2) := by decide +kernel
theorem dX12_undo_61 : decode cX12_undo 61 = .ok (.irem, 1) := by decide +kernel
theorem dX12_undo_62 : decode cX12_undo 62 = .ok (.putfield 538, 3) := by decide +kernel
theorem dX12_undo_65 : decode cX12_undo 65 = .ok (.aload_n 0, 1) := by decide +kernel
theorem dX12_undo_66 : decode cX12_undo 66 = .ok (.dup, 1) := by decide +kernel
theorem dX12_undo_67 : decode cX12_undo 67 = .ok (.getfield 331, 3) := by decide +kernel
theorem dX12_undo_70 : decode cX12_undo 70 = .ok (.iconst 1, 1) := by decide +kernel
theorem dX12_undo_71 : decode cX12_undo 71 = .ok (.isub, 1) := by decide +kernel
theorem dX12_undo_72 : decode cX12_undo 72 = .ok (.putfield 331, 3) := by decide +kernel
theorem dX12_undo_75 : decode cX12_undo 75 = .ok (.iconst 1, 1) := by decide +kernel
theorem dX12_undo_76 : decode cX12_undo 76 = .ok (.ireturn, 1) := by decide +kernel
theorem dX12_unthreads_0 : decode cX12_unthreads 0 = .ok (.aload_n 0, 1) := by decide +kernel
theorem dX12_unthreads_1 : decode cX12_unthreads 1 = .ok (.getfield 84, 3) := by decide +kernel
theorem dX12_unthreads_4 : decode cX12_unthreads 4 = .ok (.iload_n 1, 1) := by decide +kernel
theorem dX12_unthreads_5 : decode cX12_unthreads 5 = .ok (.invokestatic 240, 3) := by decide +kernel
theorem dX12_unthreads_8 : decode cX12_unthreads 8 = .ok (.iconst 3, 1) := by decide +kernel
theorem dX12_unthreads_9 : decode cX12_unthreads 9 = .ok (.if_icmp .ne 34, 3) := by decide +kernel
theorem dX12_unthreads_12 : decode cX12_unthreads 12 = .ok (.aload_n 0, 1) := by decide +kernel
theorem dX12_unthreads_13 : decode cX12_unthreads 13 = .ok (.getfield 84, 3) := by decide +kernel
theorem dX12_unthreads_16 : decode cX12_unthreads 16 = .ok (.iload_n 1, 1) := by decide +kernel
theorem dX12_unthreads_17 : decode cX12_unthreads 17 = .ok (.invokestatic 244, 3) := by decide +kernel
theorem dX12_unthreads_20 : decode cX12_unthreads 20 = .ok (.istore_n 3, 1) := by decide +kernel
theorem dX12_unthreads_21 : decode cX12_unthreads 21 = .ok (.aload_n 0, 1) := by decide +kernel
theorem dX12_unthreads_22 : decode cX12_unthreads 22 = .ok (.getfield 84, 3) := by decide +kernel
theorem dX12_unthreads_25 : decode cX12_unthreads 25 = .ok (.iload_n 1, 1) := by decide +kernel
theorem dX12_unthreads_26 : decode cX12_unthreads 26 = .ok (.iload_n 3, 1) := by decide +kernel
theorem dX12_unthreads_27 : decode cX12_unthreads 27 = .ok (.invokestatic 390, 3) := by decide +kernel
theorem dX12_unthreads_30 : decode cX12_unthreads 30 = .ok (.aload_n 0, 1) := by decide +kernel
theorem dX12_unthreads_31 : decode cX12_unthreads 31 = .ok (.getfield 84, 3) := by decide +kernel
theorem dX12_unthreads_34 : decode cX12_unthreads 34 = .ok (.iload_n 3, 1) := by decide +kernel
theorem dX12_unthreads_35 : decode cX12_unthreads 35 = .ok (.iconst 1, 1) := by decide +kernel
theorem dX12_unthreads_36 : decode cX12_unthreads 36 = .ok (.iload_n 2, 1) := by decide +kernel
theorem dX12_unthreads_37 : decode cX12_unthreads 37 = .ok (.invokestatic 247, 3) := by decide +kernel
theorem dX12_unthreads_40 : decode cX12_unthreads 40 = .ok (.goto (-40), 3) := by decide +kernel
theorem dX12_unthreads_43 : decode cX12_unthreads 43 = .ok (.return_, 1) := by decide +kernel
theorem dX12_way_0 : decode cX12_way 0 = .ok (.aload_n 0, 1) := by decide +kernel
theorem dX12_way_1 : decode cX12_way 1 = .ok (.iload_n 1, 1) := by decide +kernel
theorem dX12_way_2 : decode cX12_way 2 = .ok (.invokevirtual 455, 3) := by decide +kernel
theorem dX12_way_5 : decode cX12_way 5 = .ok (.ifCond .eq 15, 3) := by decide +kernel
theorem dX12_way_8 : decode cX12_way 8 = .ok (.aload_n 0, 1) := by decide +kernel
theorem dX12_way_9 : decode cX12_way 9 = .ok (.iload_n 1, 1) := by decide +kernel
theorem dX12_way_10 : decode cX12_way 10 = .ok (.invokevirtual 375, 3) := by decide +kernel
theorem dX12_way_13 : decode cX12_way 13 = .ok (.ifCond .eq 7, 3) := by decide +kernel
theorem dX12_way_16 : decode cX12_way 16 = .ok (.iload_n 2, 1) := by decide +kernel
theorem dX12_way_17 : decode cX12_way 17 = .ok (.ifCond .ge 5, 3) := by decide +kernel
theorem dX12_way_20 : decode cX12_way 20 = .ok (.iconst (-1), 1) := by decide +kernel
theorem dX12_way_21 : decode cX12_way 21 = .ok (.ireturn, 1) := by decide +kernel
theorem dX12_way_22 : decode cX12_way 22 = .ok (.aload_n 0, 1) := by decide +kernel
theorem dX12_way_23 : decode cX12_way 23 = .ok (.aload_n 0, 1) := by decide +kernel
theorem dX12_way_24 : decode cX12_way 24 = .ok (.getfield 90, 3) := by decide +kernel
theorem dX12_way_27 : decode cX12_way 27 = .ok (.iload_n 1, 1) := by decide +kernel
theorem dX12_way_28 : decode cX12_way 28 = .ok (.iaload, 1) := by decide +kernel
theorem dX12_way_29 : decode cX12_way 29 = .ok (.invokevirtual 470, 3) := by decide +kernel
theorem dX12_way_32 : decode cX12_way 32 = .ok (.aload_n 0, 1) := by decide +kernel
theorem dX12_way_33 : decode cX12_way 33 = .ok (.invokevirtual 473, 3) := by decide +kernel
theorem dX12_way_36 : decode cX12_way 36 = .ok (.istore_n 3, 1) := by decide +kernel
theorem dX12_way_37 : decode cX12_way 37 = .ok (.iload_n 2, 1) := by decide +kernel
theorem dX12_way_38 : decode cX12_way 38 = .ok (.ifCond .ne 5, 3) := by decide +kernel
theorem dX12_way_41 : decode cX12_way 41 = .ok (.iload_n 3, 1) := by decide +kernel
theorem dX12_way_42 : decode cX12_way 42 = .ok (.ireturn, 1) := by decide +kernel
theorem dX12_way_43 : decode cX12_way 43 = .ok (.aload_n 0, 1) := by decide +kernel
theorem dX12_way_44 : decode cX12_way 44 = .ok (.iload_n 3, 1) := by decide +kernel
theorem dX12_way_45 : decode cX12_way 45 = .ok (.bipush 8, 2) := by decide +kernel
theorem dX12_way_47 : decode cX12_way 47 = .ok (.isub, 1) := by decide +kernel
theorem dX12_way_48 : decode cX12_way 48 = .ok (.invokevirtual 359, 3) := by decide +kernel
theorem dX12_way_51 : decode cX12_way 51 = .ok (.istore 4, 2) := by decide +kernel
theorem dX12_way_53 : decode cX12_way 53 = .ok (.iconst 1, 1) := by decide +kernel
theorem dX12_way_54 : decode cX12_way 54 = .ok (.istore 5, 2) := by decide +kernel
theorem dX12_way_56 : decode cX12_way 56 = .ok (.aload_n 0, 1) := by decide +kernel
theorem dX12_way_57 : decode cX12_way 57 = .ok (.getfield 112, 3) := by decide +kernel
theorem dX12_way_60 : decode cX12_way 60 = .ok (.iload 4, 2) := by decide +kernel
theorem dX12_way_62 : decode cX12_way 62 = .ok (.iaload, 1) := by decide +kernel
theorem dX12_way_63 : decode cX12_way 63 = .ok (.ifCond .le 43, 3) := by decide +kernel
theorem dX12_way_66 : decode cX12_way 66 = .ok (.aload_n 0, 1) := by decide +kernel
theorem dX12_way_67 : decode cX12_way 67 = .ok (.iload 4, 2) := by decide +kernel
theorem dX12_way_69 : decode cX12_way 69 = .ok (.aload_n 0, 1) := by decide +kernel
theorem dX12_way_70 : decode cX12_way 70 = .ok (.getfield 112, 3) := by decide +kernel
theorem dX12_way_73 : decode cX12_way 73 = .ok (.iload 4, 2) := by decide +kernel
theorem dX12_way_75 : decode cX12_way 75 = .ok (.iaload, 1) := by decide +kernel
theorem dX12_way_76 : decode cX12_way 76 = .ok (.invokevirtual 467, 3) := by decide +kernel
theorem dX12_way_79 : decode cX12_way 79 = .ok (.istore 6, 2) := by decide +kernel
theorem dX12_way_81 : decode cX12_way 81 = .ok (.iload 5, 2) := by decide +kernel
theorem dX12_way_83 : decode cX12_way 83 = .ok (.iload_n 2, 1) := by decide +kernel
theorem dX12_way_84 : decode cX12_way 84 = .ok (.if_icmp .ne 6, 3) := by decide +kernel
theorem dX12_way_87 : decode cX12_way 87 = .ok (.iload 6, 2) := by decide +kernel
theorem dX12_way_89 : decode cX12_way 89 = .ok (.ireturn, 1) := by decide +kernel
theorem dX12_way_90 : decode cX12_way 90 = .ok (.aload_n 0, 1) := by decide +kernel
theorem dX12_way_91 : decode cX12_way 91 = .ok (.iload 4, 2) := by decide +kernel
theorem dX12_way_93 : decode cX12_way 93 = .ok (.iload 6, 2) := by decide +kernel
theorem dX12_way_95 : decode cX12_way 95 = .ok (.invokevirtual 369, 3) := by decide +kernel
theorem dX12_way_98 : decode cX12_way 98 = .ok (.istore 4, 2) := by decide +kernel
theorem dX12_way_100 : decode cX12_way 100 = .ok (.iinc 5 1, 3) := by decide +kernel
theorem dX12_way_103 : decode cX12_way 103 = .ok (.goto (-47), 3) := by decide +kernel
theorem dX12_way_106 : decode cX12_way 106 = .ok (.iconst (-1), 1) := by decide +kernel
theorem dX12_way_107 : decode cX12_way 107 = .ok (.ireturn, 1) := by decide +kernel
theorem dX12_weakOnes_0 : decode cX12_weakOnes 0 = .ok (.aload_n 0, 1) := by decide +kernel
theorem dX12_weakOnes_1 : decode cX12_weakOnes 1 = .ok (.iconst 0, 1) := by decide +kernel
theorem dX12_weakOnes_2 : decode cX12_weakOnes 2 = .ok (.putfield 399, 3) := by decide +kernel
theorem dX12_weakOnes_5 : decode cX12_weakOnes 5 = .ok (.iconst 0, 1) := by decide +kernel
theorem dX12_weakOnes_6 : decode cX12_weakOnes 6 = .ok (.istore_n 1, 1) := by decide +kernel
theorem dX12_weakOnes_7 : decode cX12_weakOnes 7 = .ok (.iload_n 1, 1) := by decide +kernel
theorem dX12_weakOnes_8 : decode cX12_weakOnes 8 = .ok (.aload_n 0, 1) := by decide +kernel
theorem dX12_weakOnes_9 : decode cX12_weakOnes 9 = .ok (.getfield 343, 3) := by decide +kernel
theorem dX12_weakOnes_12 : decode cX12_weakOnes 12 = .ok (.if_icmp .ge 111, 3) := by decide +kernel
theorem dX12_weakOnes_15 : decode cX12_weakOnes 15 = .ok (.iconst 0, 1) := by decide +kernel
theorem dX12_weakOnes_16 : decode cX12_weakOnes 16 = .ok (.istore_n 2, 1) := by decide +kernel
theorem dX12_weakOnes_17 : decode cX12_weakOnes 17 = .ok (.iload_n 2, 1) := by decide +kernel
theorem dX12_weakOnes_18 : decode cX12_weakOnes 18 = .ok (.aload_n 0, 1) := by decide +kernel
theorem dX12_weakOnes_19 : decode cX12_weakOnes 19 = .ok (.aload_n 0, 1) := by decide +kernel
theorem dX12_weakOnes_20 : decode cX12_weakOnes 20 = .ok (.iload_n 1, 1) := by decide +kernel
theorem dX12_weakOnes_21 : decode cX12_weakOnes 21 = .ok (.invokevirtual 353, 3) := by decide +kernel
theorem dX12_weakOnes_24 : decode cX12_weakOnes 24 = .ok (.invokevirtual 234, 3) := by decide +kernel
theorem dX12_weakOnes_27 : decode cX12_weakOnes 27 = .ok (.if_icmp .ge 90, 3) := by decide +kernel
theorem dX12_weakOnes_30 : decode cX12_weakOnes 30 = .ok (.aload_n 0, 1) := by decide +kernel
theorem dX12_weakOnes_31 : decode cX12_weakOnes 31 = .ok (.getfield 93, 3) := by decide +kernel
theorem dX12_weakOnes_34 : decode cX12_weakOnes 34 = .ok (.iload_n 1, 1) := by decide +kernel
theorem dX12_weakOnes_35 : decode cX12_weakOnes 35 = .ok (.baload, 1) := by decide +kernel
theorem dX12_weakOnes_36 : decode cX12_weakOnes 36 = .ok (.ifCond .eq 81, 3) := by decide +kernel
theorem dX12_weakOnes_39 : decode cX12_weakOnes 39 = .ok (.aload_n 0, 1) := by decide +kernel
theorem dX12_weakOnes_40 : decode cX12_weakOnes 40 = .ok (.getfield 87, 3) := by decide +kernel
theorem dX12_weakOnes_43 : decode cX12_weakOnes 43 = .ok (.iload_n 1, 1) := by decide +kernel
theorem dX12_weakOnes_44 : decode cX12_weakOnes 44 = .ok (.iaload, 1) := by decide +kernel
theorem dX12_weakOnes_45 : decode cX12_weakOnes 45 = .ok (.iconst 1, 1) := by decide +kernel
theorem dX12_weakOnes_46 : decode cX12_weakOnes 46 = .ok (.iadd, 1) := by decide +kernel
theorem dX12_weakOnes_47 : decode cX12_weakOnes 47 = .ok (.iload_n 2, 1) := by decide +kernel
theorem dX12_weakOnes_48 : decode cX12_weakOnes 48 = .ok (.iadd, 1) := by decide +kernel
theorem dX12_weakOnes_49 : decode cX12_weakOnes 49 = .ok (.istore_n 3, 1) := by decide +kernel
theorem dX12_weakOnes_50 : decode cX12_weakOnes 50 = .ok (.aload_n 0, 1) := by decide +kernel
theorem dX12_weakOnes_51 : decode cX12_weakOnes 51 = .ok (.aload_n 0, 1) := by decide +kernel
theorem dX12_weakOnes_52 : decode cX12_weakOnes 52 = .ok (.iload_n 1, 1) := by decide +kernel
theorem dX12_weakOnes_53 : decode cX12_weakOnes 53 = .ok (.invokevirtual 353, 3) := by decide +kernel
theorem dX12_weakOnes_56 : decode cX12_weakOnes 56 = .ok (.iload_n 2, 1) := by decide +kernel
theorem dX12_weakOnes_57 : decode cX12_weakOnes 57 = .ok (.invokevirtual 356, 3) := by decide +kernel
theorem dX12_weakOnes_60 : decode cX12_weakOnes 60 = .ok (.iconst 2, 1) := by decide +kernel
theorem dX12_weakOnes_61 : decode cX12_weakOnes 61 = .ok (.if_icmp .ne 50, 3) := by decide +kernel
theorem dX12_weakOnes_64 : decode cX12_weakOnes 64 = .ok (.aload_n 0, 1) := by decide +kernel
theorem dX12_weakOnes_65 : decode cX12_weakOnes 65 = .ok (.getfield 78, 3) := by decide +kernel
theorem dX12_weakOnes_68 : decode cX12_weakOnes 68 = .ok (.iload_n 3, 1) := by decide +kernel
theorem dX12_weakOnes_69 : decode cX12_weakOnes 69 = .ok (.invokestatic 349, 3) := by decide +kernel
theorem dX12_weakOnes_72 : decode cX12_weakOnes 72 = .ok (.ifCond .eq 39, 3) := by decide +kernel
theorem dX12_weakOnes_75 : decode cX12_weakOnes 75 = .ok (.aload_n 0, 1) := by decide +kernel
theorem dX12_weakOnes_76 : decode cX12_weakOnes 76 = .ok (.getfield 93, 3) := by decide +kernel
theorem dX12_weakOnes_79 : decode cX12_weakOnes 79 = .ok (.aload_n 0, 1) := by decide +kernel
theorem dX12_weakOnes_80 : decode cX12_weakOnes 80 = .ok (.iload_n 3, 1) := by decide +kernel
theorem dX12_weakOnes_81 : decode cX12_weakOnes 81 = .ok (.invokevirtual 359, 3) := by decide +kernel
theorem dX12_weakOnes_84 : decode cX12_weakOnes 84 = .ok (.baload, 1) := by decide +kernel
theorem dX12_weakOnes_85 : decode cX12_weakOnes 85 = .ok (.ifCond .eq 6, 3) := by decide +kernel
theorem dX12_weakOnes_88 : decode cX12_weakOnes 88 = .ok (.goto 23, 3) := by decide +kernel
theorem dX12_weakOnes_91 : decode cX12_weakOnes 91 = .ok (.aload_n 0, 1) := by decide +kernel
theorem dX12_weakOnes_92 : decode cX12_weakOnes 92 = .ok (.getfield 84, 3) := by decide +kernel
theorem dX12_weakOnes_95 : decode cX12_weakOnes 95 = .ok (.iload_n 3, 1) := by decide +kernel
theorem dX12_weakOnes_96 : decode cX12_weakOnes 96 = .ok (.iconst 1, 1) := by decide +kernel
theorem dX12_weakOnes_97 : decode cX12_weakOnes 97 = .ok (.iconst (-1), 1) := by decide +kernel
theorem dX12_weakOnes_98 : decode cX12_weakOnes 98 = .ok (.invokestatic 247, 3) := by decide +kernel
theorem dX12_weakOnes_101 : decode cX12_weakOnes 101 = .ok (.aload_n 0, 1) := by decide +kernel
theorem dX12_weakOnes_102 : decode cX12_weakOnes 102 = .ok (.dup, 1) := by decide +kernel
theorem dX12_weakOnes_103 : decode cX12_weakOnes 103 = .ok (.getfield 399, 3) := by decide +kernel
theorem dX12_weakOnes_106 : decode cX12_weakOnes 106 = .ok (.iconst 1, 1) := by decide +kernel
theorem dX12_weakOnes_107 : decode cX12_weakOnes 107 = .ok (.iadd, 1) := by decide +kernel
theorem dX12_weakOnes_108 : decode cX12_weakOnes 108 = .ok (.putfield 399, 3) := by decide +kernel
theorem dX12_weakOnes_111 : decode cX12_weakOnes 111 = .ok (.iinc 2 1, 3) := by decide +kernel
theorem dX12_weakOnes_114 : decode cX12_weakOnes 114 = .ok (.goto (-97), 3) := by decide +kernel
theorem dX12_weakOnes_117 : decode cX12_weakOnes 117 = .ok (.iinc 1 1, 3) := by decide +kernel
theorem dX12_weakOnes_120 : decode cX12_weakOnes 120 = .ok (.goto (-113), 3) := by decide +kernel
theorem dX12_weakOnes_123 : decode cX12_weakOnes 123 = .ok (.return_, 1) := by decide +kernel
theorem dX12_whenGoes_0 : decode cX12_whenGoes 0 = .ok (.aload_n 0, 1) := by decide +kernel
theorem dX12_whenGoes_1 : decode cX12_whenGoes 1 = .ok (.iload_n 1, 1) := by decide +kernel
theorem dX12_whenGoes_2 : decode cX12_whenGoes 2 = .ok (.invokevirtual 604, 3) := by decide +kernel
theorem dX12_whenGoes_5 : decode cX12_whenGoes 5 = .ok (.ifCond .ne 4, 3) := by decide +kernel
theorem dX12_whenGoes_8 : decode cX12_whenGoes 8 = .ok (.return_, 1) := by decide +kernel
theorem dX12_whenGoes_9 : decode cX12_whenGoes 9 = .ok (.aload_n 0, 1) := by decide +kernel
theorem dX12_whenGoes_10 : decode cX12_whenGoes 10 = .ok (.iload_n 1, 1) := by decide +kernel
theorem dX12_whenGoes_11 : decode cX12_whenGoes 11 = .ok (.invokevirtual 634, 3) := by decide +kernel
theorem dX12_whenGoes_14 : decode cX12_whenGoes 14 = .ok (.aload_n 0, 1) := by decide +kernel
theorem dX12_whenGoes_15 : decode cX12_whenGoes 15 = .ok (.getfield 610, 3) := by decide +kernel
theorem dX12_whenGoes_18 : decode cX12_whenGoes 18 = .ok (.istore_n 2, 1) := by decide +kernel
theorem dX12_whenGoes_19 : decode cX12_whenGoes 19 = .ok (.aload_n 0, 1) := by decide +kernel
theorem dX12_whenGoes_20 : decode cX12_whenGoes 20 = .ok (.getfield 613, 3) := by decide +kernel
theorem dX12_whenGoes_23 : decode cX12_whenGoes 23 = .ok (.istore_n 3, 1) := by decide +kernel
theorem dX12_whenGoes_24 : decode cX12_whenGoes 24 = .ok (.aload_n 0, 1) := by decide +kernel
theorem dX12_whenGoes_25 : decode cX12_whenGoes 25 = .ok (.bipush 61, 2) := by decide +kernel
theorem dX12_whenGoes_27 : decode cX12_whenGoes 27 = .ok (.invokevirtual 290, 3) := by decide +kernel
theorem dX12_whenGoes_30 : decode cX12_whenGoes 30 = .ok (.aload_n 0, 1) := by decide +kernel
theorem dX12_whenGoes_31 : decode cX12_whenGoes 31 = .ok (.getfield 340, 3) := by decide +kernel
theorem dX12_whenGoes_34 : decode cX12_whenGoes 34 = .ok (.ifCond .ne 8, 3) := by decide +kernel
theorem dX12_whenGoes_37 : decode cX12_whenGoes 37 = .ok (.aload_n 0, 1) := by decide +kernel
theorem dX12_whenGoes_38 : decode cX12_whenGoes 38 = .ok (.iload_n 1, 1) := by decide +kernel
theorem dX12_whenGoes_39 : decode cX12_whenGoes 39 = .ok (.invokevirtual 634, 3) := by decide +kernel
theorem dX12_whenGoes_42 : decode cX12_whenGoes 42 = .ok (.aload_n 0, 1) := by decide +kernel
theorem dX12_whenGoes_43 : decode cX12_whenGoes 43 = .ok (.getfield 340, 3) := by decide +kernel
theorem dX12_whenGoes_46 : decode cX12_whenGoes 46 = .ok (.ifCond .eq 4, 3) := by decide +kernel
theorem dX12_whenGoes_49 : decode cX12_whenGoes 49 = .ok (.return_, 1) := by decide +kernel
theorem dX12_whenGoes_50 : decode cX12_whenGoes 50 = .ok (.aload_n 0, 1) := by decide +kernel
theorem dX12_whenGoes_51 : decode cX12_whenGoes 51 = .ok (.bipush 91, 2) := by decide +kernel
theorem dX12_whenGoes_53 : decode cX12_whenGoes 53 = .ok (.invokevirtual 290, 3) := by decide +kernel
theorem dX12_whenGoes_56 : decode cX12_whenGoes 56 = .ok (.iload_n 2, 1) := by decide +kernel
theorem dX12_whenGoes_57 : decode cX12_whenGoes 57 = .ok (.aload_n 0, 1) := by decide +kernel
theorem dX12_whenGoes_58 : decode cX12_whenGoes 58 = .ok (.getfield 610, 3) := by decide +kernel
theorem dX12_whenGoes_61 : decode cX12_whenGoes 61 = .ok (.if_icmp .ne 20, 3) := by decide +kernel
theorem dX12_whenGoes_64 : decode cX12_whenGoes 64 = .ok (.iload_n 3, 1) := by decide +kernel
theorem dX12_whenGoes_65 : decode cX12_whenGoes 65 = .ok (.aload_n 0, 1) := by decide +kernel
theorem dX12_whenGoes_66 : decode cX12_whenGoes 66 = .ok (.getfield 613, 3) := by decide +kernel
theorem dX12_whenGoes_69 : decode cX12_whenGoes 69 = .ok (.if_icmp .ne 12, 3) := by decide +kernel
theorem dX12_whenGoes_72 : decode cX12_whenGoes 72 = .ok (.aload_n 0, 1) := by decide +kernel
theorem dX12_whenGoes_73 : decode cX12_whenGoes 73 = .ok (.iload_n 1, 1) := by decide +kernel
theorem dX12_whenGoes_74 : decode cX12_whenGoes 74 = .ok (.iconst 1, 1) := by decide +kernel
theorem dX12_whenGoes_75 : decode cX12_whenGoes 75 = .ok (.invokevirtual 637, 3) := by decide +kernel
theorem dX12_whenGoes_78 : decode cX12_whenGoes 78 = .ok (.goto 7, 3) := by decide +kernel
theorem dX12_whenGoes_81 : decode cX12_whenGoes 81 = .ok (.aload_n 0, 1) := by decide +kernel
theorem dX12_whenGoes_82 : decode cX12_whenGoes 82 = .ok (.invokevirtual 640, 3) := by decide +kernel
theorem dX12_whenGoes_85 : decode cX12_whenGoes 85 = .ok (.return_, 1) := by decide +kernel
theorem dX12_word_0 : decode cX12_word 0 = .ok (.aload_n 0, 1) := by decide +kernel
theorem dX12_word_1 : decode cX12_word 1 = .ok (.getfield 321, 3) := by decide +kernel
theorem dX12_word_4 : decode cX12_word 4 = .ok (.ifCond .eq 31, 3) := by decide +kernel
theorem dX12_word_7 : decode cX12_word 7 = .ok (.iload_n 1, 1) := by decide +kernel
theorem dX12_word_8 : decode cX12_word 8 = .ok (.i2l, 1) := by decide +kernel
theorem dX12_word_9 : decode cX12_word 9 = .ok (.ldc2_w 448, 3) := by decide +kernel
theorem dX12_word_12 : decode cX12_word 12 = .ok (.aload_n 0, 1) := by decide +kernel
theorem dX12_word_13 : decode cX12_word 13 = .ok (.getfield 325, 3) := by decide +kernel
theorem dX12_word_16 : decode cX12_word 16 = .ok (.iconst 1, 1) := by decide +kernel
theorem dX12_word_17 : decode cX12_word 17 = .ok (.isub, 1) := by decide +kernel
theorem dX12_word_18 : decode cX12_word 18 = .ok (.i2l, 1) := by decide +kernel
theorem dX12_word_19 : decode cX12_word 19 = .ok (.invokestatic 178, 3) := by decide +kernel
theorem dX12_word_22 : decode cX12_word 22 = .ok (.ifCond .eq 13, 3) := by decide +kernel
theorem dX12_word_25 : decode cX12_word 25 = .ok (.iload_n 2, 1) := by decide +kernel
theorem dX12_word_26 : decode cX12_word 26 = .ok (.i2l, 1) := by decide +kernel
theorem dX12_word_27 : decode cX12_word 27 = .ok (.lconst 0, 1) := by decide +kernel
theorem dX12_word_28 : decode cX12_word 28 = .ok (.lconst 1, 1) := by decide +kernel
theorem dX12_word_29 : decode cX12_word 29 = .ok (.invokestatic 178, 3) := by decide +kernel
theorem dX12_word_32 : decode cX12_word 32 = .ok (.ifCond .ne 7, 3) := by decide +kernel
theorem dX12_word_35 : decode cX12_word 35 = .ok (.ldc_w 414, 3) := by decide +kernel
theorem dX12_word_38 : decode cX12_word 38 = .ok (.ireturn, 1) := by decide +kernel
theorem dX12_word_39 : decode cX12_word 39 = .ok (.aload_n 0, 1) := by decide +kernel
theorem dX12_word_40 : decode cX12_word 40 = .ok (.getfield 78, 3) := by decide +kernel
theorem dX12_word_43 : decode cX12_word 43 = .ok (.iconst 3, 1) := by decide +kernel
theorem dX12_word_44 : decode cX12_word 44 = .ok (.iaload, 1) := by decide +kernel
theorem dX12_word_45 : decode cX12_word 45 = .ok (.ifCond .ne 15, 3) := by decide +kernel
theorem dX12_word_48 : decode cX12_word 48 = .ok (.aload_n 0, 1) := by decide +kernel
theorem dX12_word_49 : decode cX12_word 49 = .ok (.getfield 78, 3) := by decide +kernel
theorem dX12_word_52 : decode cX12_word 52 = .ok (.iload_n 1, 1) := by decide +kernel
theorem dX12_word_53 : decode cX12_word 53 = .ok (.invokestatic 237, 3) := by decide +kernel
theorem dX12_word_56 : decode cX12_word 56 = .ok (.iload_n 2, 1) := by decide +kernel
theorem dX12_word_57 : decode cX12_word 57 = .ok (.iadd, 1) := by decide +kernel
theorem dX12_word_58 : decode cX12_word 58 = .ok (.iaload, 1) := by decide +kernel
theorem dX12_word_59 : decode cX12_word 59 = .ok (.ireturn, 1) := by decide +kernel
theorem dX12_word_60 : decode cX12_word 60 = .ok (.aload_n 0, 1) := by decide +kernel
theorem dX12_word_61 : decode cX12_word 61 = .ok (.aload_n 0, 1) := by decide +kernel
theorem dX12_word_62 : decode cX12_word 62 = .ok (.getfield 78, 3) := by decide +kernel
theorem dX12_word_65 : decode cX12_word 65 = .ok (.iconst 4, 1) := by decide +kernel
theorem dX12_word_66 : decode cX12_word 66 = .ok (.iaload, 1) := by decide +kernel
theorem dX12_word_67 : decode cX12_word 67 = .ok (.invokevirtual 442, 3) := by decide +kernel
theorem dX12_word_70 : decode cX12_word 70 = .ok (.aload_n 0, 1) := by decide +kernel
theorem dX12_word_71 : decode cX12_word 71 = .ok (.getfield 84, 3) := by decide +kernel
theorem dX12_word_74 : decode cX12_word 74 = .ok (.iload_n 1, 1) := by decide +kernel
theorem dX12_word_75 : decode cX12_word 75 = .ok (.invokestatic 237, 3) := by decide +kernel
theorem dX12_word_78 : decode cX12_word 78 = .ok (.iload_n 2, 1) := by decide +kernel
theorem dX12_word_79 : decode cX12_word 79 = .ok (.iadd, 1) := by decide +kernel
theorem dX12_word_80 : decode cX12_word 80 = .ok (.iaload, 1) := by decide +kernel
theorem dX12_word_81 : decode cX12_word 81 = .ok (.ireturn, 1) := by decide +kernel
theorem dX12_wordsOf_0 : decode cX12_wordsOf 0 = .ok (.iconst 1, 1) := by decide +kernel
theorem dX12_wordsOf_1 : decode cX12_wordsOf 1 = .ok (.aload_n 0, 1) := by decide +kernel
theorem dX12_wordsOf_2 : decode cX12_wordsOf 2 = .ok (.iload_n 1, 1) := by decide +kernel
theorem dX12_wordsOf_3 : decode cX12_wordsOf 3 = .ok (.invokevirtual 234, 3) := by decide +kernel
theorem dX12_wordsOf_6 : decode cX12_wordsOf 6 = .ok (.iadd, 1) := by decide +kernel
theorem dX12_wordsOf_7 : decode cX12_wordsOf 7 = .ok (.ireturn, 1) := by decide +kernel
theorem dX12_writes_0 : decode cX12_writes 0 = .ok (.aload_n 0, 1) := by decide +kernel
theorem dX12_writes_1 : decode cX12_writes 1 = .ok (.getfield 162, 3) := by decide +kernel
theorem dX12_writes_4 : decode cX12_writes 4 = .ok (.aload_n 0, 1) := by decide +kernel
theorem dX12_writes_5 : decode cX12_writes 5 = .ok (.getfield 667, 3) := by decide +kernel
theorem dX12_writes_8 : decode cX12_writes 8 = .ok (.iload_n 1, 1) := by decide +kernel
theorem dX12_writes_9 : decode cX12_writes 9 = .ok (.iastore, 1) := by decide +kernel
theorem dX12_writes_10 : decode cX12_writes 10 = .ok (.aload_n 0, 1) := by decide +kernel
theorem dX12_writes_11 : decode cX12_writes 11 = .ok (.dup, 1) := by decide +kernel
theorem dX12_writes_12 : decode cX12_writes 12 = .ok (.getfield 667, 3) := by decide +kernel
theorem dX12_writes_15 : decode cX12_writes 15 = .ok (.iconst 1, 1) := by decide +kernel
theorem dX12_writes_16 : decode cX12_writes 16 = .ok (.iadd, 1) := by decide +kernel
theorem dX12_writes_17 : decode cX12_writes 17 = .ok (.putfield 667, 3) := by decide +kernel
theorem dX12_writes_20 : decode cX12_writes 20 = .ok (.return_, 1) := by decide +kernel
theorem dX12_writesWord_0 : decode cX12_writesWord 0 = .ok (.aload_n 0, 1) := by decide +kernel
theorem dX12_writesWord_1 : decode cX12_writesWord 1 = .ok (.getfield 78, 3) := by decide +kernel
theorem dX12_writesWord_4 : decode cX12_writesWord 4 = .ok (.iload_n 1, 1) := by decide +kernel
theorem dX12_writesWord_5 : decode cX12_writesWord 5 = .ok (.invokestatic 244, 3) := by decide +kernel
theorem dX12_writesWord_8 : decode cX12_writesWord 8 = .ok (.sipush 1000, 3) := by decide +kernel
theorem dX12_writesWord_11 : decode cX12_writesWord 11 = .ok (.iadd, 1) := by decide +kernel
theorem dX12_writesWord_12 : decode cX12_writesWord 12 = .ok (.istore_n 2, 1) := by decide +kernel
theorem dX12_writesWord_13 : decode cX12_writesWord 13 = .ok (.aload_n 0, 1) := by decide +kernel
theorem dX12_writesWord_14 : decode cX12_writesWord 14 = .ok (.aload_n 0, 1) := by decide +kernel
theorem dX12_writesWord_15 : decode cX12_writesWord 15 = .ok (.getfield 78, 3) := by decide +kernel
theorem dX12_writesWord_18 : decode cX12_writesWord 18 = .ok (.iload_n 1, 1) := by decide +kernel
theorem dX12_writesWord_19 : decode cX12_writesWord 19 = .ok (.invokestatic 240, 3) := by decide +kernel
theorem dX12_writesWord_22 : decode cX12_writesWord 22 = .ok (.invokevirtual 670, 3) := by decide +kernel
theorem dX12_writesWord_25 : decode cX12_writesWord 25 = .ok (.aload_n 0, 1) := by decide +kernel
theorem dX12_writesWord_26 : decode cX12_writesWord 26 = .ok (.iload_n 2, 1) := by decide +kernel
theorem dX12_writesWord_27 : decode cX12_writesWord 27 = .ok (.sipush 256, 3) := by decide +kernel
theorem dX12_writesWord_30 : decode cX12_writesWord 30 = .ok (.idiv, 1) := by decide +kernel
theorem dX12_writesWord_31 : decode cX12_writesWord 31 = .ok (.invokevirtual 670, 3) := by decide +kernel
theorem dX12_writesWord_34 : decode cX12_writesWord 34 = .ok (.aload_n 0, 1) := by decide +kernel
theorem dX12_writesWord_35 : decode cX12_writesWord 35 = .ok (.iload_n 2, 1) := by decide +kernel
theorem dX12_writesWord_36 : decode cX12_writesWord 36 = .ok (.sipush 256, 3) := by decide +kernel
theorem dX12_writesWord_39 : decode cX12_writesWord 39 = .ok (.irem, 1) := by decide +kernel
theorem dX12_writesWord_40 : decode cX12_writesWord 40 = .ok (.invokevirtual 670, 3) := by decide +kernel
theorem dX12_writesWord_43 : decode cX12_writesWord 43 = .ok (.return_, 1) := by decide +kernel
theorem dX1_cellNamed_0 : decode cX1_cellNamed 0 = .ok (.iconst 0, 1) := by decide +kernel
theorem dX1_cellNamed_1 : decode cX1_cellNamed 1 = .ok (.istore_n 3, 1) := by decide +kernel
theorem dX1_cellNamed_2 : decode cX1_cellNamed 2 = .ok (.iload_n 3, 1) := by decide +kernel
theorem dX1_cellNamed_3 : decode cX1_cellNamed 3 = .ok (.aload_n 0, 1) := by decide +kernel
theorem dX1_cellNamed_4 : decode cX1_cellNamed 4 = .ok (.getfield 19, 3) := by decide +kernel
theorem dX1_cellNamed_7 : decode cX1_cellNamed 7 = .ok (.if_icmp .ge 27, 3) := by decide +kernel
theorem dX1_cellNamed_10 : decode cX1_cellNamed 10 = .ok (.aload_n 0, 1) := by decide +kernel
theorem dX1_cellNamed_11 : decode cX1_cellNamed 11 = .ok (.getfield 9, 3) := by decide +kernel
theorem dX1_cellNamed_14 : decode cX1_cellNamed 14 = .ok (.iload_n 3, 1) := by decide +kernel
theorem dX1_cellNamed_15 : decode cX1_cellNamed 15 = .ok (.laload, 1) := by decide +kernel
theorem dX1_cellNamed_16 : decode cX1_cellNamed 16 = .ok (.lload_n 1, 1) := by decide +kernel
theorem dX1_cellNamed_17 : decode cX1_cellNamed 17 = .ok (.lcmp, 1) := by decide +kernel
theorem dX1_cellNamed_18 : decode cX1_cellNamed 18 = .ok (.ifCond .ne 10, 3) := by decide +kernel
theorem dX1_cellNamed_21 : decode cX1_cellNamed 21 = .ok (.aload_n 0, 1) := by decide +kernel
theorem dX1_cellNamed_22 : decode cX1_cellNamed 22 = .ok (.getfield 15, 3) := by decide +kernel
theorem dX1_cellNamed_25 : decode cX1_cellNamed 25 = .ok (.iload_n 3, 1) := by decide +kernel
theorem dX1_cellNamed_26 : decode cX1_cellNamed 26 = .ok (.iaload, 1) := by decide +kernel
theorem dX1_cellNamed_27 : decode cX1_cellNamed 27 = .ok (.ireturn, 1) := by decide +kernel
theorem dX1_cellNamed_28 : decode cX1_cellNamed 28 = .ok (.iinc 3 1, 3) := by decide +kernel
theorem dX1_cellNamed_31 : decode cX1_cellNamed 31 = .ok (.goto (-29), 3) := by decide +kernel
theorem dX1_cellNamed_34 : decode cX1_cellNamed 34 = .ok (.iconst (-1), 1) := by decide +kernel
theorem dX1_cellNamed_35 : decode cX1_cellNamed 35 = .ok (.ireturn, 1) := by decide +kernel
theorem dX1_cellStatement_0 : decode cX1_cellStatement 0 = .ok (.aload_n 0, 1) := by decide +kernel
theorem dX1_cellStatement_1 : decode cX1_cellStatement 1 = .ok (.invokevirtual 109, 3) := by decide +kernel
theorem dX1_cellStatement_4 : decode cX1_cellStatement 4 = .ok (.ifCond .ne 5, 3) := by decide +kernel
theorem dX1_cellStatement_7 : decode cX1_cellStatement 7 = .ok (.iconst 0, 1) := by decide +kernel
theorem dX1_cellStatement_8 : decode cX1_cellStatement 8 = .ok (.ireturn, 1) := by decide +kernel
theorem dX1_cellStatement_9 : decode cX1_cellStatement 9 = .ok (.aload_n 0, 1) := by decide +kernel
theorem dX1_cellStatement_10 : decode cX1_cellStatement 10 = .ok (.getfield 29, 3) := by decide +kernel
theorem dX1_cellStatement_13 : decode cX1_cellStatement 13 = .ok (.getfield 115, 3) := by decide +kernel
theorem dX1_cellStatement_16 : decode cX1_cellStatement 16 = .ok (.lstore_n 1, 1) := by decide +kernel
theorem dX1_cellStatement_17 : decode cX1_cellStatement 17 = .ok (.aload_n 0, 1) := by decide +kernel
theorem dX1_cellStatement_18 : decode cX1_cellStatement 18 = .ok (.getfield 29, 3) := by decide +kernel
theorem dX1_cellStatement_21 : decode cX1_cellStatement 21 = .ok (.invokevirtual 68, 3) := by decide +kernel
theorem dX1_cellStatement_24 : decode cX1_cellStatement 24 = .ok (.ifCond .eq 13, 3) := by decide +kernel
theorem dX1_cellStatement_27 : decode cX1_cellStatement 27 = .ok (.aload_n 0, 1) := by decide +kernel
theorem dX1_cellStatement_28 : decode cX1_cellStatement 28 = .ok (.getfield 29, 3) := by decide +kernel
theorem dX1_cellStatement_31 : decode cX1_cellStatement 31 = .ok (.invokevirtual 128, 3) := by decide +kernel
theorem dX1_cellStatement_34 : decode cX1_cellStatement 34 = .ok (.ifCond .ne 5, 3) := by decide +kernel
theorem dX1_cellStatement_37 : decode cX1_cellStatement 37 = .ok (.iconst 0, 1) := by decide +kernel
theorem dX1_cellStatement_38 : decode cX1_cellStatement 38 = .ok (.ireturn, 1) := by decide +kernel
theorem dX1_cellStatement_39 : decode cX1_cellStatement 39 = .ok (.aload_n 0, 1) := by decide +kernel
theorem dX1_cellStatement_40 : decode cX1_cellStatement 40 = .ok (.getfield 33, 3) := by decide +kernel
theorem dX1_cellStatement_43 : decode cX1_cellStatement 43 = .ok (.aload_n 0, 1) := by decide +kernel
theorem dX1_cellStatement_44 : decode cX1_cellStatement 44 = .ok (.getfield 29, 3) := by decide +kernel
theorem dX1_cellStatement_47 : decode cX1_cellStatement 47 = .ok (.getfield 115, 3) := by decide +kernel
theorem dX1_cellStatement_50 : decode cX1_cellStatement 50 = .ok (.invokevirtual 131, 3) := by decide +kernel
theorem dX1_cellStatement_53 : decode cX1_cellStatement 53 = .ok (.istore_n 3, 1) := by decide +kernel
theorem dX1_cellStatement_54 : decode cX1_cellStatement 54 = .ok (.iload_n 3, 1) := by decide +kernel
theorem dX1_cellStatement_55 : decode cX1_cellStatement 55 = .ok (.iconst (-1), 1) := by decide +kernel
theorem dX1_cellStatement_56 : decode cX1_cellStatement 56 = .ok (.if_icmp .ne 19, 3) := by decide +kernel
theorem dX1_cellStatement_59 : decode cX1_cellStatement 59 = .ok (.aload_n 0, 1) := by decide +kernel
theorem dX1_cellStatement_60 : decode cX1_cellStatement 60 = .ok (.getfield 29, 3) := by decide +kernel
theorem dX1_cellStatement_63 : decode cX1_cellStatement 63 = .ok (.iconst 3, 1) := by decide +kernel
theorem dX1_cellStatement_64 : decode cX1_cellStatement 64 = .ok (.aload_n 0, 1) := by decide +kernel
theorem dX1_cellStatement_65 : decode cX1_cellStatement 65 = .ok (.getfield 29, 3) := by decide +kernel
theorem dX1_cellStatement_68 : decode cX1_cellStatement 68 = .ok (.getfield 82, 3) := by decide +kernel
theorem dX1_cellStatement_71 : decode cX1_cellStatement 71 = .ok (.invokevirtual 64, 3) := by decide +kernel
theorem dX1_cellStatement_74 : decode cX1_cellStatement 74 = .ok (.ireturn, 1) := by decide +kernel
theorem dX1_cellStatement_75 : decode cX1_cellStatement 75 = .ok (.aload_n 0, 1) := by decide +kernel
theorem dX1_cellStatement_76 : decode cX1_cellStatement 76 = .ok (.getfield 37, 3) := by decide +kernel
theorem dX1_cellStatement_79 : decode cX1_cellStatement 79 = .ok (.getfield 135, 3) := by decide +kernel
theorem dX1_cellStatement_82 : decode cX1_cellStatement 82 = .ok (.aload_n 0, 1) := by decide +kernel
theorem dX1_cellStatement_83 : decode cX1_cellStatement 83 = .ok (.getfield 33, 3) := by decide +kernel
theorem dX1_cellStatement_86 : decode cX1_cellStatement 86 = .ok (.getfield 125, 3) := by decide +kernel
theorem dX1_cellStatement_89 : decode cX1_cellStatement 89 = .ok (.iload_n 3, 1) := by decide +kernel
theorem dX1_cellStatement_90 : decode cX1_cellStatement 90 = .ok (.iaload, 1) := by decide +kernel
theorem dX1_cellStatement_91 : decode cX1_cellStatement 91 = .ok (.iconst 1, 1) := by decide +kernel
theorem dX1_cellStatement_92 : decode cX1_cellStatement 92 = .ok (.iadd, 1) := by decide +kernel
theorem dX1_cellStatement_93 : decode cX1_cellStatement 93 = .ok (.if_icmp .lt 12, 3) := by decide +kernel
theorem dX1_cellStatement_96 : decode cX1_cellStatement 96 = .ok (.aload_n 0, 1) := by decide +kernel
theorem dX1_cellStatement_97 : decode cX1_cellStatement 97 = .ok (.getfield 19, 3) := by decide +kernel
theorem dX1_cellStatement_100 : decode cX1_cellStatement 100 = .ok (.bipush 80, 2) := by decide +kernel
theorem dX1_cellStatement_102 : decode cX1_cellStatement 102 = .ok (.if_icmp .ne 19, 3) := by decide +kernel
theorem dX1_cellStatement_105 : decode cX1_cellStatement 105 = .ok (.aload_n 0, 1) := by decide +kernel
theorem dX1_cellStatement_106 : decode cX1_cellStatement 106 = .ok (.getfield 29, 3) := by decide +kernel
theorem dX1_cellStatement_109 : decode cX1_cellStatement 109 = .ok (.iconst 4, 1) := by decide +kernel
theorem dX1_cellStatement_110 : decode cX1_cellStatement 110 = .ok (.aload_n 0, 1) := by decide +kernel
theorem dX1_cellStatement_111 : decode cX1_cellStatement 111 = .ok (.getfield 29, 3) := by decide +kernel
theorem dX1_cellStatement_114 : decode cX1_cellStatement 114 = .ok (.getfield 82, 3) := by decide +kernel
theorem dX1_cellStatement_117 : decode cX1_cellStatement 117 = .ok (.invokevirtual 64, 3) := by decide +kernel
theorem dX1_cellStatement_120 : decode cX1_cellStatement 120 = .ok (.ireturn, 1) := by decide +kernel
theorem dX1_cellStatement_121 : decode cX1_cellStatement 121 = .ok (.aload_n 0, 1) := by decide +kernel
theorem dX1_cellStatement_122 : decode cX1_cellStatement 122 = .ok (.getfield 37, 3) := by decide +kernel
theorem dX1_cellStatement_125 : decode cX1_cellStatement 125 = .ok (.aload_n 0, 1) := by decide +kernel
theorem dX1_cellStatement_126 : decode cX1_cellStatement 126 = .ok (.getfield 33, 3) := by decide +kernel
theorem dX1_cellStatement_129 : decode cX1_cellStatement 129 = .ok (.iload_n 3, 1) := by decide +kernel
theorem dX1_cellStatement_130 : decode cX1_cellStatement 130 = .ok (.invokevirtual 138, 3) := by decide +kernel
theorem dX1_cellStatement_133 : decode cX1_cellStatement 133 = .ok (.istore 4, 2) := by decide +kernel
theorem dX1_cellStatement_135 : decode cX1_cellStatement 135 = .ok (.aload_n 0, 1) := by decide +kernel
theorem dX1_cellStatement_136 : decode cX1_cellStatement 136 = .ok (.getfield 9, 3) := by decide +kernel
theorem dX1_cellStatement_139 : decode cX1_cellStatement 139 = .ok (.aload_n 0, 1) := by decide +kernel
theorem dX1_cellStatement_140 : decode cX1_cellStatement 140 = .ok (.getfield 19, 3) := by decide +kernel
theorem dX1_cellStatement_143 : decode cX1_cellStatement 143 = .ok (.lload_n 1, 1) := by decide +kernel
theorem dX1_cellStatement_144 : decode cX1_cellStatement 144 = .ok (.lastore, 1) := by decide +kernel
theorem dX1_cellStatement_145 : decode cX1_cellStatement 145 = .ok (.aload_n 0, 1) := by decide +kernel
theorem dX1_cellStatement_146 : decode cX1_cellStatement 146 = .ok (.getfield 15, 3) := by decide +kernel
theorem dX1_cellStatement_149 : decode cX1_cellStatement 149 = .ok (.aload_n 0, 1) := by decide +kernel
theorem dX1_cellStatement_150 : decode cX1_cellStatement 150 = .ok (.getfield 19, 3) := by decide +kernel
theorem dX1_cellStatement_153 : decode cX1_cellStatement 153 = .ok (.iload 4, 2) := by decide +kernel
theorem dX1_cellStatement_155 : decode cX1_cellStatement 155 = .ok (.iastore, 1) := by decide +kernel
theorem dX1_cellStatement_156 : decode cX1_cellStatement 156 = .ok (.aload_n 0, 1) := by decide +kernel
theorem dX1_cellStatement_157 : decode cX1_cellStatement 157 = .ok (.dup, 1) := by decide +kernel
theorem dX1_cellStatement_158 : decode cX1_cellStatement 158 = .ok (.getfield 19, 3) := by decide +kernel
theorem dX1_cellStatement_161 : decode cX1_cellStatement 161 = .ok (.iconst 1, 1) := by decide +kernel
theorem dX1_cellStatement_162 : decode cX1_cellStatement 162 = .ok (.iadd, 1) := by decide +kernel
theorem dX1_cellStatement_163 : decode cX1_cellStatement 163 = .ok (.putfield 19, 3) := by decide +kernel
theorem dX1_cellStatement_166 : decode cX1_cellStatement 166 = .ok (.iconst 0, 1) := by decide +kernel
theorem dX1_cellStatement_167 : decode cX1_cellStatement 167 = .ok (.istore 5, 2) := by decide +kernel
theorem dX1_cellStatement_169 : decode cX1_cellStatement 169 = .ok (.iload 5, 2) := by decide +kernel
theorem dX1_cellStatement_171 : decode cX1_cellStatement 171 = .ok (.aload_n 0, 1) := by decide +kernel
theorem dX1_cellStatement_172 : decode cX1_cellStatement 172 = .ok (.getfield 33, 3) := by decide +kernel
theorem dX1_cellStatement_175 : decode cX1_cellStatement 175 = .ok (.getfield 125, 3) := by decide +kernel
theorem dX1_cellStatement_178 : decode cX1_cellStatement 178 = .ok (.iload_n 3, 1) := by decide +kernel
theorem dX1_cellStatement_179 : decode cX1_cellStatement 179 = .ok (.iaload, 1) := by decide +kernel
theorem dX1_cellStatement_180 : decode cX1_cellStatement 180 = .ok (.if_icmp .ge 63, 3) := by decide +kernel
theorem dX1_cellStatement_183 : decode cX1_cellStatement 183 = .ok (.iload 5, 2) := by decide +kernel
theorem dX1_cellStatement_185 : decode cX1_cellStatement 185 = .ok (.ifCond .le 15, 3) := by decide +kernel
theorem dX1_cellStatement_188 : decode cX1_cellStatement 188 = .ok (.aload_n 0, 1) := by decide +kernel
theorem dX1_cellStatement_189 : decode cX1_cellStatement 189 = .ok (.getfield 29, 3) := by decide +kernel
theorem dX1_cellStatement_192 : decode cX1_cellStatement 192 = .ok (.bipush 44, 2) := by decide +kernel
theorem dX1_cellStatement_194 : decode cX1_cellStatement 194 = .ok (.invokevirtual 75, 3) := by decide +kernel
theorem dX1_cellStatement_197 : decode cX1_cellStatement 197 = .ok (.ifCond .eq 20, 3) := by decide +kernel
theorem dX1_cellStatement_200 : decode cX1_cellStatement 200 = .ok (.aload_n 0, 1) := by decide +kernel
theorem dX1_cellStatement_201 : decode cX1_cellStatement 201 = .ok (.aload_n 0, 1) := by decide +kernel
theorem dX1_cellStatement_202 : decode cX1_cellStatement 202 = .ok (.getfield 33, 3) := by decide +kernel
theorem dX1_cellStatement_205 : decode cX1_cellStatement 205 = .ok (.iload_n 3, 1) := by decide +kernel
theorem dX1_cellStatement_206 : decode cX1_cellStatement 206 = .ok (.iload 5, 2) := by decide +kernel
theorem dX1_cellStatement_208 : decode cX1_cellStatement 208 = .ok (.invokevirtual 142, 3) := by decide +kernel
theorem dX1_cellStatement_211 : decode cX1_cellStatement 211 = .ok (.invokevirtual 146, 3) := by decide +kernel
theorem dX1_cellStatement_214 : decode cX1_cellStatement 214 = .ok (.ifCond .ne 5, 3) := by decide +kernel
theorem dX1_cellStatement_217 : decode cX1_cellStatement 217 = .ok (.iconst 0, 1) := by decide +kernel
theorem dX1_cellStatement_218 : decode cX1_cellStatement 218 = .ok (.ireturn, 1) := by decide +kernel
theorem dX1_cellStatement_219 : decode cX1_cellStatement 219 = .ok (.aload_n 0, 1) := by decide +kernel
theorem dX1_cellStatement_220 : decode cX1_cellStatement 220 = .ok (.getfield 37, 3) := by decide +kernel
theorem dX1_cellStatement_223 : decode cX1_cellStatement 223 = .ok (.iload 4, 2) := by decide +kernel
theorem dX1_cellStatement_225 : decode cX1_cellStatement 225 = .ok (.iconst 1, 1) := by decide +kernel
theorem dX1_cellStatement_226 : decode cX1_cellStatement 226 = .ok (.iadd, 1) := by decide +kernel
theorem dX1_cellStatement_227 : decode cX1_cellStatement 227 = .ok (.iload 5, 2) := by decide +kernel
theorem dX1_cellStatement_229 : decode cX1_cellStatement 229 = .ok (.iadd, 1) := by decide +kernel
theorem dX1_cellStatement_230 : decode cX1_cellStatement 230 = .ok (.aload_n 0, 1) := by decide +kernel
theorem dX1_cellStatement_231 : decode cX1_cellStatement 231 = .ok (.getfield 26, 3) := by decide +kernel
theorem dX1_cellStatement_234 : decode cX1_cellStatement 234 = .ok (.invokevirtual 149, 3) := by decide +kernel
theorem dX1_cellStatement_237 : decode cX1_cellStatement 237 = .ok (.iinc 5 1, 3) := by decide +kernel
theorem dX1_cellStatement_240 : decode cX1_cellStatement 240 = .ok (.goto (-71), 3) := by decide +kernel
theorem dX1_cellStatement_243 : decode cX1_cellStatement 243 = .ok (.iconst 1, 1) := by decide +kernel
theorem dX1_cellStatement_244 : decode cX1_cellStatement 244 = .ok (.ireturn, 1) := by decide +kernel
theorem dX1_heapStatement_0 : decode cX1_heapStatement 0 = .ok (.aload_n 0, 1) := by decide +kernel
theorem dX1_heapStatement_1 : decode cX1_heapStatement 1 = .ok (.getfield 29, 3) := by decide +kernel
theorem dX1_heapStatement_4 : decode cX1_heapStatement 4 = .ok (.bipush 16, 2) := by decide +kernel
theorem dX1_heapStatement_6 : decode cX1_heapStatement 6 = .ok (.sipush 160, 3) := by decide +kernel
theorem dX1_heapStatement_9 : decode cX1_heapStatement 9 = .ok (.invokevirtual 103, 3) := by decide +kernel
theorem dX1_heapStatement_12 : decode cX1_heapStatement 12 = .ok (.ifCond .ne 5, 3) := by decide +kernel
theorem dX1_heapStatement_15 : decode cX1_heapStatement 15 = .ok (.iconst 0, 1) := by decide +kernel
theorem dX1_heapStatement_16 : decode cX1_heapStatement 16 = .ok (.ireturn, 1) := by decide +kernel
theorem dX1_heapStatement_17 : decode cX1_heapStatement 17 = .ok (.aload_n 0, 1) := by decide +kernel
theorem dX1_heapStatement_18 : decode cX1_heapStatement 18 = .ok (.getfield 37, 3) := by decide +kernel
theorem dX1_heapStatement_21 : decode cX1_heapStatement 21 = .ok (.aload_n 0, 1) := by decide +kernel
theorem dX1_heapStatement_22 : decode cX1_heapStatement 22 = .ok (.getfield 29, 3) := by decide +kernel
theorem dX1_heapStatement_25 : decode cX1_heapStatement 25 = .ok (.getfield 106, 3) := by decide +kernel
theorem dX1_heapStatement_28 : decode cX1_heapStatement 28 = .ok (.invokevirtual 51, 3) := by decide +kernel
theorem dX1_heapStatement_31 : decode cX1_heapStatement 31 = .ok (.iconst 1, 1) := by decide +kernel
theorem dX1_heapStatement_32 : decode cX1_heapStatement 32 = .ok (.ireturn, 1) := by decide +kernel
theorem dX1_init_0 : decode cX1_init 0 = .ok (.aload_n 0, 1) := by decide +kernel
theorem dX1_init_1 : decode cX1_init 1 = .ok (.invokespecial 3, 3) := by decide +kernel
theorem dX1_init_4 : decode cX1_init 4 = .ok (.aload_n 0, 1) := by decide +kernel
theorem dX1_init_5 : decode cX1_init 5 = .ok (.bipush 80, 2) := by decide +kernel
theorem dX1_init_7 : decode cX1_init 7 = .ok (.newarray .long, 2) := by decide +kernel
theorem dX1_init_9 : decode cX1_init 9 = .ok (.putfield 9, 3) := by decide +kernel
theorem dX1_init_12 : decode cX1_init 12 = .ok (.aload_n 0, 1) := by decide +kernel
theorem dX1_init_13 : decode cX1_init 13 = .ok (.bipush 80, 2) := by decide +kernel
theorem dX1_init_15 : decode cX1_init 15 = .ok (.newarray .int, 2) := by decide +kernel
theorem dX1_init_17 : decode cX1_init 17 = .ok (.putfield 15, 3) := by decide +kernel
theorem dX1_init_20 : decode cX1_init 20 = .ok (.aload_n 0, 1) := by decide +kernel
theorem dX1_init_21 : decode cX1_init 21 = .ok (.iconst 0, 1) := by decide +kernel
theorem dX1_init_22 : decode cX1_init 22 = .ok (.putfield 19, 3) := by decide +kernel
theorem dX1_init_25 : decode cX1_init 25 = .ok (.aload_n 0, 1) := by decide +kernel
theorem dX1_init_26 : decode cX1_init 26 = .ok (.iconst 0, 1) := by decide +kernel
theorem dX1_init_27 : decode cX1_init 27 = .ok (.putfield 23, 3) := by decide +kernel
theorem dX1_init_30 : decode cX1_init 30 = .ok (.aload_n 0, 1) := by decide +kernel
theorem dX1_init_31 : decode cX1_init 31 = .ok (.sipush 3047, 3) := by decide +kernel
theorem dX1_init_34 : decode cX1_init 34 = .ok (.putfield 26, 3) := by decide +kernel
theorem dX1_init_37 : decode cX1_init 37 = .ok (.aload_n 0, 1) := by decide +kernel
theorem dX1_init_38 : decode cX1_init 38 = .ok (.aload_n 1, 1) := by decide +kernel
theorem dX1_init_39 : decode cX1_init 39 = .ok (.putfield 29, 3) := by decide +kernel
theorem dX1_init_42 : decode cX1_init 42 = .ok (.aload_n 0, 1) := by decide +kernel
theorem dX1_init_43 : decode cX1_init 43 = .ok (.aload_n 2, 1) := by decide +kernel
theorem dX1_init_44 : decode cX1_init 44 = .ok (.putfield 33, 3) := by decide +kernel
theorem dX1_init_47 : decode cX1_init 47 = .ok (.aload_n 0, 1) := by decide +kernel
theorem dX1_init_48 : decode cX1_init 48 = .ok (.aload_n 3, 1) := by decide +kernel
theorem dX1_init_49 : decode cX1_init 49 = .ok (.putfield 37, 3) := by decide +kernel
theorem dX1_init_52 : decode cX1_init 52 = .ok (.return_, 1) := by decide +kernel
theorem dX1_kindStatement_0 : decode cX1_kindStatement 0 = .ok (.aload_n 0, 1) := by decide +kernel
theorem dX1_kindStatement_1 : decode cX1_kindStatement 1 = .ok (.getfield 33, 3) := by decide +kernel
theorem dX1_kindStatement_4 : decode cX1_kindStatement 4 = .ok (.getfield 46, 3) := by decide +kernel
theorem dX1_kindStatement_7 : decode cX1_kindStatement 7 = .ok (.istore_n 1, 1) := by decide +kernel
theorem dX1_kindStatement_8 : decode cX1_kindStatement 8 = .ok (.iload_n 1, 1) := by decide +kernel
theorem dX1_kindStatement_9 : decode cX1_kindStatement 9 = .ok (.bipush 6, 2) := by decide +kernel
theorem dX1_kindStatement_11 : decode cX1_kindStatement 11 = .ok (.if_icmp .ne 19, 3) := by decide +kernel
theorem dX1_kindStatement_14 : decode cX1_kindStatement 14 = .ok (.aload_n 0, 1) := by decide +kernel
theorem dX1_kindStatement_15 : decode cX1_kindStatement 15 = .ok (.getfield 29, 3) := by decide +kernel
theorem dX1_kindStatement_18 : decode cX1_kindStatement 18 = .ok (.iconst 5, 1) := by decide +kernel
theorem dX1_kindStatement_19 : decode cX1_kindStatement 19 = .ok (.aload_n 0, 1) := by decide +kernel
theorem dX1_kindStatement_20 : decode cX1_kindStatement 20 = .ok (.getfield 29, 3) := by decide +kernel
theorem dX1_kindStatement_23 : decode cX1_kindStatement 23 = .ok (.getfield 82, 3) := by decide +kernel
theorem dX1_kindStatement_26 : decode cX1_kindStatement 26 = .ok (.invokevirtual 64, 3) := by decide +kernel
theorem dX1_kindStatement_29 : decode cX1_kindStatement 29 = .ok (.ireturn, 1) := by decide +kernel
theorem dX1_kindStatement_30 : decode cX1_kindStatement 30 = .ok (.aload_n 0, 1) := by decide +kernel
theorem dX1_kindStatement_31 : decode cX1_kindStatement 31 = .ok (.invokevirtual 109, 3) := by decide +kernel
theorem dX1_kindStatement_34 : decode cX1_kindStatement 34 = .ok (.ifCond .ne 5, 3) := by decide +kernel
theorem dX1_kindStatement_37 : decode cX1_kindStatement 37 = .ok (.iconst 0, 1) := by decide +kernel
theorem dX1_kindStatement_38 : decode cX1_kindStatement 38 = .ok (.ireturn, 1) := by decide +kernel
theorem dX1_kindStatement_39 : decode cX1_kindStatement 39 = .ok (.aload_n 0, 1) := by decide +kernel
theorem dX1_kindStatement_40 : decode cX1_kindStatement 40 = .ok (.getfield 33, 3) := by decide +kernel
theorem dX1_kindStatement_43 : decode cX1_kindStatement 43 = .ok (.getfield 112, 3) := by decide +kernel
theorem dX1_kindStatement_46 : decode cX1_kindStatement 46 = .ok (.iload_n 1, 1) := by decide +kernel
theorem dX1_kindStatement_47 : decode cX1_kindStatement 47 = .ok (.aload_n 0, 1) := by decide +kernel
theorem dX1_kindStatement_48 : decode cX1_kindStatement 48 = .ok (.getfield 29, 3) := by decide +kernel
theorem dX1_kindStatement_51 : decode cX1_kindStatement 51 = .ok (.getfield 115, 3) := by decide +kernel
theorem dX1_kindStatement_54 : decode cX1_kindStatement 54 = .ok (.lastore, 1) := by decide +kernel
theorem dX1_kindStatement_55 : decode cX1_kindStatement 55 = .ok (.iconst 0, 1) := by decide +kernel
theorem dX1_kindStatement_56 : decode cX1_kindStatement 56 = .ok (.istore_n 2, 1) := by decide +kernel
theorem dX1_kindStatement_57 : decode cX1_kindStatement 57 = .ok (.iload_n 2, 1) := by decide +kernel
theorem dX1_kindStatement_58 : decode cX1_kindStatement 58 = .ok (.bipush 6, 2) := by decide +kernel
theorem dX1_kindStatement_60 : decode cX1_kindStatement 60 = .ok (.if_icmp .ge 124, 3) := by decide +kernel
theorem dX1_kindStatement_63 : decode cX1_kindStatement 63 = .ok (.aload_n 0, 1) := by decide +kernel
theorem dX1_kindStatement_64 : decode cX1_kindStatement 64 = .ok (.getfield 29, 3) := by decide +kernel
theorem dX1_kindStatement_67 : decode cX1_kindStatement 67 = .ok (.invokevirtual 68, 3) := by decide +kernel
theorem dX1_kindStatement_70 : decode cX1_kindStatement 70 = .ok (.ifCond .ne 5, 3) := by decide +kernel
theorem dX1_kindStatement_73 : decode cX1_kindStatement 73 = .ok (.iconst 0, 1) := by decide +kernel
theorem dX1_kindStatement_74 : decode cX1_kindStatement 74 = .ok (.ireturn, 1) := by decide +kernel
theorem dX1_kindStatement_75 : decode cX1_kindStatement 75 = .ok (.aload_n 0, 1) := by decide +kernel
theorem dX1_kindStatement_76 : decode cX1_kindStatement 76 = .ok (.getfield 29, 3) := by decide +kernel
theorem dX1_kindStatement_79 : decode cX1_kindStatement 79 = .ok (.getfield 79, 3) := by decide +kernel
theorem dX1_kindStatement_82 : decode cX1_kindStatement 82 = .ok (.bipush 6, 2) := by decide +kernel
theorem dX1_kindStatement_84 : decode cX1_kindStatement 84 = .ok (.if_icmp .lt 15, 3) := by decide +kernel
theorem dX1_kindStatement_87 : decode cX1_kindStatement 87 = .ok (.aload_n 0, 1) := by decide +kernel
theorem dX1_kindStatement_88 : decode cX1_kindStatement 88 = .ok (.getfield 29, 3) := by decide +kernel
theorem dX1_kindStatement_91 : decode cX1_kindStatement 91 = .ok (.getfield 79, 3) := by decide +kernel
theorem dX1_kindStatement_94 : decode cX1_kindStatement 94 = .ok (.bipush 8, 2) := by decide +kernel
theorem dX1_kindStatement_96 : decode cX1_kindStatement 96 = .ok (.if_icmp .le 19, 3) := by decide +kernel
theorem dX1_kindStatement_99 : decode cX1_kindStatement 99 = .ok (.aload_n 0, 1) := by decide +kernel
theorem dX1_kindStatement_100 : decode cX1_kindStatement 100 = .ok (.getfield 29, 3) := by decide +kernel
theorem dX1_kindStatement_103 : decode cX1_kindStatement 103 = .ok (.iconst 1, 1) := by decide +kernel
theorem dX1_kindStatement_104 : decode cX1_kindStatement 104 = .ok (.aload_n 0, 1) := by decide +kernel
theorem dX1_kindStatement_105 : decode cX1_kindStatement 105 = .ok (.getfield 29, 3) := by decide +kernel
theorem dX1_kindStatement_108 : decode cX1_kindStatement 108 = .ok (.getfield 82, 3) := by decide +kernel
theorem dX1_kindStatement_111 : decode cX1_kindStatement 111 = .ok (.invokevirtual 64, 3) := by decide +kernel
theorem dX1_kindStatement_114 : decode cX1_kindStatement 114 = .ok (.ireturn, 1) := by decide +kernel
theorem dX1_kindStatement_115 : decode cX1_kindStatement 115 = .ok (.aload_n 0, 1) := by decide +kernel
theorem dX1_kindStatement_116 : decode cX1_kindStatement 116 = .ok (.getfield 33, 3) := by decide +kernel
theorem dX1_kindStatement_119 : decode cX1_kindStatement 119 = .ok (.getfield 119, 3) := by decide +kernel
theorem dX1_kindStatement_122 : decode cX1_kindStatement 122 = .ok (.iload_n 1, 1) := by decide +kernel
theorem dX1_kindStatement_123 : decode cX1_kindStatement 123 = .ok (.bipush 6, 2) := by decide +kernel
theorem dX1_kindStatement_125 : decode cX1_kindStatement 125 = .ok (.imul, 1) := by decide +kernel
theorem dX1_kindStatement_126 : decode cX1_kindStatement 126 = .ok (.iload_n 2, 1) := by decide +kernel
theorem dX1_kindStatement_127 : decode cX1_kindStatement 127 = .ok (.iadd, 1) := by decide +kernel
theorem dX1_kindStatement_128 : decode cX1_kindStatement 128 = .ok (.aload_n 0, 1) := by decide +kernel
theorem dX1_kindStatement_129 : decode cX1_kindStatement 129 = .ok (.getfield 29, 3) := by decide +kernel
theorem dX1_kindStatement_132 : decode cX1_kindStatement 132 = .ok (.getfield 79, 3) := by decide +kernel
theorem dX1_kindStatement_135 : decode cX1_kindStatement 135 = .ok (.bipush 6, 2) := by decide +kernel
theorem dX1_kindStatement_137 : decode cX1_kindStatement 137 = .ok (.isub, 1) := by decide +kernel
theorem dX1_kindStatement_138 : decode cX1_kindStatement 138 = .ok (.iastore, 1) := by decide +kernel
theorem dX1_kindStatement_139 : decode cX1_kindStatement 139 = .ok (.aload_n 0, 1) := by decide +kernel
theorem dX1_kindStatement_140 : decode cX1_kindStatement 140 = .ok (.getfield 29, 3) := by decide +kernel
theorem dX1_kindStatement_143 : decode cX1_kindStatement 143 = .ok (.bipush 44, 2) := by decide +kernel
theorem dX1_kindStatement_145 : decode cX1_kindStatement 145 = .ok (.invokevirtual 122, 3) := by decide +kernel
theorem dX1_kindStatement_148 : decode cX1_kindStatement 148 = .ok (.ifCond .ne 30, 3) := by decide +kernel
theorem dX1_kindStatement_151 : decode cX1_kindStatement 151 = .ok (.aload_n 0, 1) := by decide +kernel
theorem dX1_kindStatement_152 : decode cX1_kindStatement 152 = .ok (.getfield 33, 3) := by decide +kernel
theorem dX1_kindStatement_155 : decode cX1_kindStatement 155 = .ok (.getfield 125, 3) := by decide +kernel
theorem dX1_kindStatement_158 : decode cX1_kindStatement 158 = .ok (.iload_n 1, 1) := by decide +kernel
theorem dX1_kindStatement_159 : decode cX1_kindStatement 159 = .ok (.iload_n 2, 1) := by decide +kernel
theorem dX1_kindStatement_160 : decode cX1_kindStatement 160 = .ok (.iconst 1, 1) := by decide +kernel
theorem dX1_kindStatement_161 : decode cX1_kindStatement 161 = .ok (.iadd, 1) := by decide +kernel
theorem dX1_kindStatement_162 : decode cX1_kindStatement 162 = .ok (.iastore, 1) := by decide +kernel
theorem dX1_kindStatement_163 : decode cX1_kindStatement 163 = .ok (.aload_n 0, 1) := by decide +kernel
theorem dX1_kindStatement_164 : decode cX1_kindStatement 164 = .ok (.getfield 33, 3) := by decide +kernel
theorem dX1_kindStatement_167 : decode cX1_kindStatement 167 = .ok (.dup, 1) := by decide +kernel
theorem dX1_kindStatement_168 : decode cX1_kindStatement 168 = .ok (.getfield 46, 3) := by decide +kernel
theorem dX1_kindStatement_171 : decode cX1_kindStatement 171 = .ok (.iconst 1, 1) := by decide +kernel
theorem dX1_kindStatement_172 : decode cX1_kindStatement 172 = .ok (.iadd, 1) := by decide +kernel
theorem dX1_kindStatement_173 : decode cX1_kindStatement 173 = .ok (.putfield 46, 3) := by decide +kernel
theorem dX1_kindStatement_176 : decode cX1_kindStatement 176 = .ok (.iconst 1, 1) := by decide +kernel
theorem dX1_kindStatement_177 : decode cX1_kindStatement 177 = .ok (.ireturn, 1) := by decide +kernel
theorem dX1_kindStatement_178 : decode cX1_kindStatement 178 = .ok (.iinc 2 1, 3) := by decide +kernel
theorem dX1_kindStatement_181 : decode cX1_kindStatement 181 = .ok (.goto (-124), 3) := by decide +kernel
theorem dX1_kindStatement_184 : decode cX1_kindStatement 184 = .ok (.aload_n 0, 1) := by decide +kernel
theorem dX1_kindStatement_185 : decode cX1_kindStatement 185 = .ok (.getfield 29, 3) := by decide +kernel
theorem dX1_kindStatement_188 : decode cX1_kindStatement 188 = .ok (.aload_n 0, 1) := by decide +kernel
theorem dX1_kindStatement_189 : decode cX1_kindStatement 189 = .ok (.getfield 29, 3) := by decide +kernel
theorem dX1_kindStatement_192 : decode cX1_kindStatement 192 = .ok (.invokevirtual 57, 3) := by decide +kernel
theorem dX1_kindStatement_195 : decode cX1_kindStatement 195 = .ok (.iconst (-1), 1) := by decide +kernel
theorem dX1_kindStatement_196 : decode cX1_kindStatement 196 = .ok (.if_icmp .ne 7, 3) := by decide +kernel
theorem dX1_kindStatement_199 : decode cX1_kindStatement 199 = .ok (.iconst 1, 1) := by decide +kernel
theorem dX1_kindStatement_200 : decode cX1_kindStatement 200 = .ok (.goto 4, 3) := by decide +kernel
theorem dX1_kindStatement_203 : decode cX1_kindStatement 203 = .ok (.iconst 5, 1) := by decide +kernel
theorem dX1_kindStatement_204 : decode cX1_kindStatement 204 = .ok (.aload_n 0, 1) := by decide +kernel
theorem dX1_kindStatement_205 : decode cX1_kindStatement 205 = .ok (.getfield 29, 3) := by decide +kernel
theorem dX1_kindStatement_208 : decode cX1_kindStatement 208 = .ok (.getfield 61, 3) := by decide +kernel
theorem dX1_kindStatement_211 : decode cX1_kindStatement 211 = .ok (.invokevirtual 64, 3) := by decide +kernel
theorem dX1_kindStatement_214 : decode cX1_kindStatement 214 = .ok (.ireturn, 1) := by decide +kernel
theorem dX1_methodStatement_0 : decode cX1_methodStatement 0 = .ok (.aload_n 0, 1) := by decide +kernel
theorem dX1_methodStatement_1 : decode cX1_methodStatement 1 = .ok (.getfield 29, 3) := by decide +kernel
theorem dX1_methodStatement_4 : decode cX1_methodStatement 4 = .ok (.iconst 0, 1) := by decide +kernel
theorem dX1_methodStatement_5 : decode cX1_methodStatement 5 = .ok (.iconst 1, 1) := by decide +kernel
theorem dX1_methodStatement_6 : decode cX1_methodStatement 6 = .ok (.invokevirtual 103, 3) := by decide +kernel
theorem dX1_methodStatement_9 : decode cX1_methodStatement 9 = .ok (.ifCond .ne 5, 3) := by decide +kernel
theorem dX1_methodStatement_12 : decode cX1_methodStatement 12 = .ok (.iconst 0, 1) := by decide +kernel
theorem dX1_methodStatement_13 : decode cX1_methodStatement 13 = .ok (.ireturn, 1) := by decide +kernel
theorem dX1_methodStatement_14 : decode cX1_methodStatement 14 = .ok (.aload_n 0, 1) := by decide +kernel
theorem dX1_methodStatement_15 : decode cX1_methodStatement 15 = .ok (.getfield 37, 3) := by decide +kernel
theorem dX1_methodStatement_18 : decode cX1_methodStatement 18 = .ok (.aload_n 0, 1) := by decide +kernel
theorem dX1_methodStatement_19 : decode cX1_methodStatement 19 = .ok (.getfield 29, 3) := by decide +kernel
theorem dX1_methodStatement_22 : decode cX1_methodStatement 22 = .ok (.getfield 106, 3) := by decide +kernel
theorem dX1_methodStatement_25 : decode cX1_methodStatement 25 = .ok (.putfield 159, 3) := by decide +kernel
theorem dX1_methodStatement_28 : decode cX1_methodStatement 28 = .ok (.iconst 1, 1) := by decide +kernel
theorem dX1_methodStatement_29 : decode cX1_methodStatement 29 = .ok (.ireturn, 1) := by decide +kernel
theorem dX1_readHeap_0 : decode cX1_readHeap 0 = .ok (.aload_n 0, 1) := by decide +kernel
theorem dX1_readHeap_1 : decode cX1_readHeap 1 = .ok (.getfield 29, 3) := by decide +kernel
theorem dX1_readHeap_4 : decode cX1_readHeap 4 = .ok (.invokevirtual 41, 3) := by decide +kernel
theorem dX1_readHeap_7 : decode cX1_readHeap 7 = .ok (.aload_n 0, 1) := by decide +kernel
theorem dX1_readHeap_8 : decode cX1_readHeap 8 = .ok (.getfield 33, 3) := by decide +kernel
theorem dX1_readHeap_11 : decode cX1_readHeap 11 = .ok (.iconst 0, 1) := by decide +kernel
theorem dX1_readHeap_12 : decode cX1_readHeap 12 = .ok (.putfield 46, 3) := by decide +kernel
theorem dX1_readHeap_15 : decode cX1_readHeap 15 = .ok (.aload_n 0, 1) := by decide +kernel
theorem dX1_readHeap_16 : decode cX1_readHeap 16 = .ok (.iconst 0, 1) := by decide +kernel
theorem dX1_readHeap_17 : decode cX1_readHeap 17 = .ok (.putfield 19, 3) := by decide +kernel
theorem dX1_readHeap_20 : decode cX1_readHeap 20 = .ok (.aload_n 0, 1) := by decide +kernel
theorem dX1_readHeap_21 : decode cX1_readHeap 21 = .ok (.getfield 37, 3) := by decide +kernel
theorem dX1_readHeap_24 : decode cX1_readHeap 24 = .ok (.iconst 0, 1) := by decide +kernel
theorem dX1_readHeap_25 : decode cX1_readHeap 25 = .ok (.invokevirtual 51, 3) := by decide +kernel
theorem dX1_readHeap_28 : decode cX1_readHeap 28 = .ok (.aload_n 0, 1) := by decide +kernel
theorem dX1_readHeap_29 : decode cX1_readHeap 29 = .ok (.iconst 0, 1) := by decide +kernel
theorem dX1_readHeap_30 : decode cX1_readHeap 30 = .ok (.putfield 23, 3) := by decide +kernel
theorem dX1_readHeap_33 : decode cX1_readHeap 33 = .ok (.aload_n 0, 1) := by decide +kernel
theorem dX1_readHeap_34 : decode cX1_readHeap 34 = .ok (.getfield 29, 3) := by decide +kernel
theorem dX1_readHeap_37 : decode cX1_readHeap 37 = .ok (.invokevirtual 57, 3) := by decide +kernel
theorem dX1_readHeap_40 : decode cX1_readHeap 40 = .ok (.iconst (-1), 1) := by decide +kernel
theorem dX1_readHeap_41 : decode cX1_readHeap 41 = .ok (.if_icmp .eq 72, 3) := by decide +kernel
theorem dX1_readHeap_44 : decode cX1_readHeap 44 = .ok (.aload_n 0, 1) := by decide +kernel
theorem dX1_readHeap_45 : decode cX1_readHeap 45 = .ok (.getfield 23, 3) := by decide +kernel
theorem dX1_readHeap_48 : decode cX1_readHeap 48 = .ok (.bipush 60, 2) := by decide +kernel
theorem dX1_readHeap_50 : decode cX1_readHeap 50 = .ok (.if_icmp .ne 19, 3) := by decide +kernel
theorem dX1_readHeap_53 : decode cX1_readHeap 53 = .ok (.aload_n 0, 1) := by decide +kernel
theorem dX1_readHeap_54 : decode cX1_readHeap 54 = .ok (.getfield 29, 3) := by decide +kernel
theorem dX1_readHeap_57 : decode cX1_readHeap 57 = .ok (.iconst 5, 1) := by decide +kernel
theorem dX1_readHeap_58 : decode cX1_readHeap 58 = .ok (.aload_n 0, 1) := by decide +kernel
theorem dX1_readHeap_59 : decode cX1_readHeap 59 = .ok (.getfield 29, 3) := by decide +kernel
theorem dX1_readHeap_62 : decode cX1_readHeap 62 = .ok (.getfield 61, 3) := by decide +kernel
theorem dX1_readHeap_65 : decode cX1_readHeap 65 = .ok (.invokevirtual 64, 3) := by decide +kernel
theorem dX1_readHeap_68 : decode cX1_readHeap 68 = .ok (.ireturn, 1) := by decide +kernel
theorem dX1_readHeap_69 : decode cX1_readHeap 69 = .ok (.aload_n 0, 1) := by decide +kernel
theorem dX1_readHeap_70 : decode cX1_readHeap 70 = .ok (.getfield 29, 3) := by decide +kernel
theorem dX1_readHeap_73 : decode cX1_readHeap 73 = .ok (.invokevirtual 68, 3) := by decide +kernel
theorem dX1_readHeap_76 : decode cX1_readHeap 76 = .ok (.ifCond .eq 22, 3) := by decide +kernel
theorem dX1_readHeap_79 : decode cX1_readHeap 79 = .ok (.aload_n 0, 1) := by decide +kernel
theorem dX1_readHeap_80 : decode cX1_readHeap 80 = .ok (.invokevirtual 72, 3) := by decide +kernel
theorem dX1_readHeap_83 : decode cX1_readHeap 83 = .ok (.ifCond .eq 15, 3) := by decide +kernel
theorem dX1_readHeap_86 : decode cX1_readHeap 86 = .ok (.aload_n 0, 1) := by decide +kernel
theorem dX1_readHeap_87 : decode cX1_readHeap 87 = .ok (.getfield 29, 3) := by decide +kernel
theorem dX1_readHeap_90 : decode cX1_readHeap 90 = .ok (.bipush 59, 2) := by decide +kernel
theorem dX1_readHeap_92 : decode cX1_readHeap 92 = .ok (.invokevirtual 75, 3) := by decide +kernel
theorem dX1_readHeap_95 : decode cX1_readHeap 95 = .ok (.ifCond .ne 5, 3) := by decide +kernel
theorem dX1_readHeap_98 : decode cX1_readHeap 98 = .ok (.iconst 0, 1) := by decide +kernel
theorem dX1_readHeap_99 : decode cX1_readHeap 99 = .ok (.ireturn, 1) := by decide +kernel
theorem dX1_readHeap_100 : decode cX1_readHeap 100 = .ok (.aload_n 0, 1) := by decide +kernel
theorem dX1_readHeap_101 : decode cX1_readHeap 101 = .ok (.dup, 1) := by decide +kernel
theorem dX1_readHeap_102 : decode cX1_readHeap 102 = .ok (.getfield 23, 3) := by decide +kernel
theorem dX1_readHeap_105 : decode cX1_readHeap 105 = .ok (.iconst 1, 1) := by decide +kernel
theorem dX1_readHeap_106 : decode cX1_readHeap 106 = .ok (.iadd, 1) := by decide +kernel
theorem dX1_readHeap_107 : decode cX1_readHeap 107 = .ok (.putfield 23, 3) := by decide +kernel
theorem dX1_readHeap_110 : decode cX1_readHeap 110 = .ok (.goto (-77), 3) := by decide +kernel
theorem dX1_readHeap_113 : decode cX1_readHeap 113 = .ok (.aload_n 0, 1) := by decide +kernel
theorem dX1_readHeap_114 : decode cX1_readHeap 114 = .ok (.getfield 23, 3) := by decide +kernel
theorem dX1_readHeap_117 : decode cX1_readHeap 117 = .ok (.ifCond .gt 21, 3) := by decide +kernel
theorem dX1_readHeap_120 : decode cX1_readHeap 120 = .ok (.aload_n 0, 1) := by decide +kernel
theorem dX1_readHeap_121 : decode cX1_readHeap 121 = .ok (.getfield 29, 3) := by decide +kernel
theorem dX1_readHeap_124 : decode cX1_readHeap 124 = .ok (.iconst 1, 1) := by decide +kernel
theorem dX1_readHeap_125 : decode cX1_readHeap 125 = .ok (.aload_n 0, 1) := by decide +kernel
theorem dX1_readHeap_126 : decode cX1_readHeap 126 = .ok (.getfield 29, 3) := by decide +kernel
theorem dX1_readHeap_129 : decode cX1_readHeap 129 = .ok (.getfield 61, 3) := by decide +kernel
theorem dX1_readHeap_132 : decode cX1_readHeap 132 = .ok (.invokevirtual 64, 3) := by decide +kernel
theorem dX1_readHeap_135 : decode cX1_readHeap 135 = .ok (.ifCond .eq 7, 3) := by decide +kernel
theorem dX1_readHeap_138 : decode cX1_readHeap 138 = .ok (.iconst 1, 1) := by decide +kernel
theorem dX1_readHeap_139 : decode cX1_readHeap 139 = .ok (.goto 4, 3) := by decide +kernel
theorem dX1_readHeap_142 : decode cX1_readHeap 142 = .ok (.iconst 0, 1) := by decide +kernel
theorem dX1_readHeap_143 : decode cX1_readHeap 143 = .ok (.ireturn, 1) := by decide +kernel
theorem dX1_rootStatement_0 : decode cX1_rootStatement 0 = .ok (.aload_n 0, 1) := by decide +kernel
theorem dX1_rootStatement_1 : decode cX1_rootStatement 1 = .ok (.getfield 29, 3) := by decide +kernel
theorem dX1_rootStatement_4 : decode cX1_rootStatement 4 = .ok (.iconst 0, 1) := by decide +kernel
theorem dX1_rootStatement_5 : decode cX1_rootStatement 5 = .ok (.bipush 7, 2) := by decide +kernel
theorem dX1_rootStatement_7 : decode cX1_rootStatement 7 = .ok (.invokevirtual 103, 3) := by decide +kernel
theorem dX1_rootStatement_10 : decode cX1_rootStatement 10 = .ok (.ifCond .ne 5, 3) := by decide +kernel
theorem dX1_rootStatement_13 : decode cX1_rootStatement 13 = .ok (.iconst 0, 1) := by decide +kernel
theorem dX1_rootStatement_14 : decode cX1_rootStatement 14 = .ok (.ireturn, 1) := by decide +kernel
theorem dX1_rootStatement_15 : decode cX1_rootStatement 15 = .ok (.aload_n 0, 1) := by decide +kernel
theorem dX1_rootStatement_16 : decode cX1_rootStatement 16 = .ok (.getfield 29, 3) := by decide +kernel
theorem dX1_rootStatement_19 : decode cX1_rootStatement 19 = .ok (.getfield 106, 3) := by decide +kernel
theorem dX1_rootStatement_22 : decode cX1_rootStatement 22 = .ok (.istore_n 1, 1) := by decide +kernel
theorem dX1_rootStatement_23 : decode cX1_rootStatement 23 = .ok (.aload_n 0, 1) := by decide +kernel
theorem dX1_rootStatement_24 : decode cX1_rootStatement 24 = .ok (.iconst 3, 1) := by decide +kernel
theorem dX1_rootStatement_25 : decode cX1_rootStatement 25 = .ok (.invokevirtual 146, 3) := by decide +kernel
theorem dX1_rootStatement_28 : decode cX1_rootStatement 28 = .ok (.ifCond .ne 5, 3) := by decide +kernel
theorem dX1_rootStatement_31 : decode cX1_rootStatement 31 = .ok (.iconst 0, 1) := by decide +kernel
theorem dX1_rootStatement_32 : decode cX1_rootStatement 32 = .ok (.ireturn, 1) := by decide +kernel
theorem dX1_rootStatement_33 : decode cX1_rootStatement 33 = .ok (.aload_n 0, 1) := by decide +kernel
theorem dX1_rootStatement_34 : decode cX1_rootStatement 34 = .ok (.getfield 37, 3) := by decide +kernel
theorem dX1_rootStatement_37 : decode cX1_rootStatement 37 = .ok (.iload_n 1, 1) := by decide +kernel
theorem dX1_rootStatement_38 : decode cX1_rootStatement 38 = .ok (.bipush 8, 2) := by decide +kernel
theorem dX1_rootStatement_40 : decode cX1_rootStatement 40 = .ok (.isub, 1) := by decide +kernel
theorem dX1_rootStatement_41 : decode cX1_rootStatement 41 = .ok (.aload_n 0, 1) := by decide +kernel
theorem dX1_rootStatement_42 : decode cX1_rootStatement 42 = .ok (.getfield 26, 3) := by decide +kernel
theorem dX1_rootStatement_45 : decode cX1_rootStatement 45 = .ok (.invokevirtual 149, 3) := by decide +kernel
theorem dX1_rootStatement_48 : decode cX1_rootStatement 48 = .ok (.iconst 1, 1) := by decide +kernel
theorem dX1_rootStatement_49 : decode cX1_rootStatement 49 = .ok (.ireturn, 1) := by decide +kernel
theorem dX1_setStatement_0 : decode cX1_setStatement 0 = .ok (.aload_n 0, 1) := by decide +kernel
theorem dX1_setStatement_1 : decode cX1_setStatement 1 = .ok (.getfield 29, 3) := by decide +kernel
theorem dX1_setStatement_4 : decode cX1_setStatement 4 = .ok (.invokevirtual 68, 3) := by decide +kernel
theorem dX1_setStatement_7 : decode cX1_setStatement 7 = .ok (.ifCond .eq 13, 3) := by decide +kernel
theorem dX1_setStatement_10 : decode cX1_setStatement 10 = .ok (.aload_n 0, 1) := by decide +kernel
theorem dX1_setStatement_11 : decode cX1_setStatement 11 = .ok (.getfield 29, 3) := by decide +kernel
theorem dX1_setStatement_14 : decode cX1_setStatement 14 = .ok (.invokevirtual 128, 3) := by decide +kernel
theorem dX1_setStatement_17 : decode cX1_setStatement 17 = .ok (.ifCond .ne 5, 3) := by decide +kernel
theorem dX1_setStatement_20 : decode cX1_setStatement 20 = .ok (.iconst 0, 1) := by decide +kernel
theorem dX1_setStatement_21 : decode cX1_setStatement 21 = .ok (.ireturn, 1) := by decide +kernel
theorem dX1_setStatement_22 : decode cX1_setStatement 22 = .ok (.aload_n 0, 1) := by decide +kernel
theorem dX1_setStatement_23 : decode cX1_setStatement 23 = .ok (.aload_n 0, 1) := by decide +kernel
theorem dX1_setStatement_24 : decode cX1_setStatement 24 = .ok (.getfield 29, 3) := by decide +kernel
theorem dX1_setStatement_27 : decode cX1_setStatement 27 = .ok (.getfield 115, 3) := by decide +kernel
theorem dX1_setStatement_30 : decode cX1_setStatement 30 = .ok (.invokevirtual 153, 3) := by decide +kernel
theorem dX1_setStatement_33 : decode cX1_setStatement 33 = .ok (.istore_n 1, 1) := by decide +kernel
theorem dX1_setStatement_34 : decode cX1_setStatement 34 = .ok (.iload_n 1, 1) := by decide +kernel
theorem dX1_setStatement_35 : decode cX1_setStatement 35 = .ok (.iconst (-1), 1) := by decide +kernel
theorem dX1_setStatement_36 : decode cX1_setStatement 36 = .ok (.if_icmp .ne 19, 3) := by decide +kernel
theorem dX1_setStatement_39 : decode cX1_setStatement 39 = .ok (.aload_n 0, 1) := by decide +kernel
theorem dX1_setStatement_40 : decode cX1_setStatement 40 = .ok (.getfield 29, 3) := by decide +kernel
theorem dX1_setStatement_43 : decode cX1_setStatement 43 = .ok (.iconst 3, 1) := by decide +kernel
theorem dX1_setStatement_44 : decode cX1_setStatement 44 = .ok (.aload_n 0, 1) := by decide +kernel
theorem dX1_setStatement_45 : decode cX1_setStatement 45 = .ok (.getfield 29, 3) := by decide +kernel
theorem dX1_setStatement_48 : decode cX1_setStatement 48 = .ok (.getfield 82, 3) := by decide +kernel
theorem dX1_setStatement_51 : decode cX1_setStatement 51 = .ok (.invokevirtual 64, 3) := by decide +kernel
theorem dX1_setStatement_54 : decode cX1_setStatement 54 = .ok (.ireturn, 1) := by decide +kernel
theorem dX1_setStatement_55 : decode cX1_setStatement 55 = .ok (.aload_n 0, 1) := by decide +kernel
theorem dX1_setStatement_56 : decode cX1_setStatement 56 = .ok (.getfield 37, 3) := by decide +kernel
theorem dX1_setStatement_59 : decode cX1_setStatement 59 = .ok (.iload_n 1, 1) := by decide +kernel
theorem dX1_setStatement_60 : decode cX1_setStatement 60 = .ok (.invokevirtual 156, 3) := by decide +kernel
theorem dX1_setStatement_63 : decode cX1_setStatement 63 = .ok (.sipush 5096, 3) := by decide +kernel
theorem dX1_setStatement_66 : decode cX1_setStatement 66 = .ok (.isub, 1) := by decide +kernel
theorem dX1_setStatement_67 : decode cX1_setStatement 67 = .ok (.istore_n 2, 1) := by decide +kernel
theorem dX1_setStatement_68 : decode cX1_setStatement 68 = .ok (.aload_n 0, 1) := by decide +kernel
theorem dX1_setStatement_69 : decode cX1_setStatement 69 = .ok (.getfield 29, 3) := by decide +kernel
theorem dX1_setStatement_72 : decode cX1_setStatement 72 = .ok (.bipush 46, 2) := by decide +kernel
theorem dX1_setStatement_74 : decode cX1_setStatement 74 = .ok (.invokevirtual 75, 3) := by decide +kernel
theorem dX1_setStatement_77 : decode cX1_setStatement 77 = .ok (.ifCond .eq 25, 3) := by decide +kernel
theorem dX1_setStatement_80 : decode cX1_setStatement 80 = .ok (.aload_n 0, 1) := by decide +kernel
theorem dX1_setStatement_81 : decode cX1_setStatement 81 = .ok (.getfield 29, 3) := by decide +kernel
theorem dX1_setStatement_84 : decode cX1_setStatement 84 = .ok (.iconst 0, 1) := by decide +kernel
theorem dX1_setStatement_85 : decode cX1_setStatement 85 = .ok (.aload_n 0, 1) := by decide +kernel
theorem dX1_setStatement_86 : decode cX1_setStatement 86 = .ok (.getfield 33, 3) := by decide +kernel
theorem dX1_setStatement_89 : decode cX1_setStatement 89 = .ok (.getfield 125, 3) := by decide +kernel
theorem dX1_setStatement_92 : decode cX1_setStatement 92 = .ok (.iload_n 2, 1) := by decide +kernel
theorem dX1_setStatement_93 : decode cX1_setStatement 93 = .ok (.iaload, 1) := by decide +kernel
theorem dX1_setStatement_94 : decode cX1_setStatement 94 = .ok (.iconst 1, 1) := by decide +kernel
theorem dX1_setStatement_95 : decode cX1_setStatement 95 = .ok (.isub, 1) := by decide +kernel
theorem dX1_setStatement_96 : decode cX1_setStatement 96 = .ok (.invokevirtual 103, 3) := by decide +kernel
theorem dX1_setStatement_99 : decode cX1_setStatement 99 = .ok (.ifCond .ne 5, 3) := by decide +kernel
theorem dX1_setStatement_102 : decode cX1_setStatement 102 = .ok (.iconst 0, 1) := by decide +kernel
theorem dX1_setStatement_103 : decode cX1_setStatement 103 = .ok (.ireturn, 1) := by decide +kernel
theorem dX1_setStatement_104 : decode cX1_setStatement 104 = .ok (.aload_n 0, 1) := by decide +kernel
theorem dX1_setStatement_105 : decode cX1_setStatement 105 = .ok (.getfield 29, 3) := by decide +kernel
theorem dX1_setStatement_108 : decode cX1_setStatement 108 = .ok (.getfield 106, 3) := by decide +kernel
theorem dX1_setStatement_111 : decode cX1_setStatement 111 = .ok (.istore_n 3, 1) := by decide +kernel
theorem dX1_setStatement_112 : decode cX1_setStatement 112 = .ok (.aload_n 0, 1) := by decide +kernel
theorem dX1_setStatement_113 : decode cX1_setStatement 113 = .ok (.aload_n 0, 1) := by decide +kernel
theorem dX1_setStatement_114 : decode cX1_setStatement 114 = .ok (.getfield 33, 3) := by decide +kernel
theorem dX1_setStatement_117 : decode cX1_setStatement 117 = .ok (.iload_n 2, 1) := by decide +kernel
theorem dX1_setStatement_118 : decode cX1_setStatement 118 = .ok (.iload_n 3, 1) := by decide +kernel
theorem dX1_setStatement_119 : decode cX1_setStatement 119 = .ok (.invokevirtual 142, 3) := by decide +kernel
theorem dX1_setStatement_122 : decode cX1_setStatement 122 = .ok (.invokevirtual 146, 3) := by decide +kernel
theorem dX1_setStatement_125 : decode cX1_setStatement 125 = .ok (.ifCond .ne 5, 3) := by decide +kernel
theorem dX1_setStatement_128 : decode cX1_setStatement 128 = .ok (.iconst 0, 1) := by decide +kernel
theorem dX1_setStatement_129 : decode cX1_setStatement 129 = .ok (.ireturn, 1) := by decide +kernel
theorem dX1_setStatement_130 : decode cX1_setStatement 130 = .ok (.aload_n 0, 1) := by decide +kernel
theorem dX1_setStatement_131 : decode cX1_setStatement 131 = .ok (.getfield 37, 3) := by decide +kernel
theorem dX1_setStatement_134 : decode cX1_setStatement 134 = .ok (.iload_n 1, 1) := by decide +kernel
theorem dX1_setStatement_135 : decode cX1_setStatement 135 = .ok (.iconst 1, 1) := by decide +kernel
theorem dX1_setStatement_136 : decode cX1_setStatement 136 = .ok (.iadd, 1) := by decide +kernel
theorem dX1_setStatement_137 : decode cX1_setStatement 137 = .ok (.iload_n 3, 1) := by decide +kernel
theorem dX1_setStatement_138 : decode cX1_setStatement 138 = .ok (.iadd, 1) := by decide +kernel
theorem dX1_setStatement_139 : decode cX1_setStatement 139 = .ok (.aload_n 0, 1) := by decide +kernel
theorem dX1_setStatement_140 : decode cX1_setStatement 140 = .ok (.getfield 26, 3) := by decide +kernel
theorem dX1_setStatement_143 : decode cX1_setStatement 143 = .ok (.invokevirtual 149, 3) := by decide +kernel
theorem dX1_setStatement_146 : decode cX1_setStatement 146 = .ok (.iconst 1, 1) := by decide +kernel
theorem dX1_setStatement_147 : decode cX1_setStatement 147 = .ok (.ireturn, 1) := by decide +kernel
theorem dX1_statement_0 : decode cX1_statement 0 = .ok (.aload_n 0, 1) := by decide +kernel
theorem dX1_statement_1 : decode cX1_statement 1 = .ok (.getfield 29, 3) := by decide +kernel
theorem dX1_statement_4 : decode cX1_statement 4 = .ok (.getfield 79, 3) := by decide +kernel
theorem dX1_statement_7 : decode cX1_statement 7 = .ok (.ifCond .ne 7, 3) := by decide +kernel
theorem dX1_statement_10 : decode cX1_statement 10 = .ok (.iconst 1, 1) := by decide +kernel
theorem dX1_statement_11 : decode cX1_statement 11 = .ok (.goto 4, 3) := by decide +kernel
theorem dX1_statement_14 : decode cX1_statement 14 = .ok (.iconst 0, 1) := by decide +kernel
theorem dX1_statement_15 : decode cX1_statement 15 = .ok (.aload_n 0, 1) := by decide +kernel
theorem dX1_statement_16 : decode cX1_statement 16 = .ok (.getfield 23, 3) := by decide +kernel
theorem dX1_statement_19 : decode cX1_statement 19 = .ok (.ifCond .ne 7, 3) := by decide +kernel
theorem dX1_statement_22 : decode cX1_statement 22 = .ok (.iconst 1, 1) := by decide +kernel
theorem dX1_statement_23 : decode cX1_statement 23 = .ok (.goto 4, 3) := by decide +kernel
theorem dX1_statement_26 : decode cX1_statement 26 = .ok (.iconst 0, 1) := by decide +kernel
theorem dX1_statement_27 : decode cX1_statement 27 = .ok (.if_icmp .eq 19, 3) := by decide +kernel
theorem dX1_statement_30 : decode cX1_statement 30 = .ok (.aload_n 0, 1) := by decide +kernel
theorem dX1_statement_31 : decode cX1_statement 31 = .ok (.getfield 29, 3) := by decide +kernel
theorem dX1_statement_34 : decode cX1_statement 34 = .ok (.iconst 1, 1) := by decide +kernel
theorem dX1_statement_35 : decode cX1_statement 35 = .ok (.aload_n 0, 1) := by decide +kernel
theorem dX1_statement_36 : decode cX1_statement 36 = .ok (.getfield 29, 3) := by decide +kernel
theorem dX1_statement_39 : decode cX1_statement 39 = .ok (.getfield 82, 3) := by decide +kernel
theorem dX1_statement_42 : decode cX1_statement 42 = .ok (.invokevirtual 64, 3) := by decide +kernel
theorem dX1_statement_45 : decode cX1_statement 45 = .ok (.ireturn, 1) := by decide +kernel
theorem dX1_statement_46 : decode cX1_statement 46 = .ok (.aload_n 0, 1) := by decide +kernel
theorem dX1_statement_47 : decode cX1_statement 47 = .ok (.getfield 29, 3) := by decide +kernel
theorem dX1_statement_50 : decode cX1_statement 50 = .ok (.getfield 79, 3) := by decide +kernel
theorem dX1_statement_53 : decode cX1_statement 53 = .ok (.tableswitch 69 0 5 #[39, 44, 49, 54, 59, 64], 39) := by decide +kernel
theorem dX1_statement_92 : decode cX1_statement 92 = .ok (.aload_n 0, 1) := by decide +kernel
theorem dX1_statement_93 : decode cX1_statement 93 = .ok (.invokevirtual 85, 3) := by decide +kernel
theorem dX1_statement_96 : decode cX1_statement 96 = .ok (.ireturn, 1) := by decide +kernel
theorem dX1_statement_97 : decode cX1_statement 97 = .ok (.aload_n 0, 1) := by decide +kernel
theorem dX1_statement_98 : decode cX1_statement 98 = .ok (.invokevirtual 88, 3) := by decide +kernel
theorem dX1_statement_101 : decode cX1_statement 101 = .ok (.ireturn, 1) := by decide +kernel
theorem dX1_statement_102 : decode cX1_statement 102 = .ok (.aload_n 0, 1) := by decide +kernel
theorem dX1_statement_103 : decode cX1_statement 103 = .ok (.invokevirtual 91, 3) := by decide +kernel
theorem dX1_statement_106 : decode cX1_statement 106 = .ok (.ireturn, 1) := by decide +kernel
theorem dX1_statement_107 : decode cX1_statement 107 = .ok (.aload_n 0, 1) := by decide +kernel
theorem dX1_statement_108 : decode cX1_statement 108 = .ok (.invokevirtual 94, 3) := by decide +kernel
theorem dX1_statement_111 : decode cX1_statement 111 = .ok (.ireturn, 1) := by decide +kernel
theorem dX1_statement_112 : decode cX1_statement 112 = .ok (.aload_n 0, 1) := by decide +kernel
theorem dX1_statement_113 : decode cX1_statement 113 = .ok (.invokevirtual 97, 3) := by decide +kernel
theorem dX1_statement_116 : decode cX1_statement 116 = .ok (.ireturn, 1) := by decide +kernel
theorem dX1_statement_117 : decode cX1_statement 117 = .ok (.aload_n 0, 1) := by decide +kernel
theorem dX1_statement_118 : decode cX1_statement 118 = .ok (.invokevirtual 100, 3) := by decide +kernel
theorem dX1_statement_121 : decode cX1_statement 121 = .ok (.ireturn, 1) := by decide +kernel
theorem dX1_statement_122 : decode cX1_statement 122 = .ok (.aload_n 0, 1) := by decide +kernel
theorem dX1_statement_123 : decode cX1_statement 123 = .ok (.getfield 29, 3) := by decide +kernel
theorem dX1_statement_126 : decode cX1_statement 126 = .ok (.iconst 1, 1) := by decide +kernel
theorem dX1_statement_127 : decode cX1_statement 127 = .ok (.aload_n 0, 1) := by decide +kernel
theorem dX1_statement_128 : decode cX1_statement 128 = .ok (.getfield 29, 3) := by decide +kernel
theorem dX1_statement_131 : decode cX1_statement 131 = .ok (.getfield 82, 3) := by decide +kernel
theorem dX1_statement_134 : decode cX1_statement 134 = .ok (.invokevirtual 64, 3) := by decide +kernel
theorem dX1_statement_137 : decode cX1_statement 137 = .ok (.ireturn, 1) := by decide +kernel
theorem dX1_takesItem_0 : decode cX1_takesItem 0 = .ok (.aload_n 0, 1) := by decide +kernel
theorem dX1_takesItem_1 : decode cX1_takesItem 1 = .ok (.getfield 29, 3) := by decide +kernel
theorem dX1_takesItem_4 : decode cX1_takesItem 4 = .ok (.invokevirtual 57, 3) := by decide +kernel
theorem dX1_takesItem_7 : decode cX1_takesItem 7 = .ok (.istore_n 2, 1) := by decide +kernel
theorem dX1_takesItem_8 : decode cX1_takesItem 8 = .ok (.iload_n 1, 1) := by decide +kernel
theorem dX1_takesItem_9 : decode cX1_takesItem 9 = .ok (.ifCond .eq 15, 3) := by decide +kernel
theorem dX1_takesItem_12 : decode cX1_takesItem 12 = .ok (.iload_n 1, 1) := by decide +kernel
theorem dX1_takesItem_13 : decode cX1_takesItem 13 = .ok (.iconst 3, 1) := by decide +kernel
theorem dX1_takesItem_14 : decode cX1_takesItem 14 = .ok (.if_icmp .ne 43, 3) := by decide +kernel
theorem dX1_takesItem_17 : decode cX1_takesItem 17 = .ok (.iload_n 2, 1) := by decide +kernel
theorem dX1_takesItem_18 : decode cX1_takesItem 18 = .ok (.invokestatic 162, 3) := by decide +kernel
theorem dX1_takesItem_21 : decode cX1_takesItem 21 = .ok (.ifCond .eq 36, 3) := by decide +kernel
theorem dX1_takesItem_24 : decode cX1_takesItem 24 = .ok (.aload_n 0, 1) := by decide +kernel
theorem dX1_takesItem_25 : decode cX1_takesItem 25 = .ok (.getfield 29, 3) := by decide +kernel
theorem dX1_takesItem_28 : decode cX1_takesItem 28 = .ok (.iconst 0, 1) := by decide +kernel
theorem dX1_takesItem_29 : decode cX1_takesItem 29 = .ok (.sipush 999, 3) := by decide +kernel
theorem dX1_takesItem_32 : decode cX1_takesItem 32 = .ok (.invokevirtual 103, 3) := by decide +kernel
theorem dX1_takesItem_35 : decode cX1_takesItem 35 = .ok (.ifCond .ne 5, 3) := by decide +kernel
theorem dX1_takesItem_38 : decode cX1_takesItem 38 = .ok (.iconst 0, 1) := by decide +kernel
theorem dX1_takesItem_39 : decode cX1_takesItem 39 = .ok (.ireturn, 1) := by decide +kernel
theorem dX1_takesItem_40 : decode cX1_takesItem 40 = .ok (.aload_n 0, 1) := by decide +kernel
theorem dX1_takesItem_41 : decode cX1_takesItem 41 = .ok (.sipush 1000, 3) := by decide +kernel
theorem dX1_takesItem_44 : decode cX1_takesItem 44 = .ok (.aload_n 0, 1) := by decide +kernel
theorem dX1_takesItem_45 : decode cX1_takesItem 45 = .ok (.getfield 29, 3) := by decide +kernel
theorem dX1_takesItem_48 : decode cX1_takesItem 48 = .ok (.getfield 106, 3) := by decide +kernel
theorem dX1_takesItem_51 : decode cX1_takesItem 51 = .ok (.iadd, 1) := by decide +kernel
theorem dX1_takesItem_52 : decode cX1_takesItem 52 = .ok (.putfield 26, 3) := by decide +kernel
theorem dX1_takesItem_55 : decode cX1_takesItem 55 = .ok (.iconst 1, 1) := by decide +kernel
theorem dX1_takesItem_56 : decode cX1_takesItem 56 = .ok (.ireturn, 1) := by decide +kernel
theorem dX1_takesItem_57 : decode cX1_takesItem 57 = .ok (.aload_n 0, 1) := by decide +kernel
theorem dX1_takesItem_58 : decode cX1_takesItem 58 = .ok (.getfield 29, 3) := by decide +kernel
theorem dX1_takesItem_61 : decode cX1_takesItem 61 = .ok (.invokevirtual 68, 3) := by decide +kernel
theorem dX1_takesItem_64 : decode cX1_takesItem 64 = .ok (.ifCond .ne 5, 3) := by decide +kernel
theorem dX1_takesItem_67 : decode cX1_takesItem 67 = .ok (.iconst 0, 1) := by decide +kernel
theorem dX1_takesItem_68 : decode cX1_takesItem 68 = .ok (.ireturn, 1) := by decide +kernel
theorem dX1_takesItem_69 : decode cX1_takesItem 69 = .ok (.aload_n 0, 1) := by decide +kernel
theorem dX1_takesItem_70 : decode cX1_takesItem 70 = .ok (.getfield 29, 3) := by decide +kernel
theorem dX1_takesItem_73 : decode cX1_takesItem 73 = .ok (.getfield 79, 3) := by decide +kernel
theorem dX1_takesItem_76 : decode cX1_takesItem 76 = .ok (.bipush 9, 2) := by decide +kernel
theorem dX1_takesItem_78 : decode cX1_takesItem 78 = .ok (.if_icmp .ne 12, 3) := by decide +kernel
theorem dX1_takesItem_81 : decode cX1_takesItem 81 = .ok (.aload_n 0, 1) := by decide +kernel
theorem dX1_takesItem_82 : decode cX1_takesItem 82 = .ok (.sipush 3047, 3) := by decide +kernel
theorem dX1_takesItem_85 : decode cX1_takesItem 85 = .ok (.putfield 26, 3) := by decide +kernel
theorem dX1_takesItem_88 : decode cX1_takesItem 88 = .ok (.iconst 1, 1) := by decide +kernel
theorem dX1_takesItem_89 : decode cX1_takesItem 89 = .ok (.ireturn, 1) := by decide +kernel
theorem dX1_takesItem_90 : decode cX1_takesItem 90 = .ok (.aload_n 0, 1) := by decide +kernel
theorem dX1_takesItem_91 : decode cX1_takesItem 91 = .ok (.getfield 29, 3) := by decide +kernel
theorem dX1_takesItem_94 : decode cX1_takesItem 94 = .ok (.invokevirtual 128, 3) := by decide +kernel
theorem dX1_takesItem_97 : decode cX1_takesItem 97 = .ok (.ifCond .eq 14, 3) := by decide +kernel
theorem dX1_takesItem_100 : decode cX1_takesItem 100 = .ok (.aload_n 0, 1) := by decide +kernel
theorem dX1_takesItem_101 : decode cX1_takesItem 101 = .ok (.invokevirtual 165, 3) := by decide +kernel
theorem dX1_takesItem_104 : decode cX1_takesItem 104 = .ok (.ifCond .eq 7, 3) := by decide +kernel
theorem dX1_takesItem_107 : decode cX1_takesItem 107 = .ok (.iconst 1, 1) := by decide +kernel
theorem dX1_takesItem_108 : decode cX1_takesItem 108 = .ok (.goto 4, 3) := by decide +kernel
theorem dX1_takesItem_111 : decode cX1_takesItem 111 = .ok (.iconst 0, 1) := by decide +kernel
theorem dX1_takesItem_112 : decode cX1_takesItem 112 = .ok (.ireturn, 1) := by decide +kernel
theorem dX1_takesNewName_0 : decode cX1_takesNewName 0 = .ok (.aload_n 0, 1) := by decide +kernel
theorem dX1_takesNewName_1 : decode cX1_takesNewName 1 = .ok (.getfield 29, 3) := by decide +kernel
theorem dX1_takesNewName_4 : decode cX1_takesNewName 4 = .ok (.invokevirtual 68, 3) := by decide +kernel
theorem dX1_takesNewName_7 : decode cX1_takesNewName 7 = .ok (.ifCond .eq 13, 3) := by decide +kernel
theorem dX1_takesNewName_10 : decode cX1_takesNewName 10 = .ok (.aload_n 0, 1) := by decide +kernel
