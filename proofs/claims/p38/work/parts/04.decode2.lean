theorem dX12_fail_13 : decode cX12_fail 13 = .ok (.aload_n 0, 1) := by decide +kernel
theorem dX12_fail_14 : decode cX12_fail 14 = .ok (.iload_n 2, 1) := by decide +kernel
theorem dX12_fail_15 : decode cX12_fail 15 = .ok (.putfield 197, 3) := by decide +kernel
theorem dX12_fail_18 : decode cX12_fail 18 = .ok (.return_, 1) := by decide +kernel
theorem dX12_failed_0 : decode cX12_failed 0 = .ok (.iload_n 1, 1) := by decide +kernel
theorem dX12_failed_1 : decode cX12_failed 1 = .ok (.ifCond .ne 10, 3) := by decide +kernel
theorem dX12_failed_4 : decode cX12_failed 4 = .ok (.aload_n 0, 1) := by decide +kernel
theorem dX12_failed_5 : decode cX12_failed 5 = .ok (.getfield 340, 3) := by decide +kernel
theorem dX12_failed_8 : decode cX12_failed 8 = .ok (.goto 16, 3) := by decide +kernel
theorem dX12_failed_11 : decode cX12_failed 11 = .ok (.iload_n 1, 1) := by decide +kernel
theorem dX12_failed_12 : decode cX12_failed 12 = .ok (.iconst 1, 1) := by decide +kernel
theorem dX12_failed_13 : decode cX12_failed 13 = .ok (.if_icmp .ne 10, 3) := by decide +kernel
theorem dX12_failed_16 : decode cX12_failed 16 = .ok (.aload_n 0, 1) := by decide +kernel
theorem dX12_failed_17 : decode cX12_failed 17 = .ok (.getfield 150, 3) := by decide +kernel
theorem dX12_failed_20 : decode cX12_failed 20 = .ok (.goto 4, 3) := by decide +kernel
theorem dX12_failed_23 : decode cX12_failed 23 = .ok (.iconst (-1), 1) := by decide +kernel
theorem dX12_failed_24 : decode cX12_failed 24 = .ok (.ireturn, 1) := by decide +kernel
theorem dX12_fails_0 : decode cX12_fails 0 = .ok (.aload_n 0, 1) := by decide +kernel
theorem dX12_fails_1 : decode cX12_fails 1 = .ok (.getfield 340, 3) := by decide +kernel
theorem dX12_fails_4 : decode cX12_fails 4 = .ok (.ifCond .eq 4, 3) := by decide +kernel
theorem dX12_fails_7 : decode cX12_fails 7 = .ok (.return_, 1) := by decide +kernel
theorem dX12_fails_8 : decode cX12_fails 8 = .ok (.aload_n 0, 1) := by decide +kernel
theorem dX12_fails_9 : decode cX12_fails 9 = .ok (.iload_n 1, 1) := by decide +kernel
theorem dX12_fails_10 : decode cX12_fails 10 = .ok (.putfield 340, 3) := by decide +kernel
theorem dX12_fails_13 : decode cX12_fails 13 = .ok (.aload_n 0, 1) := by decide +kernel
theorem dX12_fails_14 : decode cX12_fails 14 = .ok (.iload_n 2, 1) := by decide +kernel
theorem dX12_fails_15 : decode cX12_fails 15 = .ok (.putfield 150, 3) := by decide +kernel
theorem dX12_fails_18 : decode cX12_fails 18 = .ok (.aload_n 0, 1) := by decide +kernel
theorem dX12_fails_19 : decode cX12_fails 19 = .ok (.dup, 1) := by decide +kernel
theorem dX12_fails_20 : decode cX12_fails 20 = .ok (.getfield 598, 3) := by decide +kernel
theorem dX12_fails_23 : decode cX12_fails 23 = .ok (.iconst 1, 1) := by decide +kernel
theorem dX12_fails_24 : decode cX12_fails 24 = .ok (.isub, 1) := by decide +kernel
theorem dX12_fails_25 : decode cX12_fails 25 = .ok (.putfield 598, 3) := by decide +kernel
theorem dX12_fails_28 : decode cX12_fails 28 = .ok (.return_, 1) := by decide +kernel
theorem dX12_far_0 : decode cX12_far 0 = .ok (.aload_n 0, 1) := by decide +kernel
theorem dX12_far_1 : decode cX12_far 1 = .ok (.iload_n 1, 1) := by decide +kernel
theorem dX12_far_2 : decode cX12_far 2 = .ok (.invokevirtual 455, 3) := by decide +kernel
theorem dX12_far_5 : decode cX12_far 5 = .ok (.ifCond .eq 11, 3) := by decide +kernel
theorem dX12_far_8 : decode cX12_far 8 = .ok (.aload_n 0, 1) := by decide +kernel
theorem dX12_far_9 : decode cX12_far 9 = .ok (.iload_n 1, 1) := by decide +kernel
theorem dX12_far_10 : decode cX12_far 10 = .ok (.invokevirtual 375, 3) := by decide +kernel
theorem dX12_far_13 : decode cX12_far 13 = .ok (.ifCond .ne 5, 3) := by decide +kernel
theorem dX12_far_16 : decode cX12_far 16 = .ok (.iconst (-1), 1) := by decide +kernel
theorem dX12_far_17 : decode cX12_far 17 = .ok (.ireturn, 1) := by decide +kernel
theorem dX12_far_18 : decode cX12_far 18 = .ok (.aload_n 0, 1) := by decide +kernel
theorem dX12_far_19 : decode cX12_far 19 = .ok (.invokevirtual 464, 3) := by decide +kernel
theorem dX12_far_22 : decode cX12_far 22 = .ok (.aload_n 0, 1) := by decide +kernel
theorem dX12_far_23 : decode cX12_far 23 = .ok (.getfield 109, 3) := by decide +kernel
theorem dX12_far_26 : decode cX12_far 26 = .ok (.aload_n 0, 1) := by decide +kernel
theorem dX12_far_27 : decode cX12_far 27 = .ok (.getfield 90, 3) := by decide +kernel
theorem dX12_far_30 : decode cX12_far 30 = .ok (.iload_n 1, 1) := by decide +kernel
theorem dX12_far_31 : decode cX12_far 31 = .ok (.iaload, 1) := by decide +kernel
theorem dX12_far_32 : decode cX12_far 32 = .ok (.iaload, 1) := by decide +kernel
theorem dX12_far_33 : decode cX12_far 33 = .ok (.ireturn, 1) := by decide +kernel
theorem dX12_fault_0 : decode cX12_fault 0 = .ok (.iload_n 1, 1) := by decide +kernel
theorem dX12_fault_1 : decode cX12_fault 1 = .ok (.ifCond .ne 10, 3) := by decide +kernel
theorem dX12_fault_4 : decode cX12_fault 4 = .ok (.aload_n 0, 1) := by decide +kernel
theorem dX12_fault_5 : decode cX12_fault 5 = .ok (.getfield 182, 3) := by decide +kernel
theorem dX12_fault_8 : decode cX12_fault 8 = .ok (.goto 16, 3) := by decide +kernel
theorem dX12_fault_11 : decode cX12_fault 11 = .ok (.iload_n 1, 1) := by decide +kernel
theorem dX12_fault_12 : decode cX12_fault 12 = .ok (.iconst 1, 1) := by decide +kernel
theorem dX12_fault_13 : decode cX12_fault 13 = .ok (.if_icmp .ne 10, 3) := by decide +kernel
theorem dX12_fault_16 : decode cX12_fault 16 = .ok (.aload_n 0, 1) := by decide +kernel
theorem dX12_fault_17 : decode cX12_fault 17 = .ok (.getfield 13, 3) := by decide +kernel
theorem dX12_fault_20 : decode cX12_fault 20 = .ok (.goto 4, 3) := by decide +kernel
theorem dX12_fault_23 : decode cX12_fault 23 = .ok (.iconst (-1), 1) := by decide +kernel
theorem dX12_fault_24 : decode cX12_fault 24 = .ok (.ireturn, 1) := by decide +kernel
theorem dX12_feed_0 : decode cX12_feed 0 = .ok (.aload_n 0, 1) := by decide +kernel
theorem dX12_feed_1 : decode cX12_feed 1 = .ok (.getfield 165, 3) := by decide +kernel
theorem dX12_feed_4 : decode cX12_feed 4 = .ok (.bipush 20, 2) := by decide +kernel
theorem dX12_feed_6 : decode cX12_feed 6 = .ok (.iadd, 1) := by decide +kernel
theorem dX12_feed_7 : decode cX12_feed 7 = .ok (.sipush 1600, 3) := by decide +kernel
theorem dX12_feed_10 : decode cX12_feed 10 = .ok (.if_icmp .le 9, 3) := by decide +kernel
theorem dX12_feed_13 : decode cX12_feed 13 = .ok (.aload_n 0, 1) := by decide +kernel
theorem dX12_feed_14 : decode cX12_feed 14 = .ok (.iconst 0, 1) := by decide +kernel
theorem dX12_feed_15 : decode cX12_feed 15 = .ok (.invokevirtual 168, 3) := by decide +kernel
theorem dX12_feed_18 : decode cX12_feed 18 = .ok (.ireturn, 1) := by decide +kernel
theorem dX12_feed_19 : decode cX12_feed 19 = .ok (.iconst 0, 1) := by decide +kernel
theorem dX12_feed_20 : decode cX12_feed 20 = .ok (.istore 6, 2) := by decide +kernel
theorem dX12_feed_22 : decode cX12_feed 22 = .ok (.iload 6, 2) := by decide +kernel
theorem dX12_feed_24 : decode cX12_feed 24 = .ok (.bipush 20, 2) := by decide +kernel
theorem dX12_feed_26 : decode cX12_feed 26 = .ok (.if_icmp .ge 92, 3) := by decide +kernel
theorem dX12_feed_29 : decode cX12_feed 29 = .ok (.iload 6, 2) := by decide +kernel
theorem dX12_feed_31 : decode cX12_feed 31 = .ok (.iconst 4, 1) := by decide +kernel
theorem dX12_feed_32 : decode cX12_feed 32 = .ok (.if_icmp .ge 7, 3) := by decide +kernel
theorem dX12_feed_35 : decode cX12_feed 35 = .ok (.iload_n 1, 1) := by decide +kernel
theorem dX12_feed_36 : decode cX12_feed 36 = .ok (.goto 39, 3) := by decide +kernel
theorem dX12_feed_39 : decode cX12_feed 39 = .ok (.iload 6, 2) := by decide +kernel
theorem dX12_feed_41 : decode cX12_feed 41 = .ok (.bipush 8, 2) := by decide +kernel
theorem dX12_feed_43 : decode cX12_feed 43 = .ok (.if_icmp .ge 7, 3) := by decide +kernel
theorem dX12_feed_46 : decode cX12_feed 46 = .ok (.iload_n 2, 1) := by decide +kernel
theorem dX12_feed_47 : decode cX12_feed 47 = .ok (.goto 28, 3) := by decide +kernel
theorem dX12_feed_50 : decode cX12_feed 50 = .ok (.iload 6, 2) := by decide +kernel
theorem dX12_feed_52 : decode cX12_feed 52 = .ok (.bipush 12, 2) := by decide +kernel
theorem dX12_feed_54 : decode cX12_feed 54 = .ok (.if_icmp .ge 7, 3) := by decide +kernel
theorem dX12_feed_57 : decode cX12_feed 57 = .ok (.iload_n 3, 1) := by decide +kernel
theorem dX12_feed_58 : decode cX12_feed 58 = .ok (.goto 17, 3) := by decide +kernel
theorem dX12_feed_61 : decode cX12_feed 61 = .ok (.iload 6, 2) := by decide +kernel
theorem dX12_feed_63 : decode cX12_feed 63 = .ok (.bipush 16, 2) := by decide +kernel
theorem dX12_feed_65 : decode cX12_feed 65 = .ok (.if_icmp .ge 8, 3) := by decide +kernel
theorem dX12_feed_68 : decode cX12_feed 68 = .ok (.iload 4, 2) := by decide +kernel
theorem dX12_feed_70 : decode cX12_feed 70 = .ok (.goto 5, 3) := by decide +kernel
theorem dX12_feed_73 : decode cX12_feed 73 = .ok (.iload 5, 2) := by decide +kernel
theorem dX12_feed_75 : decode cX12_feed 75 = .ok (.istore 7, 2) := by decide +kernel
theorem dX12_feed_77 : decode cX12_feed 77 = .ok (.aload_n 0, 1) := by decide +kernel
theorem dX12_feed_78 : decode cX12_feed 78 = .ok (.getfield 7, 3) := by decide +kernel
theorem dX12_feed_81 : decode cX12_feed 81 = .ok (.aload_n 0, 1) := by decide +kernel
theorem dX12_feed_82 : decode cX12_feed 82 = .ok (.getfield 165, 3) := by decide +kernel
theorem dX12_feed_85 : decode cX12_feed 85 = .ok (.iload 7, 2) := by decide +kernel
theorem dX12_feed_87 : decode cX12_feed 87 = .ok (.bipush 8, 2) := by decide +kernel
theorem dX12_feed_89 : decode cX12_feed 89 = .ok (.iconst 3, 1) := by decide +kernel
theorem dX12_feed_90 : decode cX12_feed 90 = .ok (.iload 6, 2) := by decide +kernel
theorem dX12_feed_92 : decode cX12_feed 92 = .ok (.iconst 4, 1) := by decide +kernel
theorem dX12_feed_93 : decode cX12_feed 93 = .ok (.irem, 1) := by decide +kernel
theorem dX12_feed_94 : decode cX12_feed 94 = .ok (.isub, 1) := by decide +kernel
theorem dX12_feed_95 : decode cX12_feed 95 = .ok (.imul, 1) := by decide +kernel
theorem dX12_feed_96 : decode cX12_feed 96 = .ok (.ishr, 1) := by decide +kernel
theorem dX12_feed_97 : decode cX12_feed 97 = .ok (.sipush 255, 3) := by decide +kernel
theorem dX12_feed_100 : decode cX12_feed 100 = .ok (.iand, 1) := by decide +kernel
theorem dX12_feed_101 : decode cX12_feed 101 = .ok (.iastore, 1) := by decide +kernel
theorem dX12_feed_102 : decode cX12_feed 102 = .ok (.aload_n 0, 1) := by decide +kernel
theorem dX12_feed_103 : decode cX12_feed 103 = .ok (.dup, 1) := by decide +kernel
theorem dX12_feed_104 : decode cX12_feed 104 = .ok (.getfield 165, 3) := by decide +kernel
theorem dX12_feed_107 : decode cX12_feed 107 = .ok (.iconst 1, 1) := by decide +kernel
theorem dX12_feed_108 : decode cX12_feed 108 = .ok (.iadd, 1) := by decide +kernel
theorem dX12_feed_109 : decode cX12_feed 109 = .ok (.putfield 165, 3) := by decide +kernel
theorem dX12_feed_112 : decode cX12_feed 112 = .ok (.iinc 6 1, 3) := by decide +kernel
theorem dX12_feed_115 : decode cX12_feed 115 = .ok (.goto (-93), 3) := by decide +kernel
theorem dX12_feed_118 : decode cX12_feed 118 = .ok (.aload_n 0, 1) := by decide +kernel
theorem dX12_feed_119 : decode cX12_feed 119 = .ok (.getfield 165, 3) := by decide +kernel
theorem dX12_feed_122 : decode cX12_feed 122 = .ok (.ireturn, 1) := by decide +kernel
theorem dX12_fieldBy_0 : decode cX12_fieldBy 0 = .ok (.aload_n 0, 1) := by decide +kernel
theorem dX12_fieldBy_1 : decode cX12_fieldBy 1 = .ok (.getfield 610, 3) := by decide +kernel
theorem dX12_fieldBy_4 : decode cX12_fieldBy 4 = .ok (.iconst 1, 1) := by decide +kernel
theorem dX12_fieldBy_5 : decode cX12_fieldBy 5 = .ok (.if_icmp .ne 11, 3) := by decide +kernel
theorem dX12_fieldBy_8 : decode cX12_fieldBy 8 = .ok (.aload_n 0, 1) := by decide +kernel
theorem dX12_fieldBy_9 : decode cX12_fieldBy 9 = .ok (.getfield 613, 3) := by decide +kernel
theorem dX12_fieldBy_12 : decode cX12_fieldBy 12 = .ok (.iconst (-1), 1) := by decide +kernel
theorem dX12_fieldBy_13 : decode cX12_fieldBy 13 = .ok (.if_icmp .ne 11, 3) := by decide +kernel
theorem dX12_fieldBy_16 : decode cX12_fieldBy 16 = .ok (.aload_n 0, 1) := by decide +kernel
theorem dX12_fieldBy_17 : decode cX12_fieldBy 17 = .ok (.iconst 1, 1) := by decide +kernel
theorem dX12_fieldBy_18 : decode cX12_fieldBy 18 = .ok (.iload_n 2, 1) := by decide +kernel
theorem dX12_fieldBy_19 : decode cX12_fieldBy 19 = .ok (.invokevirtual 616, 3) := by decide +kernel
theorem dX12_fieldBy_22 : decode cX12_fieldBy 22 = .ok (.iconst (-1), 1) := by decide +kernel
theorem dX12_fieldBy_23 : decode cX12_fieldBy 23 = .ok (.ireturn, 1) := by decide +kernel
theorem dX12_fieldBy_24 : decode cX12_fieldBy 24 = .ok (.aload_n 0, 1) := by decide +kernel
theorem dX12_fieldBy_25 : decode cX12_fieldBy 25 = .ok (.aload_n 0, 1) := by decide +kernel
theorem dX12_fieldBy_26 : decode cX12_fieldBy 26 = .ok (.getfield 613, 3) := by decide +kernel
theorem dX12_fieldBy_29 : decode cX12_fieldBy 29 = .ok (.invokevirtual 563, 3) := by decide +kernel
theorem dX12_fieldBy_32 : decode cX12_fieldBy 32 = .ok (.istore_n 3, 1) := by decide +kernel
theorem dX12_fieldBy_33 : decode cX12_fieldBy 33 = .ok (.iload_n 1, 1) := by decide +kernel
theorem dX12_fieldBy_34 : decode cX12_fieldBy 34 = .ok (.aload_n 0, 1) := by decide +kernel
theorem dX12_fieldBy_35 : decode cX12_fieldBy 35 = .ok (.aload_n 0, 1) := by decide +kernel
theorem dX12_fieldBy_36 : decode cX12_fieldBy 36 = .ok (.getfield 78, 3) := by decide +kernel
theorem dX12_fieldBy_39 : decode cX12_fieldBy 39 = .ok (.iload_n 3, 1) := by decide +kernel
theorem dX12_fieldBy_40 : decode cX12_fieldBy 40 = .ok (.invokestatic 244, 3) := by decide +kernel
theorem dX12_fieldBy_43 : decode cX12_fieldBy 43 = .ok (.invokevirtual 234, 3) := by decide +kernel
theorem dX12_fieldBy_46 : decode cX12_fieldBy 46 = .ok (.if_icmp .lt 11, 3) := by decide +kernel
theorem dX12_fieldBy_49 : decode cX12_fieldBy 49 = .ok (.aload_n 0, 1) := by decide +kernel
theorem dX12_fieldBy_50 : decode cX12_fieldBy 50 = .ok (.iconst 2, 1) := by decide +kernel
theorem dX12_fieldBy_51 : decode cX12_fieldBy 51 = .ok (.iload_n 2, 1) := by decide +kernel
theorem dX12_fieldBy_52 : decode cX12_fieldBy 52 = .ok (.invokevirtual 616, 3) := by decide +kernel
theorem dX12_fieldBy_55 : decode cX12_fieldBy 55 = .ok (.iconst (-1), 1) := by decide +kernel
theorem dX12_fieldBy_56 : decode cX12_fieldBy 56 = .ok (.ireturn, 1) := by decide +kernel
theorem dX12_fieldBy_57 : decode cX12_fieldBy 57 = .ok (.iload_n 3, 1) := by decide +kernel
theorem dX12_fieldBy_58 : decode cX12_fieldBy 58 = .ok (.iconst 1, 1) := by decide +kernel
theorem dX12_fieldBy_59 : decode cX12_fieldBy 59 = .ok (.iadd, 1) := by decide +kernel
theorem dX12_fieldBy_60 : decode cX12_fieldBy 60 = .ok (.iload_n 1, 1) := by decide +kernel
theorem dX12_fieldBy_61 : decode cX12_fieldBy 61 = .ok (.iadd, 1) := by decide +kernel
theorem dX12_fieldBy_62 : decode cX12_fieldBy 62 = .ok (.ireturn, 1) := by decide +kernel
theorem dX12_fieldMany_0 : decode cX12_fieldMany 0 = .ok (.aload_n 0, 1) := by decide +kernel
theorem dX12_fieldMany_1 : decode cX12_fieldMany 1 = .ok (.getfield 63, 3) := by decide +kernel
theorem dX12_fieldMany_4 : decode cX12_fieldMany 4 = .ok (.bipush 6, 2) := by decide +kernel
theorem dX12_fieldMany_6 : decode cX12_fieldMany 6 = .ok (.iload_n 1, 1) := by decide +kernel
theorem dX12_fieldMany_7 : decode cX12_fieldMany 7 = .ok (.iadd, 1) := by decide +kernel
theorem dX12_fieldMany_8 : decode cX12_fieldMany 8 = .ok (.iaload, 1) := by decide +kernel
theorem dX12_fieldMany_9 : decode cX12_fieldMany 9 = .ok (.ireturn, 1) := by decide +kernel
theorem dX12_finds_0 : decode cX12_finds 0 = .ok (.iload_n 1, 1) := by decide +kernel
theorem dX12_finds_1 : decode cX12_finds 1 = .ok (.iconst (-1), 1) := by decide +kernel
theorem dX12_finds_2 : decode cX12_finds 2 = .ok (.if_icmp .eq 13, 3) := by decide +kernel
theorem dX12_finds_5 : decode cX12_finds 5 = .ok (.aload_n 0, 1) := by decide +kernel
theorem dX12_finds_6 : decode cX12_finds 6 = .ok (.getfield 118, 3) := by decide +kernel
theorem dX12_finds_9 : decode cX12_finds 9 = .ok (.iload_n 1, 1) := by decide +kernel
theorem dX12_finds_10 : decode cX12_finds 10 = .ok (.iaload, 1) := by decide +kernel
theorem dX12_finds_11 : decode cX12_finds 11 = .ok (.iconst (-1), 1) := by decide +kernel
theorem dX12_finds_12 : decode cX12_finds 12 = .ok (.if_icmp .eq 4, 3) := by decide +kernel
theorem dX12_finds_15 : decode cX12_finds 15 = .ok (.return_, 1) := by decide +kernel
theorem dX12_finds_16 : decode cX12_finds 16 = .ok (.aload_n 0, 1) := by decide +kernel
theorem dX12_finds_17 : decode cX12_finds 17 = .ok (.getfield 118, 3) := by decide +kernel
theorem dX12_finds_20 : decode cX12_finds 20 = .ok (.iload_n 1, 1) := by decide +kernel
theorem dX12_finds_21 : decode cX12_finds 21 = .ok (.aload_n 0, 1) := by decide +kernel
theorem dX12_finds_22 : decode cX12_finds 22 = .ok (.getfield 484, 3) := by decide +kernel
theorem dX12_finds_25 : decode cX12_finds 25 = .ok (.iastore, 1) := by decide +kernel
theorem dX12_finds_26 : decode cX12_finds 26 = .ok (.aload_n 0, 1) := by decide +kernel
theorem dX12_finds_27 : decode cX12_finds 27 = .ok (.getfield 115, 3) := by decide +kernel
theorem dX12_finds_30 : decode cX12_finds 30 = .ok (.aload_n 0, 1) := by decide +kernel
theorem dX12_finds_31 : decode cX12_finds 31 = .ok (.getfield 484, 3) := by decide +kernel
theorem dX12_finds_34 : decode cX12_finds 34 = .ok (.iload_n 1, 1) := by decide +kernel
theorem dX12_finds_35 : decode cX12_finds 35 = .ok (.iastore, 1) := by decide +kernel
theorem dX12_finds_36 : decode cX12_finds 36 = .ok (.aload_n 0, 1) := by decide +kernel
theorem dX12_finds_37 : decode cX12_finds 37 = .ok (.dup, 1) := by decide +kernel
theorem dX12_finds_38 : decode cX12_finds 38 = .ok (.getfield 484, 3) := by decide +kernel
theorem dX12_finds_41 : decode cX12_finds 41 = .ok (.iconst 1, 1) := by decide +kernel
theorem dX12_finds_42 : decode cX12_finds 42 = .ok (.iadd, 1) := by decide +kernel
theorem dX12_finds_43 : decode cX12_finds 43 = .ok (.putfield 484, 3) := by decide +kernel
theorem dX12_finds_46 : decode cX12_finds 46 = .ok (.return_, 1) := by decide +kernel
theorem dX12_findsAll_0 : decode cX12_findsAll 0 = .ok (.aload_n 0, 1) := by decide +kernel
theorem dX12_findsAll_1 : decode cX12_findsAll 1 = .ok (.iconst 0, 1) := by decide +kernel
theorem dX12_findsAll_2 : decode cX12_findsAll 2 = .ok (.putfield 484, 3) := by decide +kernel
theorem dX12_findsAll_5 : decode cX12_findsAll 5 = .ok (.iconst 0, 1) := by decide +kernel
theorem dX12_findsAll_6 : decode cX12_findsAll 6 = .ok (.istore_n 1, 1) := by decide +kernel
theorem dX12_findsAll_7 : decode cX12_findsAll 7 = .ok (.iload_n 1, 1) := by decide +kernel
theorem dX12_findsAll_8 : decode cX12_findsAll 8 = .ok (.aload_n 0, 1) := by decide +kernel
theorem dX12_findsAll_9 : decode cX12_findsAll 9 = .ok (.getfield 343, 3) := by decide +kernel
theorem dX12_findsAll_12 : decode cX12_findsAll 12 = .ok (.if_icmp .ge 16, 3) := by decide +kernel
theorem dX12_findsAll_15 : decode cX12_findsAll 15 = .ok (.aload_n 0, 1) := by decide +kernel
theorem dX12_findsAll_16 : decode cX12_findsAll 16 = .ok (.getfield 118, 3) := by decide +kernel
theorem dX12_findsAll_19 : decode cX12_findsAll 19 = .ok (.iload_n 1, 1) := by decide +kernel
theorem dX12_findsAll_20 : decode cX12_findsAll 20 = .ok (.iconst (-1), 1) := by decide +kernel
theorem dX12_findsAll_21 : decode cX12_findsAll 21 = .ok (.iastore, 1) := by decide +kernel
theorem dX12_findsAll_22 : decode cX12_findsAll 22 = .ok (.iinc 1 1, 3) := by decide +kernel
theorem dX12_findsAll_25 : decode cX12_findsAll 25 = .ok (.goto (-18), 3) := by decide +kernel
theorem dX12_findsAll_28 : decode cX12_findsAll 28 = .ok (.bipush (-8), 2) := by decide +kernel
theorem dX12_findsAll_30 : decode cX12_findsAll 30 = .ok (.istore_n 1, 1) := by decide +kernel
theorem dX12_findsAll_31 : decode cX12_findsAll 31 = .ok (.iload_n 1, 1) := by decide +kernel
theorem dX12_findsAll_32 : decode cX12_findsAll 32 = .ok (.ifCond .ge 18, 3) := by decide +kernel
theorem dX12_findsAll_35 : decode cX12_findsAll 35 = .ok (.aload_n 0, 1) := by decide +kernel
theorem dX12_findsAll_36 : decode cX12_findsAll 36 = .ok (.aload_n 0, 1) := by decide +kernel
theorem dX12_findsAll_37 : decode cX12_findsAll 37 = .ok (.iload_n 1, 1) := by decide +kernel
theorem dX12_findsAll_38 : decode cX12_findsAll 38 = .ok (.invokevirtual 359, 3) := by decide +kernel
theorem dX12_findsAll_41 : decode cX12_findsAll 41 = .ok (.invokevirtual 487, 3) := by decide +kernel
theorem dX12_findsAll_44 : decode cX12_findsAll 44 = .ok (.iinc 1 1, 3) := by decide +kernel
theorem dX12_findsAll_47 : decode cX12_findsAll 47 = .ok (.goto (-16), 3) := by decide +kernel
theorem dX12_findsAll_50 : decode cX12_findsAll 50 = .ok (.iconst 0, 1) := by decide +kernel
theorem dX12_findsAll_51 : decode cX12_findsAll 51 = .ok (.istore_n 1, 1) := by decide +kernel
theorem dX12_findsAll_52 : decode cX12_findsAll 52 = .ok (.iload_n 1, 1) := by decide +kernel
theorem dX12_findsAll_53 : decode cX12_findsAll 53 = .ok (.aload_n 0, 1) := by decide +kernel
theorem dX12_findsAll_54 : decode cX12_findsAll 54 = .ok (.getfield 484, 3) := by decide +kernel
theorem dX12_findsAll_57 : decode cX12_findsAll 57 = .ok (.if_icmp .ge 47, 3) := by decide +kernel
theorem dX12_findsAll_60 : decode cX12_findsAll 60 = .ok (.aload_n 0, 1) := by decide +kernel
theorem dX12_findsAll_61 : decode cX12_findsAll 61 = .ok (.getfield 115, 3) := by decide +kernel
theorem dX12_findsAll_64 : decode cX12_findsAll 64 = .ok (.iload_n 1, 1) := by decide +kernel
theorem dX12_findsAll_65 : decode cX12_findsAll 65 = .ok (.iaload, 1) := by decide +kernel
theorem dX12_findsAll_66 : decode cX12_findsAll 66 = .ok (.istore_n 2, 1) := by decide +kernel
theorem dX12_findsAll_67 : decode cX12_findsAll 67 = .ok (.iconst 0, 1) := by decide +kernel
theorem dX12_findsAll_68 : decode cX12_findsAll 68 = .ok (.istore_n 3, 1) := by decide +kernel
theorem dX12_findsAll_69 : decode cX12_findsAll 69 = .ok (.iload_n 3, 1) := by decide +kernel
theorem dX12_findsAll_70 : decode cX12_findsAll 70 = .ok (.aload_n 0, 1) := by decide +kernel
theorem dX12_findsAll_71 : decode cX12_findsAll 71 = .ok (.aload_n 0, 1) := by decide +kernel
theorem dX12_findsAll_72 : decode cX12_findsAll 72 = .ok (.iload_n 2, 1) := by decide +kernel
theorem dX12_findsAll_73 : decode cX12_findsAll 73 = .ok (.invokevirtual 353, 3) := by decide +kernel
theorem dX12_findsAll_76 : decode cX12_findsAll 76 = .ok (.invokevirtual 234, 3) := by decide +kernel
theorem dX12_findsAll_79 : decode cX12_findsAll 79 = .ok (.if_icmp .ge 19, 3) := by decide +kernel
theorem dX12_findsAll_82 : decode cX12_findsAll 82 = .ok (.aload_n 0, 1) := by decide +kernel
theorem dX12_findsAll_83 : decode cX12_findsAll 83 = .ok (.aload_n 0, 1) := by decide +kernel
theorem dX12_findsAll_84 : decode cX12_findsAll 84 = .ok (.iload_n 2, 1) := by decide +kernel
theorem dX12_findsAll_85 : decode cX12_findsAll 85 = .ok (.iload_n 3, 1) := by decide +kernel
theorem dX12_findsAll_86 : decode cX12_findsAll 86 = .ok (.invokevirtual 369, 3) := by decide +kernel
theorem dX12_findsAll_89 : decode cX12_findsAll 89 = .ok (.invokevirtual 487, 3) := by decide +kernel
theorem dX12_findsAll_92 : decode cX12_findsAll 92 = .ok (.iinc 3 1, 3) := by decide +kernel
theorem dX12_findsAll_95 : decode cX12_findsAll 95 = .ok (.goto (-26), 3) := by decide +kernel
theorem dX12_findsAll_98 : decode cX12_findsAll 98 = .ok (.iinc 1 1, 3) := by decide +kernel
theorem dX12_findsAll_101 : decode cX12_findsAll 101 = .ok (.goto (-49), 3) := by decide +kernel
theorem dX12_findsAll_104 : decode cX12_findsAll 104 = .ok (.return_, 1) := by decide +kernel
theorem dX12_forward_0 : decode cX12_forward 0 = .ok (.aload_n 0, 1) := by decide +kernel
theorem dX12_forward_1 : decode cX12_forward 1 = .ok (.iload_n 1, 1) := by decide +kernel
theorem dX12_forward_2 : decode cX12_forward 2 = .ok (.aload_n 0, 1) := by decide +kernel
theorem dX12_forward_3 : decode cX12_forward 3 = .ok (.getfield 100, 3) := by decide +kernel
theorem dX12_forward_6 : decode cX12_forward 6 = .ok (.iload_n 1, 1) := by decide +kernel
theorem dX12_forward_7 : decode cX12_forward 7 = .ok (.iaload, 1) := by decide +kernel
theorem dX12_forward_8 : decode cX12_forward 8 = .ok (.invokevirtual 393, 3) := by decide +kernel
theorem dX12_forward_11 : decode cX12_forward 11 = .ok (.aload_n 0, 1) := by decide +kernel
theorem dX12_forward_12 : decode cX12_forward 12 = .ok (.getfield 84, 3) := by decide +kernel
theorem dX12_forward_15 : decode cX12_forward 15 = .ok (.iload_n 1, 1) := by decide +kernel
theorem dX12_forward_16 : decode cX12_forward 16 = .ok (.invokestatic 349, 3) := by decide +kernel
theorem dX12_forward_19 : decode cX12_forward 19 = .ok (.ifCond .ne 4, 3) := by decide +kernel
theorem dX12_forward_22 : decode cX12_forward 22 = .ok (.return_, 1) := by decide +kernel
theorem dX12_forward_23 : decode cX12_forward 23 = .ok (.aload_n 0, 1) := by decide +kernel
theorem dX12_forward_24 : decode cX12_forward 24 = .ok (.getfield 84, 3) := by decide +kernel
theorem dX12_forward_27 : decode cX12_forward 27 = .ok (.iload_n 1, 1) := by decide +kernel
theorem dX12_forward_28 : decode cX12_forward 28 = .ok (.invokestatic 244, 3) := by decide +kernel
theorem dX12_forward_31 : decode cX12_forward 31 = .ok (.istore_n 2, 1) := by decide +kernel
theorem dX12_forward_32 : decode cX12_forward 32 = .ok (.iload_n 2, 1) := by decide +kernel
theorem dX12_forward_33 : decode cX12_forward 33 = .ok (.iload_n 1, 1) := by decide +kernel
theorem dX12_forward_34 : decode cX12_forward 34 = .ok (.if_icmp .le 11, 3) := by decide +kernel
theorem dX12_forward_37 : decode cX12_forward 37 = .ok (.aload_n 0, 1) := by decide +kernel
theorem dX12_forward_38 : decode cX12_forward 38 = .ok (.iload_n 1, 1) := by decide +kernel
theorem dX12_forward_39 : decode cX12_forward 39 = .ok (.invokevirtual 396, 3) := by decide +kernel
theorem dX12_forward_42 : decode cX12_forward 42 = .ok (.goto 23, 3) := by decide +kernel
theorem dX12_forward_45 : decode cX12_forward 45 = .ok (.iload_n 2, 1) := by decide +kernel
theorem dX12_forward_46 : decode cX12_forward 46 = .ok (.iload_n 1, 1) := by decide +kernel
theorem dX12_forward_47 : decode cX12_forward 47 = .ok (.if_icmp .ne 18, 3) := by decide +kernel
theorem dX12_forward_50 : decode cX12_forward 50 = .ok (.aload_n 0, 1) := by decide +kernel
theorem dX12_forward_51 : decode cX12_forward 51 = .ok (.getfield 84, 3) := by decide +kernel
theorem dX12_forward_54 : decode cX12_forward 54 = .ok (.iload_n 1, 1) := by decide +kernel
theorem dX12_forward_55 : decode cX12_forward 55 = .ok (.iconst 1, 1) := by decide +kernel
theorem dX12_forward_56 : decode cX12_forward 56 = .ok (.aload_n 0, 1) := by decide +kernel
theorem dX12_forward_57 : decode cX12_forward 57 = .ok (.getfield 100, 3) := by decide +kernel
theorem dX12_forward_60 : decode cX12_forward 60 = .ok (.iload_n 1, 1) := by decide +kernel
theorem dX12_forward_61 : decode cX12_forward 61 = .ok (.iaload, 1) := by decide +kernel
theorem dX12_forward_62 : decode cX12_forward 62 = .ok (.invokestatic 247, 3) := by decide +kernel
theorem dX12_forward_65 : decode cX12_forward 65 = .ok (.return_, 1) := by decide +kernel
theorem dX12_found_0 : decode cX12_found 0 = .ok (.aload_n 0, 1) := by decide +kernel
theorem dX12_found_1 : decode cX12_found 1 = .ok (.invokevirtual 452, 3) := by decide +kernel
theorem dX12_found_4 : decode cX12_found 4 = .ok (.ifCond .ne 5, 3) := by decide +kernel
theorem dX12_found_7 : decode cX12_found 7 = .ok (.iconst (-1), 1) := by decide +kernel
theorem dX12_found_8 : decode cX12_found 8 = .ok (.ireturn, 1) := by decide +kernel
theorem dX12_found_9 : decode cX12_found 9 = .ok (.aload_n 0, 1) := by decide +kernel
theorem dX12_found_10 : decode cX12_found 10 = .ok (.invokevirtual 490, 3) := by decide +kernel
theorem dX12_found_13 : decode cX12_found 13 = .ok (.iload_n 1, 1) := by decide +kernel
theorem dX12_found_14 : decode cX12_found 14 = .ok (.iconst (-1), 1) := by decide +kernel
theorem dX12_found_15 : decode cX12_found 15 = .ok (.if_icmp .ne 10, 3) := by decide +kernel
theorem dX12_found_18 : decode cX12_found 18 = .ok (.aload_n 0, 1) := by decide +kernel
theorem dX12_found_19 : decode cX12_found 19 = .ok (.getfield 484, 3) := by decide +kernel
theorem dX12_found_22 : decode cX12_found 22 = .ok (.goto 34, 3) := by decide +kernel
theorem dX12_found_25 : decode cX12_found 25 = .ok (.iload_n 1, 1) := by decide +kernel
theorem dX12_found_26 : decode cX12_found 26 = .ok (.i2l, 1) := by decide +kernel
theorem dX12_found_27 : decode cX12_found 27 = .ok (.lconst 0, 1) := by decide +kernel
theorem dX12_found_28 : decode cX12_found 28 = .ok (.aload_n 0, 1) := by decide +kernel
theorem dX12_found_29 : decode cX12_found 29 = .ok (.getfield 484, 3) := by decide +kernel
theorem dX12_found_32 : decode cX12_found 32 = .ok (.iconst 1, 1) := by decide +kernel
theorem dX12_found_33 : decode cX12_found 33 = .ok (.isub, 1) := by decide +kernel
theorem dX12_found_34 : decode cX12_found 34 = .ok (.i2l, 1) := by decide +kernel
theorem dX12_found_35 : decode cX12_found 35 = .ok (.invokestatic 178, 3) := by decide +kernel
theorem dX12_found_38 : decode cX12_found 38 = .ok (.ifCond .eq 17, 3) := by decide +kernel
theorem dX12_found_41 : decode cX12_found 41 = .ok (.aload_n 0, 1) := by decide +kernel
theorem dX12_found_42 : decode cX12_found 42 = .ok (.getfield 87, 3) := by decide +kernel
theorem dX12_found_45 : decode cX12_found 45 = .ok (.aload_n 0, 1) := by decide +kernel
theorem dX12_found_46 : decode cX12_found 46 = .ok (.getfield 115, 3) := by decide +kernel
theorem dX12_found_49 : decode cX12_found 49 = .ok (.iload_n 1, 1) := by decide +kernel
theorem dX12_found_50 : decode cX12_found 50 = .ok (.iaload, 1) := by decide +kernel
theorem dX12_found_51 : decode cX12_found 51 = .ok (.iaload, 1) := by decide +kernel
theorem dX12_found_52 : decode cX12_found 52 = .ok (.goto 4, 3) := by decide +kernel
theorem dX12_found_55 : decode cX12_found 55 = .ok (.iconst (-1), 1) := by decide +kernel
theorem dX12_found_56 : decode cX12_found 56 = .ok (.ireturn, 1) := by decide +kernel
theorem dX12_goes_0 : decode cX12_goes 0 = .ok (.aload_n 0, 1) := by decide +kernel
theorem dX12_goes_1 : decode cX12_goes 1 = .ok (.iload_n 1, 1) := by decide +kernel
theorem dX12_goes_2 : decode cX12_goes 2 = .ok (.invokevirtual 455, 3) := by decide +kernel
theorem dX12_goes_5 : decode cX12_goes 5 = .ok (.ifCond .eq 12, 3) := by decide +kernel
theorem dX12_goes_8 : decode cX12_goes 8 = .ok (.aload_n 0, 1) := by decide +kernel
theorem dX12_goes_9 : decode cX12_goes 9 = .ok (.getfield 100, 3) := by decide +kernel
theorem dX12_goes_12 : decode cX12_goes 12 = .ok (.iload_n 1, 1) := by decide +kernel
theorem dX12_goes_13 : decode cX12_goes 13 = .ok (.iaload, 1) := by decide +kernel
theorem dX12_goes_14 : decode cX12_goes 14 = .ok (.goto 4, 3) := by decide +kernel
theorem dX12_goes_17 : decode cX12_goes 17 = .ok (.iconst (-1), 1) := by decide +kernel
theorem dX12_goes_18 : decode cX12_goes 18 = .ok (.ireturn, 1) := by decide +kernel
theorem dX12_goesOn_0 : decode cX12_goesOn 0 = .ok (.aload_n 0, 1) := by decide +kernel
theorem dX12_goesOn_1 : decode cX12_goesOn 1 = .ok (.iload_n 1, 1) := by decide +kernel
theorem dX12_goesOn_2 : decode cX12_goesOn 2 = .ok (.putfield 188, 3) := by decide +kernel
theorem dX12_goesOn_5 : decode cX12_goesOn 5 = .ok (.aload_n 0, 1) := by decide +kernel
theorem dX12_goesOn_6 : decode cX12_goesOn 6 = .ok (.iconst (-1), 1) := by decide +kernel
theorem dX12_goesOn_7 : decode cX12_goesOn 7 = .ok (.putfield 191, 3) := by decide +kernel
theorem dX12_goesOn_10 : decode cX12_goesOn 10 = .ok (.return_, 1) := by decide +kernel
theorem dX12_has_0 : decode cX12_has 0 = .ok (.iload_n 1, 1) := by decide +kernel
theorem dX12_has_1 : decode cX12_has 1 = .ok (.tableswitch 125 0 9 #[55, 60, 67, 76, 81, 88, 95, 102, 107, 112], 55) := by decide +kernel
theorem dX12_has_56 : decode cX12_has 56 = .ok (.aload_n 0, 1) := by decide +kernel
theorem dX12_has_57 : decode cX12_has 57 = .ok (.getfield 325, 3) := by decide +kernel
theorem dX12_has_60 : decode cX12_has 60 = .ok (.ireturn, 1) := by decide +kernel
theorem dX12_has_61 : decode cX12_has 61 = .ok (.aload_n 0, 1) := by decide +kernel
theorem dX12_has_62 : decode cX12_has 62 = .ok (.getfield 78, 3) := by decide +kernel
theorem dX12_has_65 : decode cX12_has 65 = .ok (.iconst 1, 1) := by decide +kernel
theorem dX12_has_66 : decode cX12_has 66 = .ok (.iaload, 1) := by decide +kernel
theorem dX12_has_67 : decode cX12_has 67 = .ok (.ireturn, 1) := by decide +kernel
theorem dX12_has_68 : decode cX12_has 68 = .ok (.aload_n 0, 1) := by decide +kernel
theorem dX12_has_69 : decode cX12_has 69 = .ok (.invokevirtual 381, 3) := by decide +kernel
theorem dX12_has_72 : decode cX12_has 72 = .ok (.aload_n 0, 1) := by decide +kernel
theorem dX12_has_73 : decode cX12_has 73 = .ok (.getfield 343, 3) := by decide +kernel
theorem dX12_has_76 : decode cX12_has 76 = .ok (.ireturn, 1) := by decide +kernel
theorem dX12_has_77 : decode cX12_has 77 = .ok (.aload_n 0, 1) := by decide +kernel
theorem dX12_has_78 : decode cX12_has 78 = .ok (.getfield 328, 3) := by decide +kernel
theorem dX12_has_81 : decode cX12_has 81 = .ok (.ireturn, 1) := by decide +kernel
theorem dX12_has_82 : decode cX12_has 82 = .ok (.aload_n 0, 1) := by decide +kernel
theorem dX12_has_83 : decode cX12_has 83 = .ok (.getfield 78, 3) := by decide +kernel
theorem dX12_has_86 : decode cX12_has 86 = .ok (.iconst 0, 1) := by decide +kernel
theorem dX12_has_87 : decode cX12_has 87 = .ok (.iaload, 1) := by decide +kernel
theorem dX12_has_88 : decode cX12_has 88 = .ok (.ireturn, 1) := by decide +kernel
theorem dX12_has_89 : decode cX12_has 89 = .ok (.aload_n 0, 1) := by decide +kernel
theorem dX12_has_90 : decode cX12_has 90 = .ok (.getfield 78, 3) := by decide +kernel
theorem dX12_has_93 : decode cX12_has 93 = .ok (.iconst 2, 1) := by decide +kernel
theorem dX12_has_94 : decode cX12_has 94 = .ok (.iaload, 1) := by decide +kernel
theorem dX12_has_95 : decode cX12_has 95 = .ok (.ireturn, 1) := by decide +kernel
theorem dX12_has_96 : decode cX12_has 96 = .ok (.aload_n 0, 1) := by decide +kernel
theorem dX12_has_97 : decode cX12_has 97 = .ok (.getfield 78, 3) := by decide +kernel
theorem dX12_has_100 : decode cX12_has 100 = .ok (.iconst 5, 1) := by decide +kernel
theorem dX12_has_101 : decode cX12_has 101 = .ok (.iaload, 1) := by decide +kernel
theorem dX12_has_102 : decode cX12_has 102 = .ok (.ireturn, 1) := by decide +kernel
theorem dX12_has_103 : decode cX12_has 103 = .ok (.aload_n 0, 1) := by decide +kernel
theorem dX12_has_104 : decode cX12_has 104 = .ok (.getfield 334, 3) := by decide +kernel
theorem dX12_has_107 : decode cX12_has 107 = .ok (.ireturn, 1) := by decide +kernel
theorem dX12_has_108 : decode cX12_has 108 = .ok (.aload_n 0, 1) := by decide +kernel
theorem dX12_has_109 : decode cX12_has 109 = .ok (.getfield 331, 3) := by decide +kernel
theorem dX12_has_112 : decode cX12_has 112 = .ok (.ireturn, 1) := by decide +kernel
theorem dX12_has_113 : decode cX12_has 113 = .ok (.aload_n 0, 1) := by decide +kernel
theorem dX12_has_114 : decode cX12_has 114 = .ok (.getfield 337, 3) := by decide +kernel
theorem dX12_has_117 : decode cX12_has 117 = .ok (.ifCond .eq 7, 3) := by decide +kernel
theorem dX12_has_120 : decode cX12_has 120 = .ok (.iconst 1, 1) := by decide +kernel
theorem dX12_has_121 : decode cX12_has 121 = .ok (.goto 4, 3) := by decide +kernel
theorem dX12_has_124 : decode cX12_has 124 = .ok (.iconst 0, 1) := by decide +kernel
theorem dX12_has_125 : decode cX12_has 125 = .ok (.ireturn, 1) := by decide +kernel
theorem dX12_has_126 : decode cX12_has 126 = .ok (.iconst (-1), 1) := by decide +kernel
theorem dX12_has_127 : decode cX12_has 127 = .ok (.ireturn, 1) := by decide +kernel
theorem dX12_heap_0 : decode cX12_heap 0 = .ok (.aload_n 0, 1) := by decide +kernel
theorem dX12_heap_1 : decode cX12_heap 1 = .ok (.invokevirtual 309, 3) := by decide +kernel
theorem dX12_heap_4 : decode cX12_heap 4 = .ok (.aload_n 0, 1) := by decide +kernel
theorem dX12_heap_5 : decode cX12_heap 5 = .ok (.iconst 0, 1) := by decide +kernel
theorem dX12_heap_6 : decode cX12_heap 6 = .ok (.putfield 251, 3) := by decide +kernel
theorem dX12_heap_9 : decode cX12_heap 9 = .ok (.aload_n 0, 1) := by decide +kernel
theorem dX12_heap_10 : decode cX12_heap 10 = .ok (.iconst 0, 1) := by decide +kernel
theorem dX12_heap_11 : decode cX12_heap 11 = .ok (.putfield 254, 3) := by decide +kernel
theorem dX12_heap_14 : decode cX12_heap 14 = .ok (.iconst 0, 1) := by decide +kernel
theorem dX12_heap_15 : decode cX12_heap 15 = .ok (.istore_n 1, 1) := by decide +kernel
theorem dX12_heap_16 : decode cX12_heap 16 = .ok (.iload_n 1, 1) := by decide +kernel
theorem dX12_heap_17 : decode cX12_heap 17 = .ok (.sipush 422, 3) := by decide +kernel
theorem dX12_heap_20 : decode cX12_heap 20 = .ok (.if_icmp .ge 16, 3) := by decide +kernel
theorem dX12_heap_23 : decode cX12_heap 23 = .ok (.aload_n 0, 1) := by decide +kernel
theorem dX12_heap_24 : decode cX12_heap 24 = .ok (.getfield 81, 3) := by decide +kernel
theorem dX12_heap_27 : decode cX12_heap 27 = .ok (.iload_n 1, 1) := by decide +kernel
theorem dX12_heap_28 : decode cX12_heap 28 = .ok (.iconst 0, 1) := by decide +kernel
theorem dX12_heap_29 : decode cX12_heap 29 = .ok (.iastore, 1) := by decide +kernel
theorem dX12_heap_30 : decode cX12_heap 30 = .ok (.iinc 1 1, 3) := by decide +kernel
theorem dX12_heap_33 : decode cX12_heap 33 = .ok (.goto (-17), 3) := by decide +kernel
theorem dX12_heap_36 : decode cX12_heap 36 = .ok (.bipush (-8), 2) := by decide +kernel
theorem dX12_heap_38 : decode cX12_heap 38 = .ok (.istore_n 1, 1) := by decide +kernel
theorem dX12_heap_39 : decode cX12_heap 39 = .ok (.iload_n 1, 1) := by decide +kernel
theorem dX12_heap_40 : decode cX12_heap 40 = .ok (.ifCond .ge 19, 3) := by decide +kernel
theorem dX12_heap_43 : decode cX12_heap 43 = .ok (.aload_n 0, 1) := by decide +kernel
theorem dX12_heap_44 : decode cX12_heap 44 = .ok (.getfield 81, 3) := by decide +kernel
theorem dX12_heap_47 : decode cX12_heap 47 = .ok (.iload_n 1, 1) := by decide +kernel
theorem dX12_heap_48 : decode cX12_heap 48 = .ok (.iconst 1, 1) := by decide +kernel
theorem dX12_heap_49 : decode cX12_heap 49 = .ok (.iconst (-1), 1) := by decide +kernel
theorem dX12_heap_50 : decode cX12_heap 50 = .ok (.invokestatic 247, 3) := by decide +kernel
theorem dX12_heap_53 : decode cX12_heap 53 = .ok (.iinc 1 1, 3) := by decide +kernel
theorem dX12_heap_56 : decode cX12_heap 56 = .ok (.goto (-17), 3) := by decide +kernel
theorem dX12_heap_59 : decode cX12_heap 59 = .ok (.aload_n 0, 1) := by decide +kernel
theorem dX12_heap_60 : decode cX12_heap 60 = .ok (.aload_n 0, 1) := by decide +kernel
theorem dX12_heap_61 : decode cX12_heap 61 = .ok (.getfield 20, 3) := by decide +kernel
theorem dX12_heap_64 : decode cX12_heap 64 = .ok (.invokevirtual 269, 3) := by decide +kernel
theorem dX12_heap_67 : decode cX12_heap 67 = .ok (.aload_n 0, 1) := by decide +kernel
theorem dX12_heap_68 : decode cX12_heap 68 = .ok (.aload_n 0, 1) := by decide +kernel
theorem dX12_heap_69 : decode cX12_heap 69 = .ok (.bipush 16, 2) := by decide +kernel
theorem dX12_heap_71 : decode cX12_heap 71 = .ok (.sipush 160, 3) := by decide +kernel
theorem dX12_heap_74 : decode cX12_heap 74 = .ok (.invokevirtual 276, 3) := by decide +kernel
theorem dX12_heap_77 : decode cX12_heap 77 = .ok (.putfield 312, 3) := by decide +kernel
theorem dX12_heap_80 : decode cX12_heap 80 = .ok (.aload_n 0, 1) := by decide +kernel
theorem dX12_heap_81 : decode cX12_heap 81 = .ok (.bipush 59, 2) := by decide +kernel
theorem dX12_heap_83 : decode cX12_heap 83 = .ok (.invokevirtual 290, 3) := by decide +kernel
theorem dX12_heap_86 : decode cX12_heap 86 = .ok (.aload_n 0, 1) := by decide +kernel
theorem dX12_heap_87 : decode cX12_heap 87 = .ok (.getfield 81, 3) := by decide +kernel
theorem dX12_heap_90 : decode cX12_heap 90 = .ok (.iconst 1, 1) := by decide +kernel
theorem dX12_heap_91 : decode cX12_heap 91 = .ok (.aload_n 0, 1) := by decide +kernel
theorem dX12_heap_92 : decode cX12_heap 92 = .ok (.getfield 312, 3) := by decide +kernel
theorem dX12_heap_95 : decode cX12_heap 95 = .ok (.iastore, 1) := by decide +kernel
theorem dX12_heap_96 : decode cX12_heap 96 = .ok (.aload_n 0, 1) := by decide +kernel
theorem dX12_heap_97 : decode cX12_heap 97 = .ok (.iconst 1, 1) := by decide +kernel
theorem dX12_heap_98 : decode cX12_heap 98 = .ok (.putfield 297, 3) := by decide +kernel
theorem dX12_heap_101 : decode cX12_heap 101 = .ok (.aload_n 0, 1) := by decide +kernel
theorem dX12_heap_102 : decode cX12_heap 102 = .ok (.getfield 194, 3) := by decide +kernel
theorem dX12_heap_105 : decode cX12_heap 105 = .ok (.ifCond .ne 18, 3) := by decide +kernel
theorem dX12_heap_108 : decode cX12_heap 108 = .ok (.aload_n 0, 1) := by decide +kernel
theorem dX12_heap_109 : decode cX12_heap 109 = .ok (.invokevirtual 200, 3) := by decide +kernel
theorem dX12_heap_112 : decode cX12_heap 112 = .ok (.iconst (-1), 1) := by decide +kernel
theorem dX12_heap_113 : decode cX12_heap 113 = .ok (.if_icmp .eq 10, 3) := by decide +kernel
theorem dX12_heap_116 : decode cX12_heap 116 = .ok (.aload_n 0, 1) := by decide +kernel
theorem dX12_heap_117 : decode cX12_heap 117 = .ok (.invokevirtual 315, 3) := by decide +kernel
theorem dX12_heap_120 : decode cX12_heap 120 = .ok (.goto (-19), 3) := by decide +kernel
theorem dX12_heap_123 : decode cX12_heap 123 = .ok (.aload_n 0, 1) := by decide +kernel
theorem dX12_heap_124 : decode cX12_heap 124 = .ok (.aload_n 0, 1) := by decide +kernel
theorem dX12_heap_125 : decode cX12_heap 125 = .ok (.getfield 194, 3) := by decide +kernel
theorem dX12_heap_128 : decode cX12_heap 128 = .ok (.putfield 182, 3) := by decide +kernel
theorem dX12_heap_131 : decode cX12_heap 131 = .ok (.aload_n 0, 1) := by decide +kernel
theorem dX12_heap_132 : decode cX12_heap 132 = .ok (.aload_n 0, 1) := by decide +kernel
theorem dX12_heap_133 : decode cX12_heap 133 = .ok (.getfield 197, 3) := by decide +kernel
theorem dX12_heap_136 : decode cX12_heap 136 = .ok (.putfield 13, 3) := by decide +kernel
theorem dX12_heap_139 : decode cX12_heap 139 = .ok (.aload_n 0, 1) := by decide +kernel
theorem dX12_heap_140 : decode cX12_heap 140 = .ok (.getfield 194, 3) := by decide +kernel
theorem dX12_heap_143 : decode cX12_heap 143 = .ok (.ifCond .eq 9, 3) := by decide +kernel
theorem dX12_heap_146 : decode cX12_heap 146 = .ok (.aload_n 0, 1) := by decide +kernel
theorem dX12_heap_147 : decode cX12_heap 147 = .ok (.iconst 1, 1) := by decide +kernel
theorem dX12_heap_148 : decode cX12_heap 148 = .ok (.invokevirtual 168, 3) := by decide +kernel
theorem dX12_heap_151 : decode cX12_heap 151 = .ok (.ireturn, 1) := by decide +kernel
theorem dX12_heap_152 : decode cX12_heap 152 = .ok (.aload_n 0, 1) := by decide +kernel
theorem dX12_heap_153 : decode cX12_heap 153 = .ok (.invokevirtual 318, 3) := by decide +kernel
theorem dX12_heap_156 : decode cX12_heap 156 = .ok (.aload_n 0, 1) := by decide +kernel
theorem dX12_heap_157 : decode cX12_heap 157 = .ok (.getfield 297, 3) := by decide +kernel
theorem dX12_heap_160 : decode cX12_heap 160 = .ok (.ireturn, 1) := by decide +kernel
theorem dX12_holds_0 : decode cX12_holds 0 = .ok (.aload_n 0, 1) := by decide +kernel
theorem dX12_holds_1 : decode cX12_holds 1 = .ok (.iload_n 1, 1) := by decide +kernel
theorem dX12_holds_2 : decode cX12_holds 2 = .ok (.invokestatic 237, 3) := by decide +kernel
theorem dX12_holds_5 : decode cX12_holds 5 = .ok (.iload_n 2, 1) := by decide +kernel
theorem dX12_holds_6 : decode cX12_holds 6 = .ok (.iastore, 1) := by decide +kernel
theorem dX12_holds_7 : decode cX12_holds 7 = .ok (.aload_n 0, 1) := by decide +kernel
theorem dX12_holds_8 : decode cX12_holds 8 = .ok (.iload_n 1, 1) := by decide +kernel
theorem dX12_holds_9 : decode cX12_holds 9 = .ok (.invokestatic 237, 3) := by decide +kernel
theorem dX12_holds_12 : decode cX12_holds 12 = .ok (.iconst 1, 1) := by decide +kernel
theorem dX12_holds_13 : decode cX12_holds 13 = .ok (.iadd, 1) := by decide +kernel
theorem dX12_holds_14 : decode cX12_holds 14 = .ok (.iload_n 3, 1) := by decide +kernel
theorem dX12_holds_15 : decode cX12_holds 15 = .ok (.iastore, 1) := by decide +kernel
theorem dX12_holds_16 : decode cX12_holds 16 = .ok (.return_, 1) := by decide +kernel
theorem dX12_image_0 : decode cX12_image 0 = .ok (.aload_n 0, 1) := by decide +kernel
theorem dX12_image_1 : decode cX12_image 1 = .ok (.invokevirtual 541, 3) := by decide +kernel
theorem dX12_image_4 : decode cX12_image 4 = .ok (.ifCond .ne 5, 3) := by decide +kernel
theorem dX12_image_7 : decode cX12_image 7 = .ok (.iconst (-1), 1) := by decide +kernel
theorem dX12_image_8 : decode cX12_image 8 = .ok (.ireturn, 1) := by decide +kernel
theorem dX12_image_9 : decode cX12_image 9 = .ok (.aload_n 0, 1) := by decide +kernel
theorem dX12_image_10 : decode cX12_image 10 = .ok (.iconst 0, 1) := by decide +kernel
theorem dX12_image_11 : decode cX12_image 11 = .ok (.putfield 667, 3) := by decide +kernel
theorem dX12_image_14 : decode cX12_image 14 = .ok (.aload_n 0, 1) := by decide +kernel
theorem dX12_image_15 : decode cX12_image 15 = .ok (.aload_n 0, 1) := by decide +kernel
theorem dX12_image_16 : decode cX12_image 16 = .ok (.getfield 78, 3) := by decide +kernel
theorem dX12_image_19 : decode cX12_image 19 = .ok (.iconst 0, 1) := by decide +kernel
theorem dX12_image_20 : decode cX12_image 20 = .ok (.iaload, 1) := by decide +kernel
theorem dX12_image_21 : decode cX12_image 21 = .ok (.invokevirtual 670, 3) := by decide +kernel
theorem dX12_image_24 : decode cX12_image 24 = .ok (.aload_n 0, 1) := by decide +kernel
theorem dX12_image_25 : decode cX12_image 25 = .ok (.aload_n 0, 1) := by decide +kernel
theorem dX12_image_26 : decode cX12_image 26 = .ok (.getfield 78, 3) := by decide +kernel
theorem dX12_image_29 : decode cX12_image 29 = .ok (.iconst 1, 1) := by decide +kernel
theorem dX12_image_30 : decode cX12_image 30 = .ok (.iaload, 1) := by decide +kernel
theorem dX12_image_31 : decode cX12_image 31 = .ok (.invokevirtual 670, 3) := by decide +kernel
theorem dX12_image_34 : decode cX12_image 34 = .ok (.bipush (-8), 2) := by decide +kernel
theorem dX12_image_36 : decode cX12_image 36 = .ok (.istore_n 1, 1) := by decide +kernel
theorem dX12_image_37 : decode cX12_image 37 = .ok (.iload_n 1, 1) := by decide +kernel
theorem dX12_image_38 : decode cX12_image 38 = .ok (.ifCond .ge 14, 3) := by decide +kernel
theorem dX12_image_41 : decode cX12_image 41 = .ok (.aload_n 0, 1) := by decide +kernel
theorem dX12_image_42 : decode cX12_image 42 = .ok (.iload_n 1, 1) := by decide +kernel
theorem dX12_image_43 : decode cX12_image 43 = .ok (.invokevirtual 673, 3) := by decide +kernel
theorem dX12_image_46 : decode cX12_image 46 = .ok (.iinc 1 1, 3) := by decide +kernel
theorem dX12_image_49 : decode cX12_image 49 = .ok (.goto (-12), 3) := by decide +kernel
theorem dX12_image_52 : decode cX12_image 52 = .ok (.aload_n 0, 1) := by decide +kernel
theorem dX12_image_53 : decode cX12_image 53 = .ok (.getfield 78, 3) := by decide +kernel
theorem dX12_image_56 : decode cX12_image 56 = .ok (.iconst 1, 1) := by decide +kernel
theorem dX12_image_57 : decode cX12_image 57 = .ok (.iaload, 1) := by decide +kernel
theorem dX12_image_58 : decode cX12_image 58 = .ok (.istore_n 1, 1) := by decide +kernel
theorem dX12_image_59 : decode cX12_image 59 = .ok (.iload_n 1, 1) := by decide +kernel
theorem dX12_image_60 : decode cX12_image 60 = .ok (.aload_n 0, 1) := by decide +kernel
theorem dX12_image_61 : decode cX12_image 61 = .ok (.getfield 325, 3) := by decide +kernel
theorem dX12_image_64 : decode cX12_image 64 = .ok (.if_icmp .ge 14, 3) := by decide +kernel
theorem dX12_image_67 : decode cX12_image 67 = .ok (.aload_n 0, 1) := by decide +kernel
theorem dX12_image_68 : decode cX12_image 68 = .ok (.iload_n 1, 1) := by decide +kernel
theorem dX12_image_69 : decode cX12_image 69 = .ok (.invokevirtual 673, 3) := by decide +kernel
theorem dX12_image_72 : decode cX12_image 72 = .ok (.iinc 1 1, 3) := by decide +kernel
theorem dX12_image_75 : decode cX12_image 75 = .ok (.goto (-16), 3) := by decide +kernel
theorem dX12_image_78 : decode cX12_image 78 = .ok (.aload_n 0, 1) := by decide +kernel
theorem dX12_image_79 : decode cX12_image 79 = .ok (.aload_n 0, 1) := by decide +kernel
theorem dX12_image_80 : decode cX12_image 80 = .ok (.getfield 162, 3) := by decide +kernel
theorem dX12_image_83 : decode cX12_image 83 = .ok (.aload_n 0, 1) := by decide +kernel
theorem dX12_image_84 : decode cX12_image 84 = .ok (.getfield 667, 3) := by decide +kernel
theorem dX12_image_87 : decode cX12_image 87 = .ok (.invokestatic 676, 3) := by decide +kernel
theorem dX12_image_90 : decode cX12_image 90 = .ok (.invokevirtual 670, 3) := by decide +kernel
theorem dX12_image_93 : decode cX12_image 93 = .ok (.aload_n 0, 1) := by decide +kernel
theorem dX12_image_94 : decode cX12_image 94 = .ok (.getfield 667, 3) := by decide +kernel
theorem dX12_image_97 : decode cX12_image 97 = .ok (.ireturn, 1) := by decide +kernel
theorem dX12_init_0 : decode cX12_init 0 = .ok (.aload_n 0, 1) := by decide +kernel
theorem dX12_init_1 : decode cX12_init 1 = .ok (.invokespecial 1, 3) := by decide +kernel
theorem dX12_init_4 : decode cX12_init 4 = .ok (.aload_n 0, 1) := by decide +kernel
theorem dX12_init_5 : decode cX12_init 5 = .ok (.sipush 1600, 3) := by decide +kernel
theorem dX12_init_8 : decode cX12_init 8 = .ok (.newarray .int, 2) := by decide +kernel
theorem dX12_init_10 : decode cX12_init 10 = .ok (.putfield 7, 3) := by decide +kernel
theorem dX12_init_13 : decode cX12_init 13 = .ok (.aload_n 0, 1) := by decide +kernel
theorem dX12_init_14 : decode cX12_init 14 = .ok (.iconst (-1), 1) := by decide +kernel
theorem dX12_init_15 : decode cX12_init 15 = .ok (.putfield 13, 3) := by decide +kernel
theorem dX12_init_18 : decode cX12_init 18 = .ok (.aload_n 0, 1) := by decide +kernel
theorem dX12_init_19 : decode cX12_init 19 = .ok (.bipush 7, 2) := by decide +kernel
theorem dX12_init_21 : decode cX12_init 21 = .ok (.newarray .int, 2) := by decide +kernel
theorem dX12_init_23 : decode cX12_init 23 = .ok (.putfield 17, 3) := by decide +kernel
theorem dX12_init_26 : decode cX12_init 26 = .ok (.aload_n 0, 1) := by decide +kernel
theorem dX12_init_27 : decode cX12_init 27 = .ok (.iconst 4, 1) := by decide +kernel
theorem dX12_init_28 : decode cX12_init 28 = .ok (.newarray .char, 2) := by decide +kernel
theorem dX12_init_30 : decode cX12_init 30 = .ok (.dup, 1) := by decide +kernel
theorem dX12_init_31 : decode cX12_init 31 = .ok (.iconst 0, 1) := by decide +kernel
theorem dX12_init_32 : decode cX12_init 32 = .ok (.bipush 104, 2) := by decide +kernel
theorem dX12_init_34 : decode cX12_init 34 = .ok (.castore, 1) := by decide +kernel
theorem dX12_init_35 : decode cX12_init 35 = .ok (.dup, 1) := by decide +kernel
theorem dX12_init_36 : decode cX12_init 36 = .ok (.iconst 1, 1) := by decide +kernel
theorem dX12_init_37 : decode cX12_init 37 = .ok (.bipush 101, 2) := by decide +kernel
theorem dX12_init_39 : decode cX12_init 39 = .ok (.castore, 1) := by decide +kernel
theorem dX12_init_40 : decode cX12_init 40 = .ok (.dup, 1) := by decide +kernel
theorem dX12_init_41 : decode cX12_init 41 = .ok (.iconst 2, 1) := by decide +kernel
theorem dX12_init_42 : decode cX12_init 42 = .ok (.bipush 97, 2) := by decide +kernel
theorem dX12_init_44 : decode cX12_init 44 = .ok (.castore, 1) := by decide +kernel
theorem dX12_init_45 : decode cX12_init 45 = .ok (.dup, 1) := by decide +kernel
theorem dX12_init_46 : decode cX12_init 46 = .ok (.iconst 3, 1) := by decide +kernel
theorem dX12_init_47 : decode cX12_init 47 = .ok (.bipush 112, 2) := by decide +kernel
theorem dX12_init_49 : decode cX12_init 49 = .ok (.castore, 1) := by decide +kernel
theorem dX12_init_50 : decode cX12_init 50 = .ok (.putfield 20, 3) := by decide +kernel
theorem dX12_init_53 : decode cX12_init 53 = .ok (.aload_n 0, 1) := by decide +kernel
theorem dX12_init_54 : decode cX12_init 54 = .ok (.iconst 4, 1) := by decide +kernel
theorem dX12_init_55 : decode cX12_init 55 = .ok (.newarray .char, 2) := by decide +kernel
theorem dX12_init_57 : decode cX12_init 57 = .ok (.dup, 1) := by decide +kernel
theorem dX12_init_58 : decode cX12_init 58 = .ok (.iconst 0, 1) := by decide +kernel
theorem dX12_init_59 : decode cX12_init 59 = .ok (.bipush 107, 2) := by decide +kernel
theorem dX12_init_61 : decode cX12_init 61 = .ok (.castore, 1) := by decide +kernel
theorem dX12_init_62 : decode cX12_init 62 = .ok (.dup, 1) := by decide +kernel
theorem dX12_init_63 : decode cX12_init 63 = .ok (.iconst 1, 1) := by decide +kernel
theorem dX12_init_64 : decode cX12_init 64 = .ok (.bipush 105, 2) := by decide +kernel
theorem dX12_init_66 : decode cX12_init 66 = .ok (.castore, 1) := by decide +kernel
theorem dX12_init_67 : decode cX12_init 67 = .ok (.dup, 1) := by decide +kernel
theorem dX12_init_68 : decode cX12_init 68 = .ok (.iconst 2, 1) := by decide +kernel
theorem dX12_init_69 : decode cX12_init 69 = .ok (.bipush 110, 2) := by decide +kernel
theorem dX12_init_71 : decode cX12_init 71 = .ok (.castore, 1) := by decide +kernel
theorem dX12_init_72 : decode cX12_init 72 = .ok (.dup, 1) := by decide +kernel
theorem dX12_init_73 : decode cX12_init 73 = .ok (.iconst 3, 1) := by decide +kernel
theorem dX12_init_74 : decode cX12_init 74 = .ok (.bipush 100, 2) := by decide +kernel
theorem dX12_init_76 : decode cX12_init 76 = .ok (.castore, 1) := by decide +kernel
theorem dX12_init_77 : decode cX12_init 77 = .ok (.putfield 24, 3) := by decide +kernel
theorem dX12_init_80 : decode cX12_init 80 = .ok (.aload_n 0, 1) := by decide +kernel
theorem dX12_init_81 : decode cX12_init 81 = .ok (.iconst 4, 1) := by decide +kernel
theorem dX12_init_82 : decode cX12_init 82 = .ok (.newarray .char, 2) := by decide +kernel
theorem dX12_init_84 : decode cX12_init 84 = .ok (.dup, 1) := by decide +kernel
theorem dX12_init_85 : decode cX12_init 85 = .ok (.iconst 0, 1) := by decide +kernel
theorem dX12_init_86 : decode cX12_init 86 = .ok (.bipush 99, 2) := by decide +kernel
theorem dX12_init_88 : decode cX12_init 88 = .ok (.castore, 1) := by decide +kernel
theorem dX12_init_89 : decode cX12_init 89 = .ok (.dup, 1) := by decide +kernel
theorem dX12_init_90 : decode cX12_init 90 = .ok (.iconst 1, 1) := by decide +kernel
theorem dX12_init_91 : decode cX12_init 91 = .ok (.bipush 101, 2) := by decide +kernel
theorem dX12_init_93 : decode cX12_init 93 = .ok (.castore, 1) := by decide +kernel
theorem dX12_init_94 : decode cX12_init 94 = .ok (.dup, 1) := by decide +kernel
theorem dX12_init_95 : decode cX12_init 95 = .ok (.iconst 2, 1) := by decide +kernel
theorem dX12_init_96 : decode cX12_init 96 = .ok (.bipush 108, 2) := by decide +kernel
theorem dX12_init_98 : decode cX12_init 98 = .ok (.castore, 1) := by decide +kernel
theorem dX12_init_99 : decode cX12_init 99 = .ok (.dup, 1) := by decide +kernel
theorem dX12_init_100 : decode cX12_init 100 = .ok (.iconst 3, 1) := by decide +kernel
theorem dX12_init_101 : decode cX12_init 101 = .ok (.bipush 108, 2) := by decide +kernel
theorem dX12_init_103 : decode cX12_init 103 = .ok (.castore, 1) := by decide +kernel
theorem dX12_init_104 : decode cX12_init 104 = .ok (.putfield 27, 3) := by decide +kernel
theorem dX12_init_107 : decode cX12_init 107 = .ok (.aload_n 0, 1) := by decide +kernel
theorem dX12_init_108 : decode cX12_init 108 = .ok (.iconst 3, 1) := by decide +kernel
theorem dX12_init_109 : decode cX12_init 109 = .ok (.newarray .char, 2) := by decide +kernel
theorem dX12_init_111 : decode cX12_init 111 = .ok (.dup, 1) := by decide +kernel
theorem dX12_init_112 : decode cX12_init 112 = .ok (.iconst 0, 1) := by decide +kernel
theorem dX12_init_113 : decode cX12_init 113 = .ok (.bipush 115, 2) := by decide +kernel
theorem dX12_init_115 : decode cX12_init 115 = .ok (.castore, 1) := by decide +kernel
theorem dX12_init_116 : decode cX12_init 116 = .ok (.dup, 1) := by decide +kernel
theorem dX12_init_117 : decode cX12_init 117 = .ok (.iconst 1, 1) := by decide +kernel
theorem dX12_init_118 : decode cX12_init 118 = .ok (.bipush 101, 2) := by decide +kernel
theorem dX12_init_120 : decode cX12_init 120 = .ok (.castore, 1) := by decide +kernel
theorem dX12_init_121 : decode cX12_init 121 = .ok (.dup, 1) := by decide +kernel
theorem dX12_init_122 : decode cX12_init 122 = .ok (.iconst 2, 1) := by decide +kernel
theorem dX12_init_123 : decode cX12_init 123 = .ok (.bipush 116, 2) := by decide +kernel
theorem dX12_init_125 : decode cX12_init 125 = .ok (.castore, 1) := by decide +kernel
theorem dX12_init_126 : decode cX12_init 126 = .ok (.putfield 30, 3) := by decide +kernel
theorem dX12_init_129 : decode cX12_init 129 = .ok (.aload_n 0, 1) := by decide +kernel
theorem dX12_init_130 : decode cX12_init 130 = .ok (.iconst 4, 1) := by decide +kernel
theorem dX12_init_131 : decode cX12_init 131 = .ok (.newarray .char, 2) := by decide +kernel
theorem dX12_init_133 : decode cX12_init 133 = .ok (.dup, 1) := by decide +kernel
theorem dX12_init_134 : decode cX12_init 134 = .ok (.iconst 0, 1) := by decide +kernel
theorem dX12_init_135 : decode cX12_init 135 = .ok (.bipush 114, 2) := by decide +kernel
theorem dX12_init_137 : decode cX12_init 137 = .ok (.castore, 1) := by decide +kernel
theorem dX12_init_138 : decode cX12_init 138 = .ok (.dup, 1) := by decide +kernel
theorem dX12_init_139 : decode cX12_init 139 = .ok (.iconst 1, 1) := by decide +kernel
theorem dX12_init_140 : decode cX12_init 140 = .ok (.bipush 111, 2) := by decide +kernel
theorem dX12_init_142 : decode cX12_init 142 = .ok (.castore, 1) := by decide +kernel
theorem dX12_init_143 : decode cX12_init 143 = .ok (.dup, 1) := by decide +kernel
theorem dX12_init_144 : decode cX12_init 144 = .ok (.iconst 2, 1) := by decide +kernel
theorem dX12_init_145 : decode cX12_init 145 = .ok (.bipush 111, 2) := by decide +kernel
theorem dX12_init_147 : decode cX12_init 147 = .ok (.castore, 1) := by decide +kernel
theorem dX12_init_148 : decode cX12_init 148 = .ok (.dup, 1) := by decide +kernel
theorem dX12_init_149 : decode cX12_init 149 = .ok (.iconst 3, 1) := by decide +kernel
theorem dX12_init_150 : decode cX12_init 150 = .ok (.bipush 116, 2) := by decide +kernel
theorem dX12_init_152 : decode cX12_init 152 = .ok (.castore, 1) := by decide +kernel
theorem dX12_init_153 : decode cX12_init 153 = .ok (.putfield 33, 3) := by decide +kernel
theorem dX12_init_156 : decode cX12_init 156 = .ok (.aload_n 0, 1) := by decide +kernel
theorem dX12_init_157 : decode cX12_init 157 = .ok (.bipush 6, 2) := by decide +kernel
theorem dX12_init_159 : decode cX12_init 159 = .ok (.newarray .char, 2) := by decide +kernel
theorem dX12_init_161 : decode cX12_init 161 = .ok (.dup, 1) := by decide +kernel
theorem dX12_init_162 : decode cX12_init 162 = .ok (.iconst 0, 1) := by decide +kernel
theorem dX12_init_163 : decode cX12_init 163 = .ok (.bipush 109, 2) := by decide +kernel
theorem dX12_init_165 : decode cX12_init 165 = .ok (.castore, 1) := by decide +kernel
theorem dX12_init_166 : decode cX12_init 166 = .ok (.dup, 1) := by decide +kernel
theorem dX12_init_167 : decode cX12_init 167 = .ok (.iconst 1, 1) := by decide +kernel
theorem dX12_init_168 : decode cX12_init 168 = .ok (.bipush 101, 2) := by decide +kernel
theorem dX12_init_170 : decode cX12_init 170 = .ok (.castore, 1) := by decide +kernel
theorem dX12_init_171 : decode cX12_init 171 = .ok (.dup, 1) := by decide +kernel
theorem dX12_init_172 : decode cX12_init 172 = .ok (.iconst 2, 1) := by decide +kernel
theorem dX12_init_173 : decode cX12_init 173 = .ok (.bipush 116, 2) := by decide +kernel
theorem dX12_init_175 : decode cX12_init 175 = .ok (.castore, 1) := by decide +kernel
theorem dX12_init_176 : decode cX12_init 176 = .ok (.dup, 1) := by decide +kernel
theorem dX12_init_177 : decode cX12_init 177 = .ok (.iconst 3, 1) := by decide +kernel
theorem dX12_init_178 : decode cX12_init 178 = .ok (.bipush 104, 2) := by decide +kernel
theorem dX12_init_180 : decode cX12_init 180 = .ok (.castore, 1) := by decide +kernel
theorem dX12_init_181 : decode cX12_init 181 = .ok (.dup, 1) := by decide +kernel
theorem dX12_init_182 : decode cX12_init 182 = .ok (.iconst 4, 1) := by decide +kernel
theorem dX12_init_183 : decode cX12_init 183 = .ok (.bipush 111, 2) := by decide +kernel
theorem dX12_init_185 : decode cX12_init 185 = .ok (.castore, 1) := by decide +kernel
theorem dX12_init_186 : decode cX12_init 186 = .ok (.dup, 1) := by decide +kernel
theorem dX12_init_187 : decode cX12_init 187 = .ok (.iconst 5, 1) := by decide +kernel
theorem dX12_init_188 : decode cX12_init 188 = .ok (.bipush 100, 2) := by decide +kernel
theorem dX12_init_190 : decode cX12_init 190 = .ok (.castore, 1) := by decide +kernel
theorem dX12_init_191 : decode cX12_init 191 = .ok (.putfield 36, 3) := by decide +kernel
theorem dX12_init_194 : decode cX12_init 194 = .ok (.aload_n 0, 1) := by decide +kernel
theorem dX12_init_195 : decode cX12_init 195 = .ok (.iconst 3, 1) := by decide +kernel
theorem dX12_init_196 : decode cX12_init 196 = .ok (.newarray .char, 2) := by decide +kernel
theorem dX12_init_198 : decode cX12_init 198 = .ok (.dup, 1) := by decide +kernel
theorem dX12_init_199 : decode cX12_init 199 = .ok (.iconst 0, 1) := by decide +kernel
theorem dX12_init_200 : decode cX12_init 200 = .ok (.bipush 110, 2) := by decide +kernel
theorem dX12_init_202 : decode cX12_init 202 = .ok (.castore, 1) := by decide +kernel
theorem dX12_init_203 : decode cX12_init 203 = .ok (.dup, 1) := by decide +kernel
theorem dX12_init_204 : decode cX12_init 204 = .ok (.iconst 1, 1) := by decide +kernel
theorem dX12_init_205 : decode cX12_init 205 = .ok (.bipush 117, 2) := by decide +kernel
theorem dX12_init_207 : decode cX12_init 207 = .ok (.castore, 1) := by decide +kernel
theorem dX12_init_208 : decode cX12_init 208 = .ok (.dup, 1) := by decide +kernel
theorem dX12_init_209 : decode cX12_init 209 = .ok (.iconst 2, 1) := by decide +kernel
theorem dX12_init_210 : decode cX12_init 210 = .ok (.bipush 109, 2) := by decide +kernel
theorem dX12_init_212 : decode cX12_init 212 = .ok (.castore, 1) := by decide +kernel
theorem dX12_init_213 : decode cX12_init 213 = .ok (.putfield 39, 3) := by decide +kernel
theorem dX12_init_216 : decode cX12_init 216 = .ok (.aload_n 0, 1) := by decide +kernel
theorem dX12_init_217 : decode cX12_init 217 = .ok (.iconst 3, 1) := by decide +kernel
theorem dX12_init_218 : decode cX12_init 218 = .ok (.newarray .char, 2) := by decide +kernel
theorem dX12_init_220 : decode cX12_init 220 = .ok (.dup, 1) := by decide +kernel
theorem dX12_init_221 : decode cX12_init 221 = .ok (.iconst 0, 1) := by decide +kernel
theorem dX12_init_222 : decode cX12_init 222 = .ok (.bipush 114, 2) := by decide +kernel
theorem dX12_init_224 : decode cX12_init 224 = .ok (.castore, 1) := by decide +kernel
theorem dX12_init_225 : decode cX12_init 225 = .ok (.dup, 1) := by decide +kernel
theorem dX12_init_226 : decode cX12_init 226 = .ok (.iconst 1, 1) := by decide +kernel
theorem dX12_init_227 : decode cX12_init 227 = .ok (.bipush 101, 2) := by decide +kernel
theorem dX12_init_229 : decode cX12_init 229 = .ok (.castore, 1) := by decide +kernel
theorem dX12_init_230 : decode cX12_init 230 = .ok (.dup, 1) := by decide +kernel
theorem dX12_init_231 : decode cX12_init 231 = .ok (.iconst 2, 1) := by decide +kernel
theorem dX12_init_232 : decode cX12_init 232 = .ok (.bipush 102, 2) := by decide +kernel
theorem dX12_init_234 : decode cX12_init 234 = .ok (.castore, 1) := by decide +kernel
theorem dX12_init_235 : decode cX12_init 235 = .ok (.putfield 42, 3) := by decide +kernel
theorem dX12_init_238 : decode cX12_init 238 = .ok (.aload_n 0, 1) := by decide +kernel
theorem dX12_init_239 : decode cX12_init 239 = .ok (.iconst 4, 1) := by decide +kernel
theorem dX12_init_240 : decode cX12_init 240 = .ok (.newarray .char, 2) := by decide +kernel
theorem dX12_init_242 : decode cX12_init 242 = .ok (.dup, 1) := by decide +kernel
theorem dX12_init_243 : decode cX12_init 243 = .ok (.iconst 0, 1) := by decide +kernel
theorem dX12_init_244 : decode cX12_init 244 = .ok (.bipush 119, 2) := by decide +kernel
theorem dX12_init_246 : decode cX12_init 246 = .ok (.castore, 1) := by decide +kernel
theorem dX12_init_247 : decode cX12_init 247 = .ok (.dup, 1) := by decide +kernel
theorem dX12_init_248 : decode cX12_init 248 = .ok (.iconst 1, 1) := by decide +kernel
theorem dX12_init_249 : decode cX12_init 249 = .ok (.bipush 101, 2) := by decide +kernel
theorem dX12_init_251 : decode cX12_init 251 = .ok (.castore, 1) := by decide +kernel
theorem dX12_init_252 : decode cX12_init 252 = .ok (.dup, 1) := by decide +kernel
theorem dX12_init_253 : decode cX12_init 253 = .ok (.iconst 2, 1) := by decide +kernel
theorem dX12_init_254 : decode cX12_init 254 = .ok (.bipush 97, 2) := by decide +kernel
theorem dX12_init_256 : decode cX12_init 256 = .ok (.castore, 1) := by decide +kernel
theorem dX12_init_257 : decode cX12_init 257 = .ok (.dup, 1) := by decide +kernel
theorem dX12_init_258 : decode cX12_init 258 = .ok (.iconst 3, 1) := by decide +kernel
theorem dX12_init_259 : decode cX12_init 259 = .ok (.bipush 107, 2) := by decide +kernel
theorem dX12_init_261 : decode cX12_init 261 = .ok (.castore, 1) := by decide +kernel
theorem dX12_init_262 : decode cX12_init 262 = .ok (.putfield 45, 3) := by decide +kernel
theorem dX12_init_265 : decode cX12_init 265 = .ok (.aload_n 0, 1) := by decide +kernel
theorem dX12_init_266 : decode cX12_init 266 = .ok (.iconst 3, 1) := by decide +kernel
theorem dX12_init_267 : decode cX12_init 267 = .ok (.newarray .char, 2) := by decide +kernel
theorem dX12_init_269 : decode cX12_init 269 = .ok (.dup, 1) := by decide +kernel
theorem dX12_init_270 : decode cX12_init 270 = .ok (.iconst 0, 1) := by decide +kernel
theorem dX12_init_271 : decode cX12_init 271 = .ok (.bipush 110, 2) := by decide +kernel
theorem dX12_init_273 : decode cX12_init 273 = .ok (.castore, 1) := by decide +kernel
theorem dX12_init_274 : decode cX12_init 274 = .ok (.dup, 1) := by decide +kernel
theorem dX12_init_275 : decode cX12_init 275 = .ok (.iconst 1, 1) := by decide +kernel
theorem dX12_init_276 : decode cX12_init 276 = .ok (.bipush 105, 2) := by decide +kernel
theorem dX12_init_278 : decode cX12_init 278 = .ok (.castore, 1) := by decide +kernel
theorem dX12_init_279 : decode cX12_init 279 = .ok (.dup, 1) := by decide +kernel
theorem dX12_init_280 : decode cX12_init 280 = .ok (.iconst 2, 1) := by decide +kernel
theorem dX12_init_281 : decode cX12_init 281 = .ok (.bipush 108, 2) := by decide +kernel
theorem dX12_init_283 : decode cX12_init 283 = .ok (.castore, 1) := by decide +kernel
theorem dX12_init_284 : decode cX12_init 284 = .ok (.putfield 48, 3) := by decide +kernel
theorem dX12_init_287 : decode cX12_init 287 = .ok (.aload_n 0, 1) := by decide +kernel
theorem dX12_init_288 : decode cX12_init 288 = .ok (.iconst 3, 1) := by decide +kernel
theorem dX12_init_289 : decode cX12_init 289 = .ok (.newarray .char, 2) := by decide +kernel
theorem dX12_init_291 : decode cX12_init 291 = .ok (.dup, 1) := by decide +kernel
theorem dX12_init_292 : decode cX12_init 292 = .ok (.iconst 0, 1) := by decide +kernel
theorem dX12_init_293 : decode cX12_init 293 = .ok (.bipush 110, 2) := by decide +kernel
theorem dX12_init_295 : decode cX12_init 295 = .ok (.castore, 1) := by decide +kernel
theorem dX12_init_296 : decode cX12_init 296 = .ok (.dup, 1) := by decide +kernel
theorem dX12_init_297 : decode cX12_init 297 = .ok (.iconst 1, 1) := by decide +kernel
theorem dX12_init_298 : decode cX12_init 298 = .ok (.bipush 101, 2) := by decide +kernel
theorem dX12_init_300 : decode cX12_init 300 = .ok (.castore, 1) := by decide +kernel
theorem dX12_init_301 : decode cX12_init 301 = .ok (.dup, 1) := by decide +kernel
theorem dX12_init_302 : decode cX12_init 302 = .ok (.iconst 2, 1) := by decide +kernel
theorem dX12_init_303 : decode cX12_init 303 = .ok (.bipush 119, 2) := by decide +kernel
theorem dX12_init_305 : decode cX12_init 305 = .ok (.castore, 1) := by decide +kernel
theorem dX12_init_306 : decode cX12_init 306 = .ok (.putfield 51, 3) := by decide +kernel
theorem dX12_init_309 : decode cX12_init 309 = .ok (.aload_n 0, 1) := by decide +kernel
theorem dX12_init_310 : decode cX12_init 310 = .ok (.iconst 5, 1) := by decide +kernel
theorem dX12_init_311 : decode cX12_init 311 = .ok (.newarray .char, 2) := by decide +kernel
theorem dX12_init_313 : decode cX12_init 313 = .ok (.dup, 1) := by decide +kernel
theorem dX12_init_314 : decode cX12_init 314 = .ok (.iconst 0, 1) := by decide +kernel
theorem dX12_init_315 : decode cX12_init 315 = .ok (.bipush 115, 2) := by decide +kernel
theorem dX12_init_317 : decode cX12_init 317 = .ok (.castore, 1) := by decide +kernel
theorem dX12_init_318 : decode cX12_init 318 = .ok (.dup, 1) := by decide +kernel
theorem dX12_init_319 : decode cX12_init 319 = .ok (.iconst 1, 1) := by decide +kernel
theorem dX12_init_320 : decode cX12_init 320 = .ok (.bipush 108, 2) := by decide +kernel
theorem dX12_init_322 : decode cX12_init 322 = .ok (.castore, 1) := by decide +kernel
theorem dX12_init_323 : decode cX12_init 323 = .ok (.dup, 1) := by decide +kernel
theorem dX12_init_324 : decode cX12_init 324 = .ok (.iconst 2, 1) := by decide +kernel
theorem dX12_init_325 : decode cX12_init 325 = .ok (.bipush 105, 2) := by decide +kernel
theorem dX12_init_327 : decode cX12_init 327 = .ok (.castore, 1) := by decide +kernel
theorem dX12_init_328 : decode cX12_init 328 = .ok (.dup, 1) := by decide +kernel
theorem dX12_init_329 : decode cX12_init 329 = .ok (.iconst 3, 1) := by decide +kernel
theorem dX12_init_330 : decode cX12_init 330 = .ok (.bipush 100, 2) := by decide +kernel
theorem dX12_init_332 : decode cX12_init 332 = .ok (.castore, 1) := by decide +kernel
theorem dX12_init_333 : decode cX12_init 333 = .ok (.dup, 1) := by decide +kernel
theorem dX12_init_334 : decode cX12_init 334 = .ok (.iconst 4, 1) := by decide +kernel
theorem dX12_init_335 : decode cX12_init 335 = .ok (.bipush 101, 2) := by decide +kernel
theorem dX12_init_337 : decode cX12_init 337 = .ok (.castore, 1) := by decide +kernel
theorem dX12_init_338 : decode cX12_init 338 = .ok (.putfield 54, 3) := by decide +kernel
theorem dX12_init_341 : decode cX12_init 341 = .ok (.aload_n 0, 1) := by decide +kernel
theorem dX12_init_342 : decode cX12_init 342 = .ok (.bipush 6, 2) := by decide +kernel
theorem dX12_init_344 : decode cX12_init 344 = .ok (.newarray .char, 2) := by decide +kernel
theorem dX12_init_346 : decode cX12_init 346 = .ok (.dup, 1) := by decide +kernel
theorem dX12_init_347 : decode cX12_init 347 = .ok (.iconst 0, 1) := by decide +kernel
theorem dX12_init_348 : decode cX12_init 348 = .ok (.bipush 114, 2) := by decide +kernel
theorem dX12_init_350 : decode cX12_init 350 = .ok (.castore, 1) := by decide +kernel
theorem dX12_init_351 : decode cX12_init 351 = .ok (.dup, 1) := by decide +kernel
theorem dX12_init_352 : decode cX12_init 352 = .ok (.iconst 1, 1) := by decide +kernel
theorem dX12_init_353 : decode cX12_init 353 = .ok (.bipush 101, 2) := by decide +kernel
theorem dX12_init_355 : decode cX12_init 355 = .ok (.castore, 1) := by decide +kernel
theorem dX12_init_356 : decode cX12_init 356 = .ok (.dup, 1) := by decide +kernel
theorem dX12_init_357 : decode cX12_init 357 = .ok (.iconst 2, 1) := by decide +kernel
theorem dX12_init_358 : decode cX12_init 358 = .ok (.bipush 112, 2) := by decide +kernel
theorem dX12_init_360 : decode cX12_init 360 = .ok (.castore, 1) := by decide +kernel
theorem dX12_init_361 : decode cX12_init 361 = .ok (.dup, 1) := by decide +kernel
theorem dX12_init_362 : decode cX12_init 362 = .ok (.iconst 3, 1) := by decide +kernel
theorem dX12_init_363 : decode cX12_init 363 = .ok (.bipush 101, 2) := by decide +kernel
theorem dX12_init_365 : decode cX12_init 365 = .ok (.castore, 1) := by decide +kernel
theorem dX12_init_366 : decode cX12_init 366 = .ok (.dup, 1) := by decide +kernel
theorem dX12_init_367 : decode cX12_init 367 = .ok (.iconst 4, 1) := by decide +kernel
theorem dX12_init_368 : decode cX12_init 368 = .ok (.bipush 97, 2) := by decide +kernel
theorem dX12_init_370 : decode cX12_init 370 = .ok (.castore, 1) := by decide +kernel
theorem dX12_init_371 : decode cX12_init 371 = .ok (.dup, 1) := by decide +kernel
theorem dX12_init_372 : decode cX12_init 372 = .ok (.iconst 5, 1) := by decide +kernel
theorem dX12_init_373 : decode cX12_init 373 = .ok (.bipush 116, 2) := by decide +kernel
theorem dX12_init_375 : decode cX12_init 375 = .ok (.castore, 1) := by decide +kernel
theorem dX12_init_376 : decode cX12_init 376 = .ok (.putfield 57, 3) := by decide +kernel
theorem dX12_init_379 : decode cX12_init 379 = .ok (.aload_n 0, 1) := by decide +kernel
theorem dX12_init_380 : decode cX12_init 380 = .ok (.iconst 4, 1) := by decide +kernel
theorem dX12_init_381 : decode cX12_init 381 = .ok (.newarray .char, 2) := by decide +kernel
theorem dX12_init_383 : decode cX12_init 383 = .ok (.dup, 1) := by decide +kernel
theorem dX12_init_384 : decode cX12_init 384 = .ok (.iconst 0, 1) := by decide +kernel
theorem dX12_init_385 : decode cX12_init 385 = .ok (.bipush 119, 2) := by decide +kernel
theorem dX12_init_387 : decode cX12_init 387 = .ok (.castore, 1) := by decide +kernel
theorem dX12_init_388 : decode cX12_init 388 = .ok (.dup, 1) := by decide +kernel
theorem dX12_init_389 : decode cX12_init 389 = .ok (.iconst 1, 1) := by decide +kernel
theorem dX12_init_390 : decode cX12_init 390 = .ok (.bipush 104, 2) := by decide +kernel
theorem dX12_init_392 : decode cX12_init 392 = .ok (.castore, 1) := by decide +kernel
theorem dX12_init_393 : decode cX12_init 393 = .ok (.dup, 1) := by decide +kernel
theorem dX12_init_394 : decode cX12_init 394 = .ok (.iconst 2, 1) := by decide +kernel
theorem dX12_init_395 : decode cX12_init 395 = .ok (.bipush 101, 2) := by decide +kernel
theorem dX12_init_397 : decode cX12_init 397 = .ok (.castore, 1) := by decide +kernel
theorem dX12_init_398 : decode cX12_init 398 = .ok (.dup, 1) := by decide +kernel
theorem dX12_init_399 : decode cX12_init 399 = .ok (.iconst 3, 1) := by decide +kernel
theorem dX12_init_400 : decode cX12_init 400 = .ok (.bipush 110, 2) := by decide +kernel
theorem dX12_init_402 : decode cX12_init 402 = .ok (.castore, 1) := by decide +kernel
theorem dX12_init_403 : decode cX12_init 403 = .ok (.putfield 60, 3) := by decide +kernel
theorem dX12_init_406 : decode cX12_init 406 = .ok (.aload_n 0, 1) := by decide +kernel
theorem dX12_init_407 : decode cX12_init 407 = .ok (.bipush 12, 2) := by decide +kernel
theorem dX12_init_409 : decode cX12_init 409 = .ok (.newarray .int, 2) := by decide +kernel
theorem dX12_init_411 : decode cX12_init 411 = .ok (.putfield 63, 3) := by decide +kernel
theorem dX12_init_414 : decode cX12_init 414 = .ok (.aload_n 0, 1) := by decide +kernel
theorem dX12_init_415 : decode cX12_init 415 = .ok (.bipush 72, 2) := by decide +kernel
theorem dX12_init_417 : decode cX12_init 417 = .ok (.newarray .int, 2) := by decide +kernel
theorem dX12_init_419 : decode cX12_init 419 = .ok (.putfield 66, 3) := by decide +kernel
theorem dX12_init_422 : decode cX12_init 422 = .ok (.aload_n 0, 1) := by decide +kernel
theorem dX12_init_423 : decode cX12_init 423 = .ok (.bipush 12, 2) := by decide +kernel
theorem dX12_init_425 : decode cX12_init 425 = .ok (.newarray .int, 2) := by decide +kernel
theorem dX12_init_427 : decode cX12_init 427 = .ok (.putfield 69, 3) := by decide +kernel
theorem dX12_init_430 : decode cX12_init 430 = .ok (.aload_n 0, 1) := by decide +kernel
theorem dX12_init_431 : decode cX12_init 431 = .ok (.bipush 60, 2) := by decide +kernel
theorem dX12_init_433 : decode cX12_init 433 = .ok (.newarray .int, 2) := by decide +kernel
theorem dX12_init_435 : decode cX12_init 435 = .ok (.putfield 72, 3) := by decide +kernel
theorem dX12_init_438 : decode cX12_init 438 = .ok (.aload_n 0, 1) := by decide +kernel
theorem dX12_init_439 : decode cX12_init 439 = .ok (.bipush 60, 2) := by decide +kernel
theorem dX12_init_441 : decode cX12_init 441 = .ok (.newarray .int, 2) := by decide +kernel
theorem dX12_init_443 : decode cX12_init 443 = .ok (.putfield 75, 3) := by decide +kernel
theorem dX12_init_446 : decode cX12_init 446 = .ok (.aload_n 0, 1) := by decide +kernel
theorem dX12_init_447 : decode cX12_init 447 = .ok (.sipush 422, 3) := by decide +kernel
theorem dX12_init_450 : decode cX12_init 450 = .ok (.newarray .int, 2) := by decide +kernel
theorem dX12_init_452 : decode cX12_init 452 = .ok (.putfield 78, 3) := by decide +kernel
theorem dX12_init_455 : decode cX12_init 455 = .ok (.aload_n 0, 1) := by decide +kernel
theorem dX12_init_456 : decode cX12_init 456 = .ok (.sipush 422, 3) := by decide +kernel
theorem dX12_init_459 : decode cX12_init 459 = .ok (.newarray .int, 2) := by decide +kernel
theorem dX12_init_461 : decode cX12_init 461 = .ok (.putfield 81, 3) := by decide +kernel
theorem dX12_init_464 : decode cX12_init 464 = .ok (.aload_n 0, 1) := by decide +kernel
theorem dX12_init_465 : decode cX12_init 465 = .ok (.sipush 422, 3) := by decide +kernel
theorem dX12_init_468 : decode cX12_init 468 = .ok (.newarray .int, 2) := by decide +kernel
theorem dX12_init_470 : decode cX12_init 470 = .ok (.putfield 84, 3) := by decide +kernel
theorem dX12_init_473 : decode cX12_init 473 = .ok (.aload_n 0, 1) := by decide +kernel
theorem dX12_init_474 : decode cX12_init 474 = .ok (.bipush 80, 2) := by decide +kernel
theorem dX12_init_476 : decode cX12_init 476 = .ok (.newarray .int, 2) := by decide +kernel
theorem dX12_init_478 : decode cX12_init 478 = .ok (.putfield 87, 3) := by decide +kernel
theorem dX12_init_481 : decode cX12_init 481 = .ok (.aload_n 0, 1) := by decide +kernel
theorem dX12_init_482 : decode cX12_init 482 = .ok (.sipush 160, 3) := by decide +kernel
theorem dX12_init_485 : decode cX12_init 485 = .ok (.newarray .int, 2) := by decide +kernel
theorem dX12_init_487 : decode cX12_init 487 = .ok (.putfield 90, 3) := by decide +kernel
theorem dX12_init_490 : decode cX12_init 490 = .ok (.aload_n 0, 1) := by decide +kernel
theorem dX12_init_491 : decode cX12_init 491 = .ok (.bipush 80, 2) := by decide +kernel
theorem dX12_init_493 : decode cX12_init 493 = .ok (.newarray .boolean, 2) := by decide +kernel
theorem dX12_init_495 : decode cX12_init 495 = .ok (.putfield 93, 3) := by decide +kernel
theorem dX12_init_498 : decode cX12_init 498 = .ok (.aload_n 0, 1) := by decide +kernel
theorem dX12_init_499 : decode cX12_init 499 = .ok (.sipush 160, 3) := by decide +kernel
theorem dX12_init_502 : decode cX12_init 502 = .ok (.newarray .int, 2) := by decide +kernel
theorem dX12_init_504 : decode cX12_init 504 = .ok (.putfield 97, 3) := by decide +kernel
theorem dX12_init_507 : decode cX12_init 507 = .ok (.aload_n 0, 1) := by decide +kernel
theorem dX12_init_508 : decode cX12_init 508 = .ok (.sipush 160, 3) := by decide +kernel
theorem dX12_init_511 : decode cX12_init 511 = .ok (.newarray .int, 2) := by decide +kernel
theorem dX12_init_513 : decode cX12_init 513 = .ok (.putfield 100, 3) := by decide +kernel
theorem dX12_init_516 : decode cX12_init 516 = .ok (.aload_n 0, 1) := by decide +kernel
theorem dX12_init_517 : decode cX12_init 517 = .ok (.bipush 80, 2) := by decide +kernel
theorem dX12_init_519 : decode cX12_init 519 = .ok (.newarray .int, 2) := by decide +kernel
theorem dX12_init_521 : decode cX12_init 521 = .ok (.putfield 103, 3) := by decide +kernel
theorem dX12_init_524 : decode cX12_init 524 = .ok (.aload_n 0, 1) := by decide +kernel
theorem dX12_init_525 : decode cX12_init 525 = .ok (.bipush 80, 2) := by decide +kernel
theorem dX12_init_527 : decode cX12_init 527 = .ok (.newarray .int, 2) := by decide +kernel
theorem dX12_init_529 : decode cX12_init 529 = .ok (.putfield 106, 3) := by decide +kernel
theorem dX12_init_532 : decode cX12_init 532 = .ok (.aload_n 0, 1) := by decide +kernel
theorem dX12_init_533 : decode cX12_init 533 = .ok (.bipush 80, 2) := by decide +kernel
theorem dX12_init_535 : decode cX12_init 535 = .ok (.newarray .int, 2) := by decide +kernel
theorem dX12_init_537 : decode cX12_init 537 = .ok (.putfield 109, 3) := by decide +kernel
theorem dX12_init_540 : decode cX12_init 540 = .ok (.aload_n 0, 1) := by decide +kernel
theorem dX12_init_541 : decode cX12_init 541 = .ok (.bipush 80, 2) := by decide +kernel
theorem dX12_init_543 : decode cX12_init 543 = .ok (.newarray .int, 2) := by decide +kernel
theorem dX12_init_545 : decode cX12_init 545 = .ok (.putfield 112, 3) := by decide +kernel
theorem dX12_init_548 : decode cX12_init 548 = .ok (.aload_n 0, 1) := by decide +kernel
theorem dX12_init_549 : decode cX12_init 549 = .ok (.bipush 80, 2) := by decide +kernel
theorem dX12_init_551 : decode cX12_init 551 = .ok (.newarray .int, 2) := by decide +kernel
theorem dX12_init_553 : decode cX12_init 553 = .ok (.putfield 115, 3) := by decide +kernel
theorem dX12_init_556 : decode cX12_init 556 = .ok (.aload_n 0, 1) := by decide +kernel
theorem dX12_init_557 : decode cX12_init 557 = .ok (.bipush 80, 2) := by decide +kernel
theorem dX12_init_559 : decode cX12_init 559 = .ok (.newarray .int, 2) := by decide +kernel
theorem dX12_init_561 : decode cX12_init 561 = .ok (.putfield 118, 3) := by decide +kernel
theorem dX12_init_564 : decode cX12_init 564 = .ok (.aload_n 0, 1) := by decide +kernel
theorem dX12_init_565 : decode cX12_init 565 = .ok (.sipush 600, 3) := by decide +kernel
theorem dX12_init_568 : decode cX12_init 568 = .ok (.newarray .int, 2) := by decide +kernel
theorem dX12_init_570 : decode cX12_init 570 = .ok (.putfield 121, 3) := by decide +kernel
theorem dX12_init_573 : decode cX12_init 573 = .ok (.aload_n 0, 1) := by decide +kernel
theorem dX12_init_574 : decode cX12_init 574 = .ok (.sipush 600, 3) := by decide +kernel
theorem dX12_init_577 : decode cX12_init 577 = .ok (.newarray .int, 2) := by decide +kernel
theorem dX12_init_579 : decode cX12_init 579 = .ok (.putfield 124, 3) := by decide +kernel
theorem dX12_init_582 : decode cX12_init 582 = .ok (.aload_n 0, 1) := by decide +kernel
theorem dX12_init_583 : decode cX12_init 583 = .ok (.bipush 48, 2) := by decide +kernel
theorem dX12_init_585 : decode cX12_init 585 = .ok (.newarray .int, 2) := by decide +kernel
theorem dX12_init_587 : decode cX12_init 587 = .ok (.putfield 127, 3) := by decide +kernel
theorem dX12_init_590 : decode cX12_init 590 = .ok (.aload_n 0, 1) := by decide +kernel
theorem dX12_init_591 : decode cX12_init 591 = .ok (.sipush 332, 3) := by decide +kernel
theorem dX12_init_594 : decode cX12_init 594 = .ok (.newarray .boolean, 2) := by decide +kernel
theorem dX12_init_596 : decode cX12_init 596 = .ok (.putfield 130, 3) := by decide +kernel
theorem dX12_init_599 : decode cX12_init 599 = .ok (.aload_n 0, 1) := by decide +kernel
theorem dX12_init_600 : decode cX12_init 600 = .ok (.ldc 133, 2) := by decide +kernel
theorem dX12_init_602 : decode cX12_init 602 = .ok (.newarray .int, 2) := by decide +kernel
theorem dX12_init_604 : decode cX12_init 604 = .ok (.putfield 134, 3) := by decide +kernel
theorem dX12_init_607 : decode cX12_init 607 = .ok (.aload_n 0, 1) := by decide +kernel
theorem dX12_init_608 : decode cX12_init 608 = .ok (.sipush 9600, 3) := by decide +kernel
theorem dX12_init_611 : decode cX12_init 611 = .ok (.newarray .int, 2) := by decide +kernel
theorem dX12_init_613 : decode cX12_init 613 = .ok (.putfield 137, 3) := by decide +kernel
theorem dX12_init_616 : decode cX12_init 616 = .ok (.aload_n 0, 1) := by decide +kernel
theorem dX12_init_617 : decode cX12_init 617 = .ok (.sipush 8440, 3) := by decide +kernel
theorem dX12_init_620 : decode cX12_init 620 = .ok (.newarray .int, 2) := by decide +kernel
theorem dX12_init_622 : decode cX12_init 622 = .ok (.putfield 140, 3) := by decide +kernel
theorem dX12_init_625 : decode cX12_init 625 = .ok (.aload_n 0, 1) := by decide +kernel
theorem dX12_init_626 : decode cX12_init 626 = .ok (.lconst 1, 1) := by decide +kernel
theorem dX12_init_627 : decode cX12_init 627 = .ok (.putfield 143, 3) := by decide +kernel
theorem dX12_init_630 : decode cX12_init 630 = .ok (.aload_n 0, 1) := by decide +kernel
theorem dX12_init_631 : decode cX12_init 631 = .ok (.iconst 1, 1) := by decide +kernel
theorem dX12_init_632 : decode cX12_init 632 = .ok (.newarray .char, 2) := by decide +kernel
theorem dX12_init_634 : decode cX12_init 634 = .ok (.dup, 1) := by decide +kernel
theorem dX12_init_635 : decode cX12_init 635 = .ok (.iconst 0, 1) := by decide +kernel
theorem dX12_init_636 : decode cX12_init 636 = .ok (.bipush 97, 2) := by decide +kernel
theorem dX12_init_638 : decode cX12_init 638 = .ok (.castore, 1) := by decide +kernel
theorem dX12_init_639 : decode cX12_init 639 = .ok (.putfield 147, 3) := by decide +kernel
theorem dX12_init_642 : decode cX12_init 642 = .ok (.aload_n 0, 1) := by decide +kernel
theorem dX12_init_643 : decode cX12_init 643 = .ok (.iconst (-1), 1) := by decide +kernel
theorem dX12_init_644 : decode cX12_init 644 = .ok (.putfield 150, 3) := by decide +kernel
theorem dX12_init_647 : decode cX12_init 647 = .ok (.aload_n 0, 1) := by decide +kernel
theorem dX12_init_648 : decode cX12_init 648 = .ok (.iconst 4, 1) := by decide +kernel
theorem dX12_init_649 : decode cX12_init 649 = .ok (.newarray .int, 2) := by decide +kernel
theorem dX12_init_651 : decode cX12_init 651 = .ok (.putfield 153, 3) := by decide +kernel
theorem dX12_init_654 : decode cX12_init 654 = .ok (.aload_n 0, 1) := by decide +kernel
theorem dX12_init_655 : decode cX12_init 655 = .ok (.iconst 4, 1) := by decide +kernel
theorem dX12_init_656 : decode cX12_init 656 = .ok (.newarray .int, 2) := by decide +kernel
theorem dX12_init_658 : decode cX12_init 658 = .ok (.putfield 156, 3) := by decide +kernel
theorem dX12_init_661 : decode cX12_init 661 = .ok (.aload_n 0, 1) := by decide +kernel
theorem dX12_init_662 : decode cX12_init 662 = .ok (.iconst 4, 1) := by decide +kernel
theorem dX12_init_663 : decode cX12_init 663 = .ok (.newarray .int, 2) := by decide +kernel
theorem dX12_init_665 : decode cX12_init 665 = .ok (.putfield 159, 3) := by decide +kernel
theorem dX12_init_668 : decode cX12_init 668 = .ok (.aload_n 0, 1) := by decide +kernel
theorem dX12_init_669 : decode cX12_init 669 = .ok (.sipush 507, 3) := by decide +kernel
theorem dX12_init_672 : decode cX12_init 672 = .ok (.newarray .int, 2) := by decide +kernel
theorem dX12_init_674 : decode cX12_init 674 = .ok (.putfield 162, 3) := by decide +kernel
theorem dX12_init_677 : decode cX12_init 677 = .ok (.return_, 1) := by decide +kernel
theorem dX12_isAsSeen_0 : decode cX12_isAsSeen 0 = .ok (.iconst 0, 1) := by decide +kernel
theorem dX12_isAsSeen_1 : decode cX12_isAsSeen 1 = .ok (.istore_n 1, 1) := by decide +kernel
theorem dX12_isAsSeen_2 : decode cX12_isAsSeen 2 = .ok (.iload_n 1, 1) := by decide +kernel
theorem dX12_isAsSeen_3 : decode cX12_isAsSeen 3 = .ok (.aload_n 0, 1) := by decide +kernel
theorem dX12_isAsSeen_4 : decode cX12_isAsSeen 4 = .ok (.getfield 334, 3) := by decide +kernel
theorem dX12_isAsSeen_7 : decode cX12_isAsSeen 7 = .ok (.if_icmp .ge 63, 3) := by decide +kernel
theorem dX12_isAsSeen_10 : decode cX12_isAsSeen 10 = .ok (.aload_n 0, 1) := by decide +kernel
theorem dX12_isAsSeen_11 : decode cX12_isAsSeen 11 = .ok (.getfield 127, 3) := by decide +kernel
theorem dX12_isAsSeen_14 : decode cX12_isAsSeen 14 = .ok (.iconst 3, 1) := by decide +kernel
theorem dX12_isAsSeen_15 : decode cX12_isAsSeen 15 = .ok (.iload_n 1, 1) := by decide +kernel
theorem dX12_isAsSeen_16 : decode cX12_isAsSeen 16 = .ok (.imul, 1) := by decide +kernel
theorem dX12_isAsSeen_17 : decode cX12_isAsSeen 17 = .ok (.iaload, 1) := by decide +kernel
theorem dX12_isAsSeen_18 : decode cX12_isAsSeen 18 = .ok (.invokestatic 237, 3) := by decide +kernel
theorem dX12_isAsSeen_21 : decode cX12_isAsSeen 21 = .ok (.istore_n 2, 1) := by decide +kernel
theorem dX12_isAsSeen_22 : decode cX12_isAsSeen 22 = .ok (.aload_n 0, 1) := by decide +kernel
theorem dX12_isAsSeen_23 : decode cX12_isAsSeen 23 = .ok (.getfield 84, 3) := by decide +kernel
theorem dX12_isAsSeen_26 : decode cX12_isAsSeen 26 = .ok (.iload_n 2, 1) := by decide +kernel
theorem dX12_isAsSeen_27 : decode cX12_isAsSeen 27 = .ok (.iaload, 1) := by decide +kernel
theorem dX12_isAsSeen_28 : decode cX12_isAsSeen 28 = .ok (.aload_n 0, 1) := by decide +kernel
theorem dX12_isAsSeen_29 : decode cX12_isAsSeen 29 = .ok (.getfield 127, 3) := by decide +kernel
theorem dX12_isAsSeen_32 : decode cX12_isAsSeen 32 = .ok (.iconst 3, 1) := by decide +kernel
theorem dX12_isAsSeen_33 : decode cX12_isAsSeen 33 = .ok (.iload_n 1, 1) := by decide +kernel
theorem dX12_isAsSeen_34 : decode cX12_isAsSeen 34 = .ok (.imul, 1) := by decide +kernel
theorem dX12_isAsSeen_35 : decode cX12_isAsSeen 35 = .ok (.iconst 1, 1) := by decide +kernel
theorem dX12_isAsSeen_36 : decode cX12_isAsSeen 36 = .ok (.iadd, 1) := by decide +kernel
theorem dX12_isAsSeen_37 : decode cX12_isAsSeen 37 = .ok (.iaload, 1) := by decide +kernel
theorem dX12_isAsSeen_38 : decode cX12_isAsSeen 38 = .ok (.if_icmp .ne 24, 3) := by decide +kernel
theorem dX12_isAsSeen_41 : decode cX12_isAsSeen 41 = .ok (.aload_n 0, 1) := by decide +kernel
theorem dX12_isAsSeen_42 : decode cX12_isAsSeen 42 = .ok (.getfield 84, 3) := by decide +kernel
theorem dX12_isAsSeen_45 : decode cX12_isAsSeen 45 = .ok (.iload_n 2, 1) := by decide +kernel
theorem dX12_isAsSeen_46 : decode cX12_isAsSeen 46 = .ok (.iconst 1, 1) := by decide +kernel
theorem dX12_isAsSeen_47 : decode cX12_isAsSeen 47 = .ok (.iadd, 1) := by decide +kernel
theorem dX12_isAsSeen_48 : decode cX12_isAsSeen 48 = .ok (.iaload, 1) := by decide +kernel
theorem dX12_isAsSeen_49 : decode cX12_isAsSeen 49 = .ok (.aload_n 0, 1) := by decide +kernel
theorem dX12_isAsSeen_50 : decode cX12_isAsSeen 50 = .ok (.getfield 127, 3) := by decide +kernel
theorem dX12_isAsSeen_53 : decode cX12_isAsSeen 53 = .ok (.iconst 3, 1) := by decide +kernel
theorem dX12_isAsSeen_54 : decode cX12_isAsSeen 54 = .ok (.iload_n 1, 1) := by decide +kernel
theorem dX12_isAsSeen_55 : decode cX12_isAsSeen 55 = .ok (.imul, 1) := by decide +kernel
theorem dX12_isAsSeen_56 : decode cX12_isAsSeen 56 = .ok (.iconst 2, 1) := by decide +kernel
theorem dX12_isAsSeen_57 : decode cX12_isAsSeen 57 = .ok (.iadd, 1) := by decide +kernel
theorem dX12_isAsSeen_58 : decode cX12_isAsSeen 58 = .ok (.iaload, 1) := by decide +kernel
theorem dX12_isAsSeen_59 : decode cX12_isAsSeen 59 = .ok (.if_icmp .eq 5, 3) := by decide +kernel
theorem dX12_isAsSeen_62 : decode cX12_isAsSeen 62 = .ok (.iconst 0, 1) := by decide +kernel
theorem dX12_isAsSeen_63 : decode cX12_isAsSeen 63 = .ok (.ireturn, 1) := by decide +kernel
theorem dX12_isAsSeen_64 : decode cX12_isAsSeen 64 = .ok (.iinc 1 1, 3) := by decide +kernel
theorem dX12_isAsSeen_67 : decode cX12_isAsSeen 67 = .ok (.goto (-65), 3) := by decide +kernel
theorem dX12_isAsSeen_70 : decode cX12_isAsSeen 70 = .ok (.iconst 1, 1) := by decide +kernel
theorem dX12_isAsSeen_71 : decode cX12_isAsSeen 71 = .ok (.ireturn, 1) := by decide +kernel
theorem dX12_isAsked_0 : decode cX12_isAsked 0 = .ok (.aload_n 0, 1) := by decide +kernel
theorem dX12_isAsked_1 : decode cX12_isAsked 1 = .ok (.getfield 321, 3) := by decide +kernel
theorem dX12_isAsked_4 : decode cX12_isAsked 4 = .ok (.ifCond .eq 13, 3) := by decide +kernel
theorem dX12_isAsked_7 : decode cX12_isAsked 7 = .ok (.aload_n 0, 1) := by decide +kernel
theorem dX12_isAsked_8 : decode cX12_isAsked 8 = .ok (.getfield 78, 3) := by decide +kernel
theorem dX12_isAsked_11 : decode cX12_isAsked 11 = .ok (.iconst 3, 1) := by decide +kernel
theorem dX12_isAsked_12 : decode cX12_isAsked 12 = .ok (.iaload, 1) := by decide +kernel
theorem dX12_isAsked_13 : decode cX12_isAsked 13 = .ok (.iconst 1, 1) := by decide +kernel
theorem dX12_isAsked_14 : decode cX12_isAsked 14 = .ok (.if_icmp .ne 5, 3) := by decide +kernel
theorem dX12_isAsked_17 : decode cX12_isAsked 17 = .ok (.iconst 0, 1) := by decide +kernel
theorem dX12_isAsked_18 : decode cX12_isAsked 18 = .ok (.ireturn, 1) := by decide +kernel
theorem dX12_isAsked_19 : decode cX12_isAsked 19 = .ok (.aload_n 0, 1) := by decide +kernel
theorem dX12_isAsked_20 : decode cX12_isAsked 20 = .ok (.invokevirtual 436, 3) := by decide +kernel
theorem dX12_isAsked_23 : decode cX12_isAsked 23 = .ok (.iconst 1, 1) := by decide +kernel
theorem dX12_isAsked_24 : decode cX12_isAsked 24 = .ok (.ireturn, 1) := by decide +kernel
theorem dX12_isAskedOf_0 : decode cX12_isAskedOf 0 = .ok (.aload_n 0, 1) := by decide +kernel
theorem dX12_isAskedOf_1 : decode cX12_isAskedOf 1 = .ok (.invokevirtual 452, 3) := by decide +kernel
theorem dX12_isAskedOf_4 : decode cX12_isAskedOf 4 = .ok (.ifCond .eq 23, 3) := by decide +kernel
theorem dX12_isAskedOf_7 : decode cX12_isAskedOf 7 = .ok (.iload_n 1, 1) := by decide +kernel
theorem dX12_isAskedOf_8 : decode cX12_isAskedOf 8 = .ok (.i2l, 1) := by decide +kernel
theorem dX12_isAskedOf_9 : decode cX12_isAskedOf 9 = .ok (.lconst 0, 1) := by decide +kernel
theorem dX12_isAskedOf_10 : decode cX12_isAskedOf 10 = .ok (.aload_n 0, 1) := by decide +kernel
theorem dX12_isAskedOf_11 : decode cX12_isAskedOf 11 = .ok (.getfield 325, 3) := by decide +kernel
theorem dX12_isAskedOf_14 : decode cX12_isAskedOf 14 = .ok (.iconst 1, 1) := by decide +kernel
theorem dX12_isAskedOf_15 : decode cX12_isAskedOf 15 = .ok (.isub, 1) := by decide +kernel
theorem dX12_isAskedOf_16 : decode cX12_isAskedOf 16 = .ok (.i2l, 1) := by decide +kernel
theorem dX12_isAskedOf_17 : decode cX12_isAskedOf 17 = .ok (.invokestatic 178, 3) := by decide +kernel
theorem dX12_isAskedOf_20 : decode cX12_isAskedOf 20 = .ok (.ifCond .eq 7, 3) := by decide +kernel
theorem dX12_isAskedOf_23 : decode cX12_isAskedOf 23 = .ok (.iconst 1, 1) := by decide +kernel
theorem dX12_isAskedOf_24 : decode cX12_isAskedOf 24 = .ok (.goto 4, 3) := by decide +kernel
theorem dX12_isAskedOf_27 : decode cX12_isAskedOf 27 = .ok (.iconst 0, 1) := by decide +kernel
theorem dX12_isAskedOf_28 : decode cX12_isAskedOf 28 = .ok (.ireturn, 1) := by decide +kernel
theorem dX12_isCounted_0 : decode cX12_isCounted 0 = .ok (.aload_n 0, 1) := by decide +kernel
theorem dX12_isCounted_1 : decode cX12_isCounted 1 = .ok (.getfield 598, 3) := by decide +kernel
theorem dX12_isCounted_4 : decode cX12_isCounted 4 = .ok (.sipush 400, 3) := by decide +kernel
theorem dX12_isCounted_7 : decode cX12_isCounted 7 = .ok (.if_icmp .ge 15, 3) := by decide +kernel
theorem dX12_isCounted_10 : decode cX12_isCounted 10 = .ok (.aload_n 0, 1) := by decide +kernel
theorem dX12_isCounted_11 : decode cX12_isCounted 11 = .ok (.dup, 1) := by decide +kernel
theorem dX12_isCounted_12 : decode cX12_isCounted 12 = .ok (.getfield 598, 3) := by decide +kernel
theorem dX12_isCounted_15 : decode cX12_isCounted 15 = .ok (.iconst 1, 1) := by decide +kernel
theorem dX12_isCounted_16 : decode cX12_isCounted 16 = .ok (.iadd, 1) := by decide +kernel
theorem dX12_isCounted_17 : decode cX12_isCounted 17 = .ok (.putfield 598, 3) := by decide +kernel
theorem dX12_isCounted_20 : decode cX12_isCounted 20 = .ok (.iconst 1, 1) := by decide +kernel
theorem dX12_isCounted_21 : decode cX12_isCounted 21 = .ok (.ireturn, 1) := by decide +kernel
theorem dX12_isCounted_22 : decode cX12_isCounted 22 = .ok (.aload_n 0, 1) := by decide +kernel
theorem dX12_isCounted_23 : decode cX12_isCounted 23 = .ok (.bipush 6, 2) := by decide +kernel
theorem dX12_isCounted_25 : decode cX12_isCounted 25 = .ok (.putfield 340, 3) := by decide +kernel
theorem dX12_isCounted_28 : decode cX12_isCounted 28 = .ok (.aload_n 0, 1) := by decide +kernel
theorem dX12_isCounted_29 : decode cX12_isCounted 29 = .ok (.iload_n 1, 1) := by decide +kernel
theorem dX12_isCounted_30 : decode cX12_isCounted 30 = .ok (.putfield 150, 3) := by decide +kernel
theorem dX12_isCounted_33 : decode cX12_isCounted 33 = .ok (.iconst 0, 1) := by decide +kernel
theorem dX12_isCounted_34 : decode cX12_isCounted 34 = .ok (.ireturn, 1) := by decide +kernel
theorem dX12_isDigit_0 : decode cX12_isDigit 0 = .ok (.iload_n 0, 1) := by decide +kernel
theorem dX12_isDigit_1 : decode cX12_isDigit 1 = .ok (.bipush 48, 2) := by decide +kernel
theorem dX12_isDigit_3 : decode cX12_isDigit 3 = .ok (.if_icmp .lt 13, 3) := by decide +kernel
theorem dX12_isDigit_6 : decode cX12_isDigit 6 = .ok (.iload_n 0, 1) := by decide +kernel
theorem dX12_isDigit_7 : decode cX12_isDigit 7 = .ok (.bipush 57, 2) := by decide +kernel
theorem dX12_isDigit_9 : decode cX12_isDigit 9 = .ok (.if_icmp .gt 7, 3) := by decide +kernel
theorem dX12_isDigit_12 : decode cX12_isDigit 12 = .ok (.iconst 1, 1) := by decide +kernel
theorem dX12_isDigit_13 : decode cX12_isDigit 13 = .ok (.goto 4, 3) := by decide +kernel
theorem dX12_isDigit_16 : decode cX12_isDigit 16 = .ok (.iconst 0, 1) := by decide +kernel
theorem dX12_isDigit_17 : decode cX12_isDigit 17 = .ok (.ireturn, 1) := by decide +kernel
theorem dX12_isFarther_0 : decode cX12_isFarther 0 = .ok (.iconst 0, 1) := by decide +kernel
theorem dX12_isFarther_1 : decode cX12_isFarther 1 = .ok (.istore_n 2, 1) := by decide +kernel
theorem dX12_isFarther_2 : decode cX12_isFarther 2 = .ok (.iconst 0, 1) := by decide +kernel
theorem dX12_isFarther_3 : decode cX12_isFarther 3 = .ok (.istore_n 3, 1) := by decide +kernel
theorem dX12_isFarther_4 : decode cX12_isFarther 4 = .ok (.iload_n 3, 1) := by decide +kernel
theorem dX12_isFarther_5 : decode cX12_isFarther 5 = .ok (.aload_n 0, 1) := by decide +kernel
theorem dX12_isFarther_6 : decode cX12_isFarther 6 = .ok (.aload_n 0, 1) := by decide +kernel
theorem dX12_isFarther_7 : decode cX12_isFarther 7 = .ok (.iload_n 1, 1) := by decide +kernel
theorem dX12_isFarther_8 : decode cX12_isFarther 8 = .ok (.invokevirtual 353, 3) := by decide +kernel
theorem dX12_isFarther_11 : decode cX12_isFarther 11 = .ok (.invokevirtual 234, 3) := by decide +kernel
theorem dX12_isFarther_14 : decode cX12_isFarther 14 = .ok (.if_icmp .ge 61, 3) := by decide +kernel
theorem dX12_isFarther_17 : decode cX12_isFarther 17 = .ok (.aload_n 0, 1) := by decide +kernel
theorem dX12_isFarther_18 : decode cX12_isFarther 18 = .ok (.iload_n 1, 1) := by decide +kernel
theorem dX12_isFarther_19 : decode cX12_isFarther 19 = .ok (.iload_n 3, 1) := by decide +kernel
theorem dX12_isFarther_20 : decode cX12_isFarther 20 = .ok (.invokevirtual 369, 3) := by decide +kernel
theorem dX12_isFarther_23 : decode cX12_isFarther 23 = .ok (.istore 4, 2) := by decide +kernel
theorem dX12_isFarther_25 : decode cX12_isFarther 25 = .ok (.iload 4, 2) := by decide +kernel
theorem dX12_isFarther_27 : decode cX12_isFarther 27 = .ok (.iconst (-1), 1) := by decide +kernel
theorem dX12_isFarther_28 : decode cX12_isFarther 28 = .ok (.if_icmp .eq 41, 3) := by decide +kernel
theorem dX12_isFarther_31 : decode cX12_isFarther 31 = .ok (.aload_n 0, 1) := by decide +kernel
theorem dX12_isFarther_32 : decode cX12_isFarther 32 = .ok (.getfield 109, 3) := by decide +kernel
theorem dX12_isFarther_35 : decode cX12_isFarther 35 = .ok (.iload 4, 2) := by decide +kernel
theorem dX12_isFarther_37 : decode cX12_isFarther 37 = .ok (.iaload, 1) := by decide +kernel
theorem dX12_isFarther_38 : decode cX12_isFarther 38 = .ok (.aload_n 0, 1) := by decide +kernel
theorem dX12_isFarther_39 : decode cX12_isFarther 39 = .ok (.getfield 109, 3) := by decide +kernel
theorem dX12_isFarther_42 : decode cX12_isFarther 42 = .ok (.iload_n 1, 1) := by decide +kernel
theorem dX12_isFarther_43 : decode cX12_isFarther 43 = .ok (.iaload, 1) := by decide +kernel
theorem dX12_isFarther_44 : decode cX12_isFarther 44 = .ok (.iconst 1, 1) := by decide +kernel
theorem dX12_isFarther_45 : decode cX12_isFarther 45 = .ok (.iadd, 1) := by decide +kernel
theorem dX12_isFarther_46 : decode cX12_isFarther 46 = .ok (.if_icmp .gt 6, 3) := by decide +kernel
theorem dX12_isFarther_49 : decode cX12_isFarther 49 = .ok (.goto 20, 3) := by decide +kernel
theorem dX12_isFarther_52 : decode cX12_isFarther 52 = .ok (.aload_n 0, 1) := by decide +kernel
theorem dX12_isFarther_53 : decode cX12_isFarther 53 = .ok (.getfield 109, 3) := by decide +kernel
theorem dX12_isFarther_56 : decode cX12_isFarther 56 = .ok (.iload 4, 2) := by decide +kernel
theorem dX12_isFarther_58 : decode cX12_isFarther 58 = .ok (.aload_n 0, 1) := by decide +kernel
theorem dX12_isFarther_59 : decode cX12_isFarther 59 = .ok (.getfield 109, 3) := by decide +kernel
theorem dX12_isFarther_62 : decode cX12_isFarther 62 = .ok (.iload_n 1, 1) := by decide +kernel
theorem dX12_isFarther_63 : decode cX12_isFarther 63 = .ok (.iaload, 1) := by decide +kernel
theorem dX12_isFarther_64 : decode cX12_isFarther 64 = .ok (.iconst 1, 1) := by decide +kernel
theorem dX12_isFarther_65 : decode cX12_isFarther 65 = .ok (.iadd, 1) := by decide +kernel
theorem dX12_isFarther_66 : decode cX12_isFarther 66 = .ok (.iastore, 1) := by decide +kernel
theorem dX12_isFarther_67 : decode cX12_isFarther 67 = .ok (.iconst 1, 1) := by decide +kernel
theorem dX12_isFarther_68 : decode cX12_isFarther 68 = .ok (.istore_n 2, 1) := by decide +kernel
theorem dX12_isFarther_69 : decode cX12_isFarther 69 = .ok (.iinc 3 1, 3) := by decide +kernel
theorem dX12_isFarther_72 : decode cX12_isFarther 72 = .ok (.goto (-68), 3) := by decide +kernel
theorem dX12_isFarther_75 : decode cX12_isFarther 75 = .ok (.iload_n 2, 1) := by decide +kernel
theorem dX12_isFarther_76 : decode cX12_isFarther 76 = .ok (.ireturn, 1) := by decide +kernel
theorem dX12_isHere_0 : decode cX12_isHere 0 = .ok (.aload_n 0, 1) := by decide +kernel
theorem dX12_isHere_1 : decode cX12_isHere 1 = .ok (.getfield 194, 3) := by decide +kernel
theorem dX12_isHere_4 : decode cX12_isHere 4 = .ok (.ifCond .ne 24, 3) := by decide +kernel
theorem dX12_isHere_7 : decode cX12_isHere 7 = .ok (.aload_n 0, 1) := by decide +kernel
theorem dX12_isHere_8 : decode cX12_isHere 8 = .ok (.invokevirtual 200, 3) := by decide +kernel
theorem dX12_isHere_11 : decode cX12_isHere 11 = .ok (.invokestatic 204, 3) := by decide +kernel
theorem dX12_isHere_14 : decode cX12_isHere 14 = .ok (.ifCond .eq 14, 3) := by decide +kernel
theorem dX12_isHere_17 : decode cX12_isHere 17 = .ok (.aload_n 0, 1) := by decide +kernel
theorem dX12_isHere_18 : decode cX12_isHere 18 = .ok (.getfield 188, 3) := by decide +kernel
theorem dX12_isHere_21 : decode cX12_isHere 21 = .ok (.aload_n 0, 1) := by decide +kernel
theorem dX12_isHere_22 : decode cX12_isHere 22 = .ok (.getfield 191, 3) := by decide +kernel
theorem dX12_isHere_25 : decode cX12_isHere 25 = .ok (.if_icmp .ne 5, 3) := by decide +kernel
theorem dX12_isHere_28 : decode cX12_isHere 28 = .ok (.iconst 0, 1) := by decide +kernel
theorem dX12_isHere_29 : decode cX12_isHere 29 = .ok (.ireturn, 1) := by decide +kernel
theorem dX12_isHere_30 : decode cX12_isHere 30 = .ok (.aload_n 0, 1) := by decide +kernel
theorem dX12_isHere_31 : decode cX12_isHere 31 = .ok (.getfield 188, 3) := by decide +kernel
theorem dX12_isHere_34 : decode cX12_isHere 34 = .ok (.istore_n 2, 1) := by decide +kernel
theorem dX12_isHere_35 : decode cX12_isHere 35 = .ok (.iload_n 2, 1) := by decide +kernel
theorem dX12_isHere_36 : decode cX12_isHere 36 = .ok (.aload_n 0, 1) := by decide +kernel
theorem dX12_isHere_37 : decode cX12_isHere 37 = .ok (.getfield 185, 3) := by decide +kernel
theorem dX12_isHere_40 : decode cX12_isHere 40 = .ok (.if_icmp .ge 21, 3) := by decide +kernel
theorem dX12_isHere_43 : decode cX12_isHere 43 = .ok (.aload_n 0, 1) := by decide +kernel
theorem dX12_isHere_44 : decode cX12_isHere 44 = .ok (.getfield 7, 3) := by decide +kernel
theorem dX12_isHere_47 : decode cX12_isHere 47 = .ok (.iload_n 2, 1) := by decide +kernel
theorem dX12_isHere_48 : decode cX12_isHere 48 = .ok (.iaload, 1) := by decide +kernel
theorem dX12_isHere_49 : decode cX12_isHere 49 = .ok (.invokestatic 204, 3) := by decide +kernel
theorem dX12_isHere_52 : decode cX12_isHere 52 = .ok (.ifCond .eq 9, 3) := by decide +kernel
theorem dX12_isHere_55 : decode cX12_isHere 55 = .ok (.iinc 2 1, 3) := by decide +kernel
theorem dX12_isHere_58 : decode cX12_isHere 58 = .ok (.goto (-23), 3) := by decide +kernel
theorem dX12_isHere_61 : decode cX12_isHere 61 = .ok (.iload_n 2, 1) := by decide +kernel
theorem dX12_isHere_62 : decode cX12_isHere 62 = .ok (.aload_n 0, 1) := by decide +kernel
theorem dX12_isHere_63 : decode cX12_isHere 63 = .ok (.getfield 188, 3) := by decide +kernel
theorem dX12_isHere_66 : decode cX12_isHere 66 = .ok (.isub, 1) := by decide +kernel
theorem dX12_isHere_67 : decode cX12_isHere 67 = .ok (.aload_n 1, 1) := by decide +kernel
theorem dX12_isHere_68 : decode cX12_isHere 68 = .ok (.arraylength, 1) := by decide +kernel
theorem dX12_isHere_69 : decode cX12_isHere 69 = .ok (.if_icmp .eq 5, 3) := by decide +kernel
theorem dX12_isHere_72 : decode cX12_isHere 72 = .ok (.iconst 0, 1) := by decide +kernel
theorem dX12_isHere_73 : decode cX12_isHere 73 = .ok (.ireturn, 1) := by decide +kernel
theorem dX12_isHere_74 : decode cX12_isHere 74 = .ok (.iconst 0, 1) := by decide +kernel
theorem dX12_isHere_75 : decode cX12_isHere 75 = .ok (.istore_n 3, 1) := by decide +kernel
theorem dX12_isHere_76 : decode cX12_isHere 76 = .ok (.iload_n 3, 1) := by decide +kernel
theorem dX12_isHere_77 : decode cX12_isHere 77 = .ok (.aload_n 1, 1) := by decide +kernel
theorem dX12_isHere_78 : decode cX12_isHere 78 = .ok (.arraylength, 1) := by decide +kernel
theorem dX12_isHere_79 : decode cX12_isHere 79 = .ok (.if_icmp .ge 28, 3) := by decide +kernel
theorem dX12_isHere_82 : decode cX12_isHere 82 = .ok (.aload_n 0, 1) := by decide +kernel
theorem dX12_isHere_83 : decode cX12_isHere 83 = .ok (.getfield 7, 3) := by decide +kernel
theorem dX12_isHere_86 : decode cX12_isHere 86 = .ok (.aload_n 0, 1) := by decide +kernel
theorem dX12_isHere_87 : decode cX12_isHere 87 = .ok (.getfield 188, 3) := by decide +kernel
theorem dX12_isHere_90 : decode cX12_isHere 90 = .ok (.iload_n 3, 1) := by decide +kernel
theorem dX12_isHere_91 : decode cX12_isHere 91 = .ok (.iadd, 1) := by decide +kernel
theorem dX12_isHere_92 : decode cX12_isHere 92 = .ok (.iaload, 1) := by decide +kernel
theorem dX12_isHere_93 : decode cX12_isHere 93 = .ok (.aload_n 1, 1) := by decide +kernel
theorem dX12_isHere_94 : decode cX12_isHere 94 = .ok (.iload_n 3, 1) := by decide +kernel
theorem dX12_isHere_95 : decode cX12_isHere 95 = .ok (.caload, 1) := by decide +kernel
theorem dX12_isHere_96 : decode cX12_isHere 96 = .ok (.if_icmp .eq 5, 3) := by decide +kernel
theorem dX12_isHere_99 : decode cX12_isHere 99 = .ok (.iconst 0, 1) := by decide +kernel
theorem dX12_isHere_100 : decode cX12_isHere 100 = .ok (.ireturn, 1) := by decide +kernel
theorem dX12_isHere_101 : decode cX12_isHere 101 = .ok (.iinc 3 1, 3) := by decide +kernel
theorem dX12_isHere_104 : decode cX12_isHere 104 = .ok (.goto (-28), 3) := by decide +kernel
theorem dX12_isHere_107 : decode cX12_isHere 107 = .ok (.iconst 1, 1) := by decide +kernel
theorem dX12_isHere_108 : decode cX12_isHere 108 = .ok (.ireturn, 1) := by decide +kernel
theorem dX12_isImage_0 : decode cX12_isImage 0 = .ok (.aload_n 0, 1) := by decide +kernel
theorem dX12_isImage_1 : decode cX12_isImage 1 = .ok (.getfield 321, 3) := by decide +kernel
theorem dX12_isImage_4 : decode cX12_isImage 4 = .ok (.ifCond .eq 73, 3) := by decide +kernel
theorem dX12_isImage_7 : decode cX12_isImage 7 = .ok (.iload_n 1, 1) := by decide +kernel
theorem dX12_isImage_8 : decode cX12_isImage 8 = .ok (.bipush 27, 2) := by decide +kernel
theorem dX12_isImage_10 : decode cX12_isImage 10 = .ok (.if_icmp .lt 67, 3) := by decide +kernel
theorem dX12_isImage_13 : decode cX12_isImage 13 = .ok (.aload_n 0, 1) := by decide +kernel
theorem dX12_isImage_14 : decode cX12_isImage 14 = .ok (.getfield 7, 3) := by decide +kernel
theorem dX12_isImage_17 : decode cX12_isImage 17 = .ok (.iconst 0, 1) := by decide +kernel
theorem dX12_isImage_18 : decode cX12_isImage 18 = .ok (.iaload, 1) := by decide +kernel
theorem dX12_isImage_19 : decode cX12_isImage 19 = .ok (.iconst 1, 1) := by decide +kernel
theorem dX12_isImage_20 : decode cX12_isImage 20 = .ok (.if_icmp .gt 57, 3) := by decide +kernel
theorem dX12_isImage_23 : decode cX12_isImage 23 = .ok (.aload_n 0, 1) := by decide +kernel
theorem dX12_isImage_24 : decode cX12_isImage 24 = .ok (.getfield 7, 3) := by decide +kernel
theorem dX12_isImage_27 : decode cX12_isImage 27 = .ok (.iconst 1, 1) := by decide +kernel
theorem dX12_isImage_28 : decode cX12_isImage 28 = .ok (.iaload, 1) := by decide +kernel
theorem dX12_isImage_29 : decode cX12_isImage 29 = .ok (.aload_n 0, 1) := by decide +kernel
theorem dX12_isImage_30 : decode cX12_isImage 30 = .ok (.getfield 325, 3) := by decide +kernel
theorem dX12_isImage_33 : decode cX12_isImage 33 = .ok (.if_icmp .gt 44, 3) := by decide +kernel
theorem dX12_isImage_36 : decode cX12_isImage 36 = .ok (.iload_n 1, 1) := by decide +kernel
theorem dX12_isImage_37 : decode cX12_isImage 37 = .ok (.bipush 27, 2) := by decide +kernel
theorem dX12_isImage_39 : decode cX12_isImage 39 = .ok (.iconst 3, 1) := by decide +kernel
theorem dX12_isImage_40 : decode cX12_isImage 40 = .ok (.aload_n 0, 1) := by decide +kernel
theorem dX12_isImage_41 : decode cX12_isImage 41 = .ok (.getfield 325, 3) := by decide +kernel
theorem dX12_isImage_44 : decode cX12_isImage 44 = .ok (.aload_n 0, 1) := by decide +kernel
theorem dX12_isImage_45 : decode cX12_isImage 45 = .ok (.getfield 7, 3) := by decide +kernel
theorem dX12_isImage_48 : decode cX12_isImage 48 = .ok (.iconst 1, 1) := by decide +kernel
theorem dX12_isImage_49 : decode cX12_isImage 49 = .ok (.iaload, 1) := by decide +kernel
theorem dX12_isImage_50 : decode cX12_isImage 50 = .ok (.isub, 1) := by decide +kernel
theorem dX12_isImage_51 : decode cX12_isImage 51 = .ok (.imul, 1) := by decide +kernel
theorem dX12_isImage_52 : decode cX12_isImage 52 = .ok (.iadd, 1) := by decide +kernel
theorem dX12_isImage_53 : decode cX12_isImage 53 = .ok (.if_icmp .ne 24, 3) := by decide +kernel
theorem dX12_isImage_56 : decode cX12_isImage 56 = .ok (.aload_n 0, 1) := by decide +kernel
theorem dX12_isImage_57 : decode cX12_isImage 57 = .ok (.getfield 7, 3) := by decide +kernel
theorem dX12_isImage_60 : decode cX12_isImage 60 = .ok (.iload_n 1, 1) := by decide +kernel
theorem dX12_isImage_61 : decode cX12_isImage 61 = .ok (.iconst 1, 1) := by decide +kernel
theorem dX12_isImage_62 : decode cX12_isImage 62 = .ok (.isub, 1) := by decide +kernel
theorem dX12_isImage_63 : decode cX12_isImage 63 = .ok (.iaload, 1) := by decide +kernel
theorem dX12_isImage_64 : decode cX12_isImage 64 = .ok (.aload_n 0, 1) := by decide +kernel
theorem dX12_isImage_65 : decode cX12_isImage 65 = .ok (.getfield 7, 3) := by decide +kernel
theorem dX12_isImage_68 : decode cX12_isImage 68 = .ok (.iload_n 1, 1) := by decide +kernel
theorem dX12_isImage_69 : decode cX12_isImage 69 = .ok (.iconst 1, 1) := by decide +kernel
theorem dX12_isImage_70 : decode cX12_isImage 70 = .ok (.isub, 1) := by decide +kernel
theorem dX12_isImage_71 : decode cX12_isImage 71 = .ok (.invokestatic 676, 3) := by decide +kernel
theorem dX12_isImage_74 : decode cX12_isImage 74 = .ok (.if_icmp .eq 5, 3) := by decide +kernel
theorem dX12_isImage_77 : decode cX12_isImage 77 = .ok (.iconst 0, 1) := by decide +kernel
theorem dX12_isImage_78 : decode cX12_isImage 78 = .ok (.ireturn, 1) := by decide +kernel
theorem dX12_isImage_79 : decode cX12_isImage 79 = .ok (.iconst 0, 1) := by decide +kernel
theorem dX12_isImage_80 : decode cX12_isImage 80 = .ok (.istore_n 2, 1) := by decide +kernel
theorem dX12_isImage_81 : decode cX12_isImage 81 = .ok (.iload_n 2, 1) := by decide +kernel
theorem dX12_isImage_82 : decode cX12_isImage 82 = .ok (.sipush 422, 3) := by decide +kernel
theorem dX12_isImage_85 : decode cX12_isImage 85 = .ok (.if_icmp .ge 16, 3) := by decide +kernel
theorem dX12_isImage_88 : decode cX12_isImage 88 = .ok (.aload_n 0, 1) := by decide +kernel
theorem dX12_isImage_89 : decode cX12_isImage 89 = .ok (.getfield 81, 3) := by decide +kernel
theorem dX12_isImage_92 : decode cX12_isImage 92 = .ok (.iload_n 2, 1) := by decide +kernel
theorem dX12_isImage_93 : decode cX12_isImage 93 = .ok (.iconst 0, 1) := by decide +kernel
theorem dX12_isImage_94 : decode cX12_isImage 94 = .ok (.iastore, 1) := by decide +kernel
theorem dX12_isImage_95 : decode cX12_isImage 95 = .ok (.iinc 2 1, 3) := by decide +kernel
theorem dX12_isImage_98 : decode cX12_isImage 98 = .ok (.goto (-17), 3) := by decide +kernel
theorem dX12_isImage_101 : decode cX12_isImage 101 = .ok (.aload_n 0, 1) := by decide +kernel
theorem dX12_isImage_102 : decode cX12_isImage 102 = .ok (.getfield 81, 3) := by decide +kernel
theorem dX12_isImage_105 : decode cX12_isImage 105 = .ok (.iconst 0, 1) := by decide +kernel
theorem dX12_isImage_106 : decode cX12_isImage 106 = .ok (.aload_n 0, 1) := by decide +kernel
theorem dX12_isImage_107 : decode cX12_isImage 107 = .ok (.getfield 7, 3) := by decide +kernel
theorem dX12_isImage_110 : decode cX12_isImage 110 = .ok (.iconst 0, 1) := by decide +kernel
theorem dX12_isImage_111 : decode cX12_isImage 111 = .ok (.iaload, 1) := by decide +kernel
theorem dX12_isImage_112 : decode cX12_isImage 112 = .ok (.iastore, 1) := by decide +kernel
theorem dX12_isImage_113 : decode cX12_isImage 113 = .ok (.aload_n 0, 1) := by decide +kernel
theorem dX12_isImage_114 : decode cX12_isImage 114 = .ok (.getfield 81, 3) := by decide +kernel
theorem dX12_isImage_117 : decode cX12_isImage 117 = .ok (.iconst 1, 1) := by decide +kernel
theorem dX12_isImage_118 : decode cX12_isImage 118 = .ok (.aload_n 0, 1) := by decide +kernel
theorem dX12_isImage_119 : decode cX12_isImage 119 = .ok (.getfield 7, 3) := by decide +kernel
theorem dX12_isImage_122 : decode cX12_isImage 122 = .ok (.iconst 1, 1) := by decide +kernel
theorem dX12_isImage_123 : decode cX12_isImage 123 = .ok (.iaload, 1) := by decide +kernel
theorem dX12_isImage_124 : decode cX12_isImage 124 = .ok (.iastore, 1) := by decide +kernel
theorem dX12_isImage_125 : decode cX12_isImage 125 = .ok (.iconst 0, 1) := by decide +kernel
theorem dX12_isImage_126 : decode cX12_isImage 126 = .ok (.istore_n 2, 1) := by decide +kernel
theorem dX12_isImage_127 : decode cX12_isImage 127 = .ok (.iload_n 2, 1) := by decide +kernel
theorem dX12_isImage_128 : decode cX12_isImage 128 = .ok (.bipush 8, 2) := by decide +kernel
theorem dX12_isImage_130 : decode cX12_isImage 130 = .ok (.if_icmp .ge 22, 3) := by decide +kernel
theorem dX12_isImage_133 : decode cX12_isImage 133 = .ok (.aload_n 0, 1) := by decide +kernel
theorem dX12_isImage_134 : decode cX12_isImage 134 = .ok (.iload_n 2, 1) := by decide +kernel
theorem dX12_isImage_135 : decode cX12_isImage 135 = .ok (.bipush 8, 2) := by decide +kernel
theorem dX12_isImage_137 : decode cX12_isImage 137 = .ok (.isub, 1) := by decide +kernel
theorem dX12_isImage_138 : decode cX12_isImage 138 = .ok (.iconst 2, 1) := by decide +kernel
theorem dX12_isImage_139 : decode cX12_isImage 139 = .ok (.iconst 3, 1) := by decide +kernel
theorem dX12_isImage_140 : decode cX12_isImage 140 = .ok (.iload_n 2, 1) := by decide +kernel
theorem dX12_isImage_141 : decode cX12_isImage 141 = .ok (.imul, 1) := by decide +kernel
theorem dX12_isImage_142 : decode cX12_isImage 142 = .ok (.iadd, 1) := by decide +kernel
theorem dX12_isImage_143 : decode cX12_isImage 143 = .ok (.invokevirtual 682, 3) := by decide +kernel
theorem dX12_isImage_146 : decode cX12_isImage 146 = .ok (.iinc 2 1, 3) := by decide +kernel
theorem dX12_isImage_149 : decode cX12_isImage 149 = .ok (.goto (-22), 3) := by decide +kernel
theorem dX12_isImage_152 : decode cX12_isImage 152 = .ok (.aload_n 0, 1) := by decide +kernel
theorem dX12_isImage_153 : decode cX12_isImage 153 = .ok (.getfield 81, 3) := by decide +kernel
theorem dX12_isImage_156 : decode cX12_isImage 156 = .ok (.iconst 1, 1) := by decide +kernel
theorem dX12_isImage_157 : decode cX12_isImage 157 = .ok (.iaload, 1) := by decide +kernel
theorem dX12_isImage_158 : decode cX12_isImage 158 = .ok (.istore_n 2, 1) := by decide +kernel
theorem dX12_isImage_159 : decode cX12_isImage 159 = .ok (.iload_n 2, 1) := by decide +kernel
theorem dX12_isImage_160 : decode cX12_isImage 160 = .ok (.aload_n 0, 1) := by decide +kernel
theorem dX12_isImage_161 : decode cX12_isImage 161 = .ok (.getfield 325, 3) := by decide +kernel
theorem dX12_isImage_164 : decode cX12_isImage 164 = .ok (.if_icmp .ge 27, 3) := by decide +kernel
theorem dX12_isImage_167 : decode cX12_isImage 167 = .ok (.aload_n 0, 1) := by decide +kernel
theorem dX12_isImage_168 : decode cX12_isImage 168 = .ok (.iload_n 2, 1) := by decide +kernel
theorem dX12_isImage_169 : decode cX12_isImage 169 = .ok (.bipush 26, 2) := by decide +kernel
theorem dX12_isImage_171 : decode cX12_isImage 171 = .ok (.iconst 3, 1) := by decide +kernel
theorem dX12_isImage_172 : decode cX12_isImage 172 = .ok (.iload_n 2, 1) := by decide +kernel
theorem dX12_isImage_173 : decode cX12_isImage 173 = .ok (.aload_n 0, 1) := by decide +kernel
theorem dX12_isImage_174 : decode cX12_isImage 174 = .ok (.getfield 81, 3) := by decide +kernel
theorem dX12_isImage_177 : decode cX12_isImage 177 = .ok (.iconst 1, 1) := by decide +kernel
theorem dX12_isImage_178 : decode cX12_isImage 178 = .ok (.iaload, 1) := by decide +kernel
theorem dX12_isImage_179 : decode cX12_isImage 179 = .ok (.isub, 1) := by decide +kernel
theorem dX12_isImage_180 : decode cX12_isImage 180 = .ok (.imul, 1) := by decide +kernel
theorem dX12_isImage_181 : decode cX12_isImage 181 = .ok (.iadd, 1) := by decide +kernel
theorem dX12_isImage_182 : decode cX12_isImage 182 = .ok (.invokevirtual 682, 3) := by decide +kernel
theorem dX12_isImage_185 : decode cX12_isImage 185 = .ok (.iinc 2 1, 3) := by decide +kernel
theorem dX12_isImage_188 : decode cX12_isImage 188 = .ok (.goto (-29), 3) := by decide +kernel
theorem dX12_isImage_191 : decode cX12_isImage 191 = .ok (.bipush (-8), 2) := by decide +kernel
theorem dX12_isImage_193 : decode cX12_isImage 193 = .ok (.istore_n 2, 1) := by decide +kernel
theorem dX12_isImage_194 : decode cX12_isImage 194 = .ok (.iload_n 2, 1) := by decide +kernel
theorem dX12_isImage_195 : decode cX12_isImage 195 = .ok (.ifCond .ge 20, 3) := by decide +kernel
theorem dX12_isImage_198 : decode cX12_isImage 198 = .ok (.aload_n 0, 1) := by decide +kernel
theorem dX12_isImage_199 : decode cX12_isImage 199 = .ok (.iload_n 2, 1) := by decide +kernel
theorem dX12_isImage_200 : decode cX12_isImage 200 = .ok (.iconst 3, 1) := by decide +kernel
theorem dX12_isImage_201 : decode cX12_isImage 201 = .ok (.invokevirtual 679, 3) := by decide +kernel
theorem dX12_isImage_204 : decode cX12_isImage 204 = .ok (.ifCond .ne 5, 3) := by decide +kernel
theorem dX12_isImage_207 : decode cX12_isImage 207 = .ok (.iconst 0, 1) := by decide +kernel
theorem dX12_isImage_208 : decode cX12_isImage 208 = .ok (.ireturn, 1) := by decide +kernel
theorem dX12_isImage_209 : decode cX12_isImage 209 = .ok (.iinc 2 1, 3) := by decide +kernel
theorem dX12_isImage_212 : decode cX12_isImage 212 = .ok (.goto (-18), 3) := by decide +kernel
theorem dX12_isImage_215 : decode cX12_isImage 215 = .ok (.aload_n 0, 1) := by decide +kernel
theorem dX12_isImage_216 : decode cX12_isImage 216 = .ok (.invokevirtual 685, 3) := by decide +kernel
theorem dX12_isImage_219 : decode cX12_isImage 219 = .ok (.ireturn, 1) := by decide +kernel
theorem dX12_isIn_0 : decode cX12_isIn 0 = .ok (.lload_n 0, 1) := by decide +kernel
theorem dX12_isIn_1 : decode cX12_isIn 1 = .ok (.lload_n 2, 1) := by decide +kernel
theorem dX12_isIn_2 : decode cX12_isIn 2 = .ok (.lcmp, 1) := by decide +kernel
theorem dX12_isIn_3 : decode cX12_isIn 3 = .ok (.ifCond .lt 14, 3) := by decide +kernel
theorem dX12_isIn_6 : decode cX12_isIn 6 = .ok (.lload_n 0, 1) := by decide +kernel
theorem dX12_isIn_7 : decode cX12_isIn 7 = .ok (.lload 4, 2) := by decide +kernel
theorem dX12_isIn_9 : decode cX12_isIn 9 = .ok (.lcmp, 1) := by decide +kernel
theorem dX12_isIn_10 : decode cX12_isIn 10 = .ok (.ifCond .gt 7, 3) := by decide +kernel
theorem dX12_isIn_13 : decode cX12_isIn 13 = .ok (.iconst 1, 1) := by decide +kernel
theorem dX12_isIn_14 : decode cX12_isIn 14 = .ok (.goto 4, 3) := by decide +kernel
theorem dX12_isIn_17 : decode cX12_isIn 17 = .ok (.iconst 0, 1) := by decide +kernel
theorem dX12_isIn_18 : decode cX12_isIn 18 = .ok (.ireturn, 1) := by decide +kernel
theorem dX12_isLetter_0 : decode cX12_isLetter 0 = .ok (.iload_n 0, 1) := by decide +kernel
theorem dX12_isLetter_1 : decode cX12_isLetter 1 = .ok (.bipush 97, 2) := by decide +kernel
theorem dX12_isLetter_3 : decode cX12_isLetter 3 = .ok (.if_icmp .lt 13, 3) := by decide +kernel
theorem dX12_isLetter_6 : decode cX12_isLetter 6 = .ok (.iload_n 0, 1) := by decide +kernel
theorem dX12_isLetter_7 : decode cX12_isLetter 7 = .ok (.bipush 122, 2) := by decide +kernel
theorem dX12_isLetter_9 : decode cX12_isLetter 9 = .ok (.if_icmp .gt 7, 3) := by decide +kernel
theorem dX12_isLetter_12 : decode cX12_isLetter 12 = .ok (.iconst 1, 1) := by decide +kernel
theorem dX12_isLetter_13 : decode cX12_isLetter 13 = .ok (.goto 4, 3) := by decide +kernel
theorem dX12_isLetter_16 : decode cX12_isLetter 16 = .ok (.iconst 0, 1) := by decide +kernel
theorem dX12_isLetter_17 : decode cX12_isLetter 17 = .ok (.ireturn, 1) := by decide +kernel
theorem dX12_isLive_0 : decode cX12_isLive 0 = .ok (.aload_n 0, 1) := by decide +kernel
theorem dX12_isLive_1 : decode cX12_isLive 1 = .ok (.getfield 90, 3) := by decide +kernel
theorem dX12_isLive_4 : decode cX12_isLive 4 = .ok (.iload_n 1, 1) := by decide +kernel
theorem dX12_isLive_5 : decode cX12_isLive 5 = .ok (.iaload, 1) := by decide +kernel
theorem dX12_isLive_6 : decode cX12_isLive 6 = .ok (.iconst (-1), 1) := by decide +kernel
theorem dX12_isLive_7 : decode cX12_isLive 7 = .ok (.if_icmp .eq 21, 3) := by decide +kernel
theorem dX12_isLive_10 : decode cX12_isLive 10 = .ok (.aload_n 0, 1) := by decide +kernel
theorem dX12_isLive_11 : decode cX12_isLive 11 = .ok (.getfield 93, 3) := by decide +kernel
theorem dX12_isLive_14 : decode cX12_isLive 14 = .ok (.aload_n 0, 1) := by decide +kernel
theorem dX12_isLive_15 : decode cX12_isLive 15 = .ok (.getfield 90, 3) := by decide +kernel
theorem dX12_isLive_18 : decode cX12_isLive 18 = .ok (.iload_n 1, 1) := by decide +kernel
theorem dX12_isLive_19 : decode cX12_isLive 19 = .ok (.iaload, 1) := by decide +kernel
theorem dX12_isLive_20 : decode cX12_isLive 20 = .ok (.baload, 1) := by decide +kernel
theorem dX12_isLive_21 : decode cX12_isLive 21 = .ok (.ifCond .eq 7, 3) := by decide +kernel
theorem dX12_isLive_24 : decode cX12_isLive 24 = .ok (.iconst 1, 1) := by decide +kernel
theorem dX12_isLive_25 : decode cX12_isLive 25 = .ok (.goto 4, 3) := by decide +kernel
theorem dX12_isLive_28 : decode cX12_isLive 28 = .ok (.iconst 0, 1) := by decide +kernel
theorem dX12_isLive_29 : decode cX12_isLive 29 = .ok (.ireturn, 1) := by decide +kernel
theorem dX12_isNumberHere_0 : decode cX12_isNumberHere 0 = .ok (.aload_n 0, 1) := by decide +kernel
theorem dX12_isNumberHere_1 : decode cX12_isNumberHere 1 = .ok (.getfield 194, 3) := by decide +kernel
theorem dX12_isNumberHere_4 : decode cX12_isNumberHere 4 = .ok (.ifCond .ne 28, 3) := by decide +kernel
theorem dX12_isNumberHere_7 : decode cX12_isNumberHere 7 = .ok (.aload_n 0, 1) := by decide +kernel
theorem dX12_isNumberHere_8 : decode cX12_isNumberHere 8 = .ok (.invokevirtual 200, 3) := by decide +kernel
theorem dX12_isNumberHere_11 : decode cX12_isNumberHere 11 = .ok (.invokestatic 221, 3) := by decide +kernel
theorem dX12_isNumberHere_14 : decode cX12_isNumberHere 14 = .ok (.ifCond .eq 18, 3) := by decide +kernel
theorem dX12_isNumberHere_17 : decode cX12_isNumberHere 17 = .ok (.aload_n 0, 1) := by decide +kernel
theorem dX12_isNumberHere_18 : decode cX12_isNumberHere 18 = .ok (.getfield 188, 3) := by decide +kernel
theorem dX12_isNumberHere_21 : decode cX12_isNumberHere 21 = .ok (.aload_n 0, 1) := by decide +kernel
theorem dX12_isNumberHere_22 : decode cX12_isNumberHere 22 = .ok (.getfield 191, 3) := by decide +kernel
theorem dX12_isNumberHere_25 : decode cX12_isNumberHere 25 = .ok (.if_icmp .eq 7, 3) := by decide +kernel
theorem dX12_isNumberHere_28 : decode cX12_isNumberHere 28 = .ok (.iconst 1, 1) := by decide +kernel
theorem dX12_isNumberHere_29 : decode cX12_isNumberHere 29 = .ok (.goto 4, 3) := by decide +kernel
theorem dX12_isNumberHere_32 : decode cX12_isNumberHere 32 = .ok (.iconst 0, 1) := by decide +kernel
theorem dX12_isNumberHere_33 : decode cX12_isNumberHere 33 = .ok (.ireturn, 1) := by decide +kernel
theorem dX12_isOwnHere_0 : decode cX12_isOwnHere 0 = .ok (.aload_n 0, 1) := by decide +kernel
theorem dX12_isOwnHere_1 : decode cX12_isOwnHere 1 = .ok (.aload_n 0, 1) := by decide +kernel
theorem dX12_isOwnHere_2 : decode cX12_isOwnHere 2 = .ok (.getfield 20, 3) := by decide +kernel
theorem dX12_isOwnHere_5 : decode cX12_isOwnHere 5 = .ok (.invokevirtual 207, 3) := by decide +kernel
theorem dX12_isOwnHere_8 : decode cX12_isOwnHere 8 = .ok (.ifCond .ne 47, 3) := by decide +kernel
theorem dX12_isOwnHere_11 : decode cX12_isOwnHere 11 = .ok (.aload_n 0, 1) := by decide +kernel
theorem dX12_isOwnHere_12 : decode cX12_isOwnHere 12 = .ok (.aload_n 0, 1) := by decide +kernel
theorem dX12_isOwnHere_13 : decode cX12_isOwnHere 13 = .ok (.getfield 24, 3) := by decide +kernel
theorem dX12_isOwnHere_16 : decode cX12_isOwnHere 16 = .ok (.invokevirtual 207, 3) := by decide +kernel
theorem dX12_isOwnHere_19 : decode cX12_isOwnHere 19 = .ok (.ifCond .ne 36, 3) := by decide +kernel
theorem dX12_isOwnHere_22 : decode cX12_isOwnHere 22 = .ok (.aload_n 0, 1) := by decide +kernel
theorem dX12_isOwnHere_23 : decode cX12_isOwnHere 23 = .ok (.aload_n 0, 1) := by decide +kernel
theorem dX12_isOwnHere_24 : decode cX12_isOwnHere 24 = .ok (.getfield 27, 3) := by decide +kernel
theorem dX12_isOwnHere_27 : decode cX12_isOwnHere 27 = .ok (.invokevirtual 207, 3) := by decide +kernel
theorem dX12_isOwnHere_30 : decode cX12_isOwnHere 30 = .ok (.ifCond .ne 25, 3) := by decide +kernel
theorem dX12_isOwnHere_33 : decode cX12_isOwnHere 33 = .ok (.aload_n 0, 1) := by decide +kernel
theorem dX12_isOwnHere_34 : decode cX12_isOwnHere 34 = .ok (.aload_n 0, 1) := by decide +kernel
theorem dX12_isOwnHere_35 : decode cX12_isOwnHere 35 = .ok (.getfield 30, 3) := by decide +kernel
theorem dX12_isOwnHere_38 : decode cX12_isOwnHere 38 = .ok (.invokevirtual 207, 3) := by decide +kernel
theorem dX12_isOwnHere_41 : decode cX12_isOwnHere 41 = .ok (.ifCond .ne 14, 3) := by decide +kernel
theorem dX12_isOwnHere_44 : decode cX12_isOwnHere 44 = .ok (.aload_n 0, 1) := by decide +kernel
theorem dX12_isOwnHere_45 : decode cX12_isOwnHere 45 = .ok (.aload_n 0, 1) := by decide +kernel
theorem dX12_isOwnHere_46 : decode cX12_isOwnHere 46 = .ok (.getfield 33, 3) := by decide +kernel
theorem dX12_isOwnHere_49 : decode cX12_isOwnHere 49 = .ok (.invokevirtual 207, 3) := by decide +kernel
theorem dX12_isOwnHere_52 : decode cX12_isOwnHere 52 = .ok (.ifCond .eq 7, 3) := by decide +kernel
theorem dX12_isOwnHere_55 : decode cX12_isOwnHere 55 = .ok (.iconst 1, 1) := by decide +kernel
theorem dX12_isOwnHere_56 : decode cX12_isOwnHere 56 = .ok (.goto 4, 3) := by decide +kernel
theorem dX12_isOwnHere_59 : decode cX12_isOwnHere 59 = .ok (.iconst 0, 1) := by decide +kernel
theorem dX12_isOwnHere_60 : decode cX12_isOwnHere 60 = .ok (.istore_n 1, 1) := by decide +kernel
theorem dX12_isOwnHere_61 : decode cX12_isOwnHere 61 = .ok (.iload_n 1, 1) := by decide +kernel
theorem dX12_isOwnHere_62 : decode cX12_isOwnHere 62 = .ok (.ifCond .ne 58, 3) := by decide +kernel
theorem dX12_isOwnHere_65 : decode cX12_isOwnHere 65 = .ok (.aload_n 0, 1) := by decide +kernel
theorem dX12_isOwnHere_66 : decode cX12_isOwnHere 66 = .ok (.aload_n 0, 1) := by decide +kernel
theorem dX12_isOwnHere_67 : decode cX12_isOwnHere 67 = .ok (.getfield 36, 3) := by decide +kernel
theorem dX12_isOwnHere_70 : decode cX12_isOwnHere 70 = .ok (.invokevirtual 207, 3) := by decide +kernel
theorem dX12_isOwnHere_73 : decode cX12_isOwnHere 73 = .ok (.ifCond .ne 47, 3) := by decide +kernel
theorem dX12_isOwnHere_76 : decode cX12_isOwnHere 76 = .ok (.aload_n 0, 1) := by decide +kernel
theorem dX12_isOwnHere_77 : decode cX12_isOwnHere 77 = .ok (.aload_n 0, 1) := by decide +kernel
theorem dX12_isOwnHere_78 : decode cX12_isOwnHere 78 = .ok (.getfield 39, 3) := by decide +kernel
theorem dX12_isOwnHere_81 : decode cX12_isOwnHere 81 = .ok (.invokevirtual 207, 3) := by decide +kernel
theorem dX12_isOwnHere_84 : decode cX12_isOwnHere 84 = .ok (.ifCond .ne 36, 3) := by decide +kernel
theorem dX12_isOwnHere_87 : decode cX12_isOwnHere 87 = .ok (.aload_n 0, 1) := by decide +kernel
theorem dX12_isOwnHere_88 : decode cX12_isOwnHere 88 = .ok (.aload_n 0, 1) := by decide +kernel
theorem dX12_isOwnHere_89 : decode cX12_isOwnHere 89 = .ok (.getfield 42, 3) := by decide +kernel
theorem dX12_isOwnHere_92 : decode cX12_isOwnHere 92 = .ok (.invokevirtual 207, 3) := by decide +kernel
theorem dX12_isOwnHere_95 : decode cX12_isOwnHere 95 = .ok (.ifCond .ne 25, 3) := by decide +kernel
theorem dX12_isOwnHere_98 : decode cX12_isOwnHere 98 = .ok (.aload_n 0, 1) := by decide +kernel
theorem dX12_isOwnHere_99 : decode cX12_isOwnHere 99 = .ok (.aload_n 0, 1) := by decide +kernel
theorem dX12_isOwnHere_100 : decode cX12_isOwnHere 100 = .ok (.getfield 45, 3) := by decide +kernel
theorem dX12_isOwnHere_103 : decode cX12_isOwnHere 103 = .ok (.invokevirtual 207, 3) := by decide +kernel
theorem dX12_isOwnHere_106 : decode cX12_isOwnHere 106 = .ok (.ifCond .ne 14, 3) := by decide +kernel
theorem dX12_isOwnHere_109 : decode cX12_isOwnHere 109 = .ok (.aload_n 0, 1) := by decide +kernel
theorem dX12_isOwnHere_110 : decode cX12_isOwnHere 110 = .ok (.aload_n 0, 1) := by decide +kernel
theorem dX12_isOwnHere_111 : decode cX12_isOwnHere 111 = .ok (.getfield 48, 3) := by decide +kernel
theorem dX12_isOwnHere_114 : decode cX12_isOwnHere 114 = .ok (.invokevirtual 207, 3) := by decide +kernel
theorem dX12_isOwnHere_117 : decode cX12_isOwnHere 117 = .ok (.ifCond .eq 7, 3) := by decide +kernel
theorem dX12_isOwnHere_120 : decode cX12_isOwnHere 120 = .ok (.iconst 1, 1) := by decide +kernel
theorem dX12_isOwnHere_121 : decode cX12_isOwnHere 121 = .ok (.goto 4, 3) := by decide +kernel
theorem dX12_isOwnHere_124 : decode cX12_isOwnHere 124 = .ok (.iconst 0, 1) := by decide +kernel
theorem dX12_isOwnHere_125 : decode cX12_isOwnHere 125 = .ok (.istore_n 1, 1) := by decide +kernel
theorem dX12_isOwnHere_126 : decode cX12_isOwnHere 126 = .ok (.iload_n 1, 1) := by decide +kernel
theorem dX12_isOwnHere_127 : decode cX12_isOwnHere 127 = .ok (.ifCond .ne 47, 3) := by decide +kernel
theorem dX12_isOwnHere_130 : decode cX12_isOwnHere 130 = .ok (.aload_n 0, 1) := by decide +kernel
theorem dX12_isOwnHere_131 : decode cX12_isOwnHere 131 = .ok (.aload_n 0, 1) := by decide +kernel
theorem dX12_isOwnHere_132 : decode cX12_isOwnHere 132 = .ok (.getfield 51, 3) := by decide +kernel
theorem dX12_isOwnHere_135 : decode cX12_isOwnHere 135 = .ok (.invokevirtual 207, 3) := by decide +kernel
theorem dX12_isOwnHere_138 : decode cX12_isOwnHere 138 = .ok (.ifCond .ne 36, 3) := by decide +kernel
theorem dX12_isOwnHere_141 : decode cX12_isOwnHere 141 = .ok (.aload_n 0, 1) := by decide +kernel
theorem dX12_isOwnHere_142 : decode cX12_isOwnHere 142 = .ok (.aload_n 0, 1) := by decide +kernel
theorem dX12_isOwnHere_143 : decode cX12_isOwnHere 143 = .ok (.getfield 54, 3) := by decide +kernel
theorem dX12_isOwnHere_146 : decode cX12_isOwnHere 146 = .ok (.invokevirtual 207, 3) := by decide +kernel
theorem dX12_isOwnHere_149 : decode cX12_isOwnHere 149 = .ok (.ifCond .ne 25, 3) := by decide +kernel
theorem dX12_isOwnHere_152 : decode cX12_isOwnHere 152 = .ok (.aload_n 0, 1) := by decide +kernel
theorem dX12_isOwnHere_153 : decode cX12_isOwnHere 153 = .ok (.aload_n 0, 1) := by decide +kernel
theorem dX12_isOwnHere_154 : decode cX12_isOwnHere 154 = .ok (.getfield 57, 3) := by decide +kernel
theorem dX12_isOwnHere_157 : decode cX12_isOwnHere 157 = .ok (.invokevirtual 207, 3) := by decide +kernel
theorem dX12_isOwnHere_160 : decode cX12_isOwnHere 160 = .ok (.ifCond .ne 14, 3) := by decide +kernel
theorem dX12_isOwnHere_163 : decode cX12_isOwnHere 163 = .ok (.aload_n 0, 1) := by decide +kernel
theorem dX12_isOwnHere_164 : decode cX12_isOwnHere 164 = .ok (.aload_n 0, 1) := by decide +kernel
theorem dX12_isOwnHere_165 : decode cX12_isOwnHere 165 = .ok (.getfield 60, 3) := by decide +kernel
theorem dX12_isOwnHere_168 : decode cX12_isOwnHere 168 = .ok (.invokevirtual 207, 3) := by decide +kernel
theorem dX12_isOwnHere_171 : decode cX12_isOwnHere 171 = .ok (.ifCond .eq 7, 3) := by decide +kernel
theorem dX12_isOwnHere_174 : decode cX12_isOwnHere 174 = .ok (.iconst 1, 1) := by decide +kernel
theorem dX12_isOwnHere_175 : decode cX12_isOwnHere 175 = .ok (.goto 4, 3) := by decide +kernel
theorem dX12_isOwnHere_178 : decode cX12_isOwnHere 178 = .ok (.iconst 0, 1) := by decide +kernel
theorem dX12_isOwnHere_179 : decode cX12_isOwnHere 179 = .ok (.ireturn, 1) := by decide +kernel
theorem dX12_isRefused_0 : decode cX12_isRefused 0 = .ok (.aload_n 0, 1) := by decide +kernel
theorem dX12_isRefused_1 : decode cX12_isRefused 1 = .ok (.getfield 17, 3) := by decide +kernel
theorem dX12_isRefused_4 : decode cX12_isRefused 4 = .ok (.iload_n 1, 1) := by decide +kernel
theorem dX12_isRefused_5 : decode cX12_isRefused 5 = .ok (.dup2, 1) := by decide +kernel
theorem dX12_isRefused_6 : decode cX12_isRefused 6 = .ok (.iaload, 1) := by decide +kernel
theorem dX12_isRefused_7 : decode cX12_isRefused 7 = .ok (.iconst 1, 1) := by decide +kernel
theorem dX12_isRefused_8 : decode cX12_isRefused 8 = .ok (.iadd, 1) := by decide +kernel
theorem dX12_isRefused_9 : decode cX12_isRefused 9 = .ok (.iastore, 1) := by decide +kernel
theorem dX12_isRefused_10 : decode cX12_isRefused 10 = .ok (.iconst 0, 1) := by decide +kernel
theorem dX12_isRefused_11 : decode cX12_isRefused 11 = .ok (.ireturn, 1) := by decide +kernel
theorem dX12_isStill_0 : decode cX12_isStill 0 = .ok (.aload_n 0, 1) := by decide +kernel
theorem dX12_isStill_1 : decode cX12_isStill 1 = .ok (.getfield 321, 3) := by decide +kernel
theorem dX12_isStill_4 : decode cX12_isStill 4 = .ok (.ifCond .eq 16, 3) := by decide +kernel
theorem dX12_isStill_7 : decode cX12_isStill 7 = .ok (.aload_n 0, 1) := by decide +kernel
theorem dX12_isStill_8 : decode cX12_isStill 8 = .ok (.getfield 78, 3) := by decide +kernel
theorem dX12_isStill_11 : decode cX12_isStill 11 = .ok (.iconst 3, 1) := by decide +kernel
theorem dX12_isStill_12 : decode cX12_isStill 12 = .ok (.iaload, 1) := by decide +kernel
theorem dX12_isStill_13 : decode cX12_isStill 13 = .ok (.ifCond .ne 7, 3) := by decide +kernel
theorem dX12_isStill_16 : decode cX12_isStill 16 = .ok (.iconst 1, 1) := by decide +kernel
theorem dX12_isStill_17 : decode cX12_isStill 17 = .ok (.goto 4, 3) := by decide +kernel
theorem dX12_isStill_20 : decode cX12_isStill 20 = .ok (.iconst 0, 1) := by decide +kernel
theorem dX12_isStill_21 : decode cX12_isStill 21 = .ok (.ireturn, 1) := by decide +kernel
theorem dX12_isValue_0 : decode cX12_isValue 0 = .ok (.aload_n 0, 1) := by decide +kernel
theorem dX12_isValue_1 : decode cX12_isValue 1 = .ok (.getfield 81, 3) := by decide +kernel
theorem dX12_isValue_4 : decode cX12_isValue 4 = .ok (.iload_n 1, 1) := by decide +kernel
theorem dX12_isValue_5 : decode cX12_isValue 5 = .ok (.invokestatic 244, 3) := by decide +kernel
theorem dX12_isValue_8 : decode cX12_isValue 8 = .ok (.istore_n 3, 1) := by decide +kernel
theorem dX12_isValue_9 : decode cX12_isValue 9 = .ok (.aload_n 0, 1) := by decide +kernel
theorem dX12_isValue_10 : decode cX12_isValue 10 = .ok (.getfield 81, 3) := by decide +kernel
theorem dX12_isValue_13 : decode cX12_isValue 13 = .ok (.iload_n 1, 1) := by decide +kernel
theorem dX12_isValue_14 : decode cX12_isValue 14 = .ok (.invokestatic 240, 3) := by decide +kernel
theorem dX12_isValue_17 : decode cX12_isValue 17 = .ok (.ifCond .ne 28, 3) := by decide +kernel
theorem dX12_isValue_20 : decode cX12_isValue 20 = .ok (.iload_n 2, 1) := by decide +kernel
theorem dX12_isValue_21 : decode cX12_isValue 21 = .ok (.iconst 1, 1) := by decide +kernel
theorem dX12_isValue_22 : decode cX12_isValue 22 = .ok (.if_icmp .eq 21, 3) := by decide +kernel
theorem dX12_isValue_25 : decode cX12_isValue 25 = .ok (.iload_n 3, 1) := by decide +kernel
theorem dX12_isValue_26 : decode cX12_isValue 26 = .ok (.i2l, 1) := by decide +kernel
theorem dX12_isValue_27 : decode cX12_isValue 27 = .ok (.ldc2_w 508, 3) := by decide +kernel
theorem dX12_isValue_30 : decode cX12_isValue 30 = .ok (.ldc2_w 510, 3) := by decide +kernel
theorem dX12_isValue_33 : decode cX12_isValue 33 = .ok (.invokestatic 178, 3) := by decide +kernel
theorem dX12_isValue_36 : decode cX12_isValue 36 = .ok (.ifCond .eq 7, 3) := by decide +kernel
theorem dX12_isValue_39 : decode cX12_isValue 39 = .ok (.iconst 1, 1) := by decide +kernel
theorem dX12_isValue_40 : decode cX12_isValue 40 = .ok (.goto 4, 3) := by decide +kernel
theorem dX12_isValue_43 : decode cX12_isValue 43 = .ok (.iconst 0, 1) := by decide +kernel
theorem dX12_isValue_44 : decode cX12_isValue 44 = .ok (.ireturn, 1) := by decide +kernel
theorem dX12_isValue_45 : decode cX12_isValue 45 = .ok (.aload_n 0, 1) := by decide +kernel
theorem dX12_isValue_46 : decode cX12_isValue 46 = .ok (.getfield 81, 3) := by decide +kernel
theorem dX12_isValue_49 : decode cX12_isValue 49 = .ok (.iload_n 1, 1) := by decide +kernel
theorem dX12_isValue_50 : decode cX12_isValue 50 = .ok (.invokestatic 240, 3) := by decide +kernel
theorem dX12_isValue_53 : decode cX12_isValue 53 = .ok (.iconst 1, 1) := by decide +kernel
theorem dX12_isValue_54 : decode cX12_isValue 54 = .ok (.if_icmp .ne 38, 3) := by decide +kernel
theorem dX12_isValue_57 : decode cX12_isValue 57 = .ok (.iload_n 2, 1) := by decide +kernel
theorem dX12_isValue_58 : decode cX12_isValue 58 = .ok (.ifCond .eq 34, 3) := by decide +kernel
theorem dX12_isValue_61 : decode cX12_isValue 61 = .ok (.iload_n 3, 1) := by decide +kernel
theorem dX12_isValue_62 : decode cX12_isValue 62 = .ok (.iconst (-1), 1) := by decide +kernel
theorem dX12_isValue_63 : decode cX12_isValue 63 = .ok (.if_icmp .eq 25, 3) := by decide +kernel
theorem dX12_isValue_66 : decode cX12_isValue 66 = .ok (.iload_n 3, 1) := by decide +kernel
theorem dX12_isValue_67 : decode cX12_isValue 67 = .ok (.i2l, 1) := by decide +kernel
theorem dX12_isValue_68 : decode cX12_isValue 68 = .ok (.aload_n 0, 1) := by decide +kernel
theorem dX12_isValue_69 : decode cX12_isValue 69 = .ok (.getfield 81, 3) := by decide +kernel
theorem dX12_isValue_72 : decode cX12_isValue 72 = .ok (.iconst 1, 1) := by decide +kernel
theorem dX12_isValue_73 : decode cX12_isValue 73 = .ok (.iaload, 1) := by decide +kernel
theorem dX12_isValue_74 : decode cX12_isValue 74 = .ok (.i2l, 1) := by decide +kernel
theorem dX12_isValue_75 : decode cX12_isValue 75 = .ok (.aload_n 0, 1) := by decide +kernel
theorem dX12_isValue_76 : decode cX12_isValue 76 = .ok (.getfield 325, 3) := by decide +kernel
theorem dX12_isValue_79 : decode cX12_isValue 79 = .ok (.iconst 1, 1) := by decide +kernel
theorem dX12_isValue_80 : decode cX12_isValue 80 = .ok (.isub, 1) := by decide +kernel
theorem dX12_isValue_81 : decode cX12_isValue 81 = .ok (.i2l, 1) := by decide +kernel
theorem dX12_isValue_82 : decode cX12_isValue 82 = .ok (.invokestatic 178, 3) := by decide +kernel
theorem dX12_isValue_85 : decode cX12_isValue 85 = .ok (.ifCond .eq 7, 3) := by decide +kernel
theorem dX12_isValue_88 : decode cX12_isValue 88 = .ok (.iconst 1, 1) := by decide +kernel
theorem dX12_isValue_89 : decode cX12_isValue 89 = .ok (.goto 4, 3) := by decide +kernel
theorem dX12_isValue_92 : decode cX12_isValue 92 = .ok (.iconst 0, 1) := by decide +kernel
theorem dX12_isValue_93 : decode cX12_isValue 93 = .ok (.ireturn, 1) := by decide +kernel
theorem dX12_itemTold_0 : decode cX12_itemTold 0 = .ok (.iload_n 1, 1) := by decide +kernel
theorem dX12_itemTold_1 : decode cX12_itemTold 1 = .ok (.ifCond .eq 15, 3) := by decide +kernel
theorem dX12_itemTold_4 : decode cX12_itemTold 4 = .ok (.iload_n 1, 1) := by decide +kernel
theorem dX12_itemTold_5 : decode cX12_itemTold 5 = .ok (.iconst 3, 1) := by decide +kernel
theorem dX12_itemTold_6 : decode cX12_itemTold 6 = .ok (.if_icmp .ne 37, 3) := by decide +kernel
theorem dX12_itemTold_9 : decode cX12_itemTold 9 = .ok (.aload_n 0, 1) := by decide +kernel
theorem dX12_itemTold_10 : decode cX12_itemTold 10 = .ok (.invokevirtual 224, 3) := by decide +kernel
theorem dX12_itemTold_13 : decode cX12_itemTold 13 = .ok (.ifCond .eq 30, 3) := by decide +kernel
theorem dX12_itemTold_16 : decode cX12_itemTold 16 = .ok (.aload_n 0, 1) := by decide +kernel
theorem dX12_itemTold_17 : decode cX12_itemTold 17 = .ok (.iconst 0, 1) := by decide +kernel
theorem dX12_itemTold_18 : decode cX12_itemTold 18 = .ok (.sipush 999, 3) := by decide +kernel
theorem dX12_itemTold_21 : decode cX12_itemTold 21 = .ok (.invokevirtual 276, 3) := by decide +kernel
theorem dX12_itemTold_24 : decode cX12_itemTold 24 = .ok (.istore_n 3, 1) := by decide +kernel
theorem dX12_itemTold_25 : decode cX12_itemTold 25 = .ok (.aload_n 0, 1) := by decide +kernel
theorem dX12_itemTold_26 : decode cX12_itemTold 26 = .ok (.getfield 194, 3) := by decide +kernel
theorem dX12_itemTold_29 : decode cX12_itemTold 29 = .ok (.ifCond .ne 13, 3) := by decide +kernel
theorem dX12_itemTold_32 : decode cX12_itemTold 32 = .ok (.aload_n 0, 1) := by decide +kernel
theorem dX12_itemTold_33 : decode cX12_itemTold 33 = .ok (.getfield 81, 3) := by decide +kernel
theorem dX12_itemTold_36 : decode cX12_itemTold 36 = .ok (.iload_n 2, 1) := by decide +kernel
theorem dX12_itemTold_37 : decode cX12_itemTold 37 = .ok (.iconst 0, 1) := by decide +kernel
theorem dX12_itemTold_38 : decode cX12_itemTold 38 = .ok (.iload_n 3, 1) := by decide +kernel
theorem dX12_itemTold_39 : decode cX12_itemTold 39 = .ok (.invokestatic 247, 3) := by decide +kernel
theorem dX12_itemTold_42 : decode cX12_itemTold 42 = .ok (.return_, 1) := by decide +kernel
theorem dX12_itemTold_43 : decode cX12_itemTold 43 = .ok (.aload_n 0, 1) := by decide +kernel
theorem dX12_itemTold_44 : decode cX12_itemTold 44 = .ok (.aload_n 0, 1) := by decide +kernel
theorem dX12_itemTold_45 : decode cX12_itemTold 45 = .ok (.getfield 48, 3) := by decide +kernel
theorem dX12_itemTold_48 : decode cX12_itemTold 48 = .ok (.invokevirtual 211, 3) := by decide +kernel
theorem dX12_itemTold_51 : decode cX12_itemTold 51 = .ok (.ifCond .eq 7, 3) := by decide +kernel
theorem dX12_itemTold_54 : decode cX12_itemTold 54 = .ok (.iconst (-1), 1) := by decide +kernel
theorem dX12_itemTold_55 : decode cX12_itemTold 55 = .ok (.goto 7, 3) := by decide +kernel
theorem dX12_itemTold_58 : decode cX12_itemTold 58 = .ok (.aload_n 0, 1) := by decide +kernel
theorem dX12_itemTold_59 : decode cX12_itemTold 59 = .ok (.invokevirtual 280, 3) := by decide +kernel
theorem dX12_itemTold_62 : decode cX12_itemTold 62 = .ok (.istore_n 3, 1) := by decide +kernel
theorem dX12_itemTold_63 : decode cX12_itemTold 63 = .ok (.aload_n 0, 1) := by decide +kernel
theorem dX12_itemTold_64 : decode cX12_itemTold 64 = .ok (.getfield 194, 3) := by decide +kernel
theorem dX12_itemTold_67 : decode cX12_itemTold 67 = .ok (.ifCond .ne 13, 3) := by decide +kernel
theorem dX12_itemTold_70 : decode cX12_itemTold 70 = .ok (.aload_n 0, 1) := by decide +kernel
theorem dX12_itemTold_71 : decode cX12_itemTold 71 = .ok (.getfield 81, 3) := by decide +kernel
theorem dX12_itemTold_74 : decode cX12_itemTold 74 = .ok (.iload_n 2, 1) := by decide +kernel
theorem dX12_itemTold_75 : decode cX12_itemTold 75 = .ok (.iconst 1, 1) := by decide +kernel
theorem dX12_itemTold_76 : decode cX12_itemTold 76 = .ok (.iload_n 3, 1) := by decide +kernel
theorem dX12_itemTold_77 : decode cX12_itemTold 77 = .ok (.invokestatic 247, 3) := by decide +kernel
theorem dX12_itemTold_80 : decode cX12_itemTold 80 = .ok (.return_, 1) := by decide +kernel
theorem dX12_keeps_0 : decode cX12_keeps 0 = .ok (.aload_n 0, 1) := by decide +kernel
theorem dX12_keeps_1 : decode cX12_keeps 1 = .ok (.invokevirtual 452, 3) := by decide +kernel
theorem dX12_keeps_4 : decode cX12_keeps 4 = .ok (.ifCond .eq 24, 3) := by decide +kernel
theorem dX12_keeps_7 : decode cX12_keeps 7 = .ok (.iload_n 1, 1) := by decide +kernel
theorem dX12_keeps_8 : decode cX12_keeps 8 = .ok (.i2l, 1) := by decide +kernel
theorem dX12_keeps_9 : decode cX12_keeps 9 = .ok (.lconst 0, 1) := by decide +kernel
theorem dX12_keeps_10 : decode cX12_keeps 10 = .ok (.ldc2_w 479, 3) := by decide +kernel
theorem dX12_keeps_13 : decode cX12_keeps 13 = .ok (.invokestatic 178, 3) := by decide +kernel
theorem dX12_keeps_16 : decode cX12_keeps 16 = .ok (.ifCond .eq 12, 3) := by decide +kernel
theorem dX12_keeps_19 : decode cX12_keeps 19 = .ok (.aload_n 0, 1) := by decide +kernel
theorem dX12_keeps_20 : decode cX12_keeps 20 = .ok (.iload_n 1, 1) := by decide +kernel
theorem dX12_keeps_21 : decode cX12_keeps 21 = .ok (.iconst (-1), 1) := by decide +kernel
theorem dX12_keeps_22 : decode cX12_keeps 22 = .ok (.invokevirtual 481, 3) := by decide +kernel
theorem dX12_keeps_25 : decode cX12_keeps 25 = .ok (.goto 4, 3) := by decide +kernel
theorem dX12_keeps_28 : decode cX12_keeps 28 = .ok (.iconst (-1), 1) := by decide +kernel
theorem dX12_keeps_29 : decode cX12_keeps 29 = .ok (.ireturn, 1) := by decide +kernel
theorem dX12_keeps__0 : decode cX12_keeps_ 0 = .ok (.aload_n 0, 1) := by decide +kernel
theorem dX12_keeps__1 : decode cX12_keeps_ 1 = .ok (.aload_n 0, 1) := by decide +kernel
theorem dX12_keeps__2 : decode cX12_keeps_ 2 = .ok (.getfield 538, 3) := by decide +kernel
theorem dX12_keeps__5 : decode cX12_keeps_ 5 = .ok (.iconst 1, 1) := by decide +kernel
theorem dX12_keeps__6 : decode cX12_keeps_ 6 = .ok (.iadd, 1) := by decide +kernel
theorem dX12_keeps__7 : decode cX12_keeps_ 7 = .ok (.bipush 20, 2) := by decide +kernel
theorem dX12_keeps__9 : decode cX12_keeps_ 9 = .ok (.irem, 1) := by decide +kernel
theorem dX12_keeps__10 : decode cX12_keeps_ 10 = .ok (.putfield 538, 3) := by decide +kernel
theorem dX12_keeps__13 : decode cX12_keeps_ 13 = .ok (.iconst 0, 1) := by decide +kernel
theorem dX12_keeps__14 : decode cX12_keeps_ 14 = .ok (.istore_n 1, 1) := by decide +kernel
theorem dX12_keeps__15 : decode cX12_keeps_ 15 = .ok (.iload_n 1, 1) := by decide +kernel
theorem dX12_keeps__16 : decode cX12_keeps_ 16 = .ok (.sipush 422, 3) := by decide +kernel
theorem dX12_keeps__19 : decode cX12_keeps_ 19 = .ok (.if_icmp .ge 30, 3) := by decide +kernel
theorem dX12_keeps__22 : decode cX12_keeps_ 22 = .ok (.aload_n 0, 1) := by decide +kernel
theorem dX12_keeps__23 : decode cX12_keeps_ 23 = .ok (.getfield 140, 3) := by decide +kernel
theorem dX12_keeps__26 : decode cX12_keeps_ 26 = .ok (.sipush 422, 3) := by decide +kernel
theorem dX12_keeps__29 : decode cX12_keeps_ 29 = .ok (.aload_n 0, 1) := by decide +kernel
theorem dX12_keeps__30 : decode cX12_keeps_ 30 = .ok (.getfield 538, 3) := by decide +kernel
theorem dX12_keeps__33 : decode cX12_keeps_ 33 = .ok (.imul, 1) := by decide +kernel
theorem dX12_keeps__34 : decode cX12_keeps_ 34 = .ok (.iload_n 1, 1) := by decide +kernel
theorem dX12_keeps__35 : decode cX12_keeps_ 35 = .ok (.iadd, 1) := by decide +kernel
theorem dX12_keeps__36 : decode cX12_keeps_ 36 = .ok (.aload_n 0, 1) := by decide +kernel
theorem dX12_keeps__37 : decode cX12_keeps_ 37 = .ok (.getfield 78, 3) := by decide +kernel
theorem dX12_keeps__40 : decode cX12_keeps_ 40 = .ok (.iload_n 1, 1) := by decide +kernel
theorem dX12_keeps__41 : decode cX12_keeps_ 41 = .ok (.iaload, 1) := by decide +kernel
theorem dX12_keeps__42 : decode cX12_keeps_ 42 = .ok (.iastore, 1) := by decide +kernel
theorem dX12_keeps__43 : decode cX12_keeps_ 43 = .ok (.iinc 1 1, 3) := by decide +kernel
theorem dX12_keeps__46 : decode cX12_keeps_ 46 = .ok (.goto (-31), 3) := by decide +kernel
theorem dX12_keeps__49 : decode cX12_keeps_ 49 = .ok (.aload_n 0, 1) := by decide +kernel
theorem dX12_keeps__50 : decode cX12_keeps_ 50 = .ok (.getfield 331, 3) := by decide +kernel
theorem dX12_keeps__53 : decode cX12_keeps_ 53 = .ok (.bipush 20, 2) := by decide +kernel
theorem dX12_keeps__55 : decode cX12_keeps_ 55 = .ok (.if_icmp .ge 13, 3) := by decide +kernel
theorem dX12_keeps__58 : decode cX12_keeps_ 58 = .ok (.aload_n 0, 1) := by decide +kernel
theorem dX12_keeps__59 : decode cX12_keeps_ 59 = .ok (.dup, 1) := by decide +kernel
theorem dX12_keeps__60 : decode cX12_keeps_ 60 = .ok (.getfield 331, 3) := by decide +kernel
theorem dX12_keeps__63 : decode cX12_keeps_ 63 = .ok (.iconst 1, 1) := by decide +kernel
theorem dX12_keeps__64 : decode cX12_keeps_ 64 = .ok (.iadd, 1) := by decide +kernel
theorem dX12_keeps__65 : decode cX12_keeps_ 65 = .ok (.putfield 331, 3) := by decide +kernel
theorem dX12_keeps__68 : decode cX12_keeps_ 68 = .ok (.return_, 1) := by decide +kernel
theorem dX12_kept_0 : decode cX12_kept 0 = .ok (.iload_n 1, 1) := by decide +kernel
theorem dX12_kept_1 : decode cX12_kept 1 = .ok (.i2l, 1) := by decide +kernel
theorem dX12_kept_2 : decode cX12_kept 2 = .ok (.lconst 0, 1) := by decide +kernel
theorem dX12_kept_3 : decode cX12_kept 3 = .ok (.aload_n 0, 1) := by decide +kernel
theorem dX12_kept_4 : decode cX12_kept 4 = .ok (.getfield 78, 3) := by decide +kernel
theorem dX12_kept_7 : decode cX12_kept 7 = .ok (.iconst 5, 1) := by decide +kernel
theorem dX12_kept_8 : decode cX12_kept 8 = .ok (.iaload, 1) := by decide +kernel
theorem dX12_kept_9 : decode cX12_kept 9 = .ok (.iconst 1, 1) := by decide +kernel
theorem dX12_kept_10 : decode cX12_kept 10 = .ok (.isub, 1) := by decide +kernel
theorem dX12_kept_11 : decode cX12_kept 11 = .ok (.i2l, 1) := by decide +kernel
theorem dX12_kept_12 : decode cX12_kept 12 = .ok (.invokestatic 178, 3) := by decide +kernel
theorem dX12_kept_15 : decode cX12_kept 15 = .ok (.ifCond .eq 31, 3) := by decide +kernel
theorem dX12_kept_18 : decode cX12_kept 18 = .ok (.iload_n 2, 1) := by decide +kernel
theorem dX12_kept_19 : decode cX12_kept 19 = .ok (.i2l, 1) := by decide +kernel
theorem dX12_kept_20 : decode cX12_kept 20 = .ok (.lconst 0, 1) := by decide +kernel
theorem dX12_kept_21 : decode cX12_kept 21 = .ok (.ldc2_w 450, 3) := by decide +kernel
theorem dX12_kept_24 : decode cX12_kept 24 = .ok (.invokestatic 178, 3) := by decide +kernel
theorem dX12_kept_27 : decode cX12_kept 27 = .ok (.ifCond .eq 19, 3) := by decide +kernel
theorem dX12_kept_30 : decode cX12_kept 30 = .ok (.aload_n 0, 1) := by decide +kernel
theorem dX12_kept_31 : decode cX12_kept 31 = .ok (.getfield 78, 3) := by decide +kernel
theorem dX12_kept_34 : decode cX12_kept 34 = .ok (.bipush 6, 2) := by decide +kernel
theorem dX12_kept_36 : decode cX12_kept 36 = .ok (.iconst 4, 1) := by decide +kernel
theorem dX12_kept_37 : decode cX12_kept 37 = .ok (.iload_n 1, 1) := by decide +kernel
theorem dX12_kept_38 : decode cX12_kept 38 = .ok (.imul, 1) := by decide +kernel
theorem dX12_kept_39 : decode cX12_kept 39 = .ok (.iadd, 1) := by decide +kernel
theorem dX12_kept_40 : decode cX12_kept 40 = .ok (.iload_n 2, 1) := by decide +kernel
theorem dX12_kept_41 : decode cX12_kept 41 = .ok (.iadd, 1) := by decide +kernel
theorem dX12_kept_42 : decode cX12_kept 42 = .ok (.iaload, 1) := by decide +kernel
theorem dX12_kept_43 : decode cX12_kept 43 = .ok (.goto 4, 3) := by decide +kernel
theorem dX12_kept_46 : decode cX12_kept 46 = .ok (.iconst (-1), 1) := by decide +kernel
theorem dX12_kept_47 : decode cX12_kept 47 = .ok (.ireturn, 1) := by decide +kernel
theorem dX12_keptBy_0 : decode cX12_keptBy 0 = .ok (.aload_n 0, 1) := by decide +kernel
theorem dX12_keptBy_1 : decode cX12_keptBy 1 = .ok (.iconst (-1), 1) := by decide +kernel
theorem dX12_keptBy_2 : decode cX12_keptBy 2 = .ok (.iconst (-1), 1) := by decide +kernel
theorem dX12_keptBy_3 : decode cX12_keptBy 3 = .ok (.invokevirtual 384, 3) := by decide +kernel
theorem dX12_keptBy_6 : decode cX12_keptBy 6 = .ok (.aload_n 0, 1) := by decide +kernel
theorem dX12_keptBy_7 : decode cX12_keptBy 7 = .ok (.invokevirtual 476, 3) := by decide +kernel
theorem dX12_keptBy_10 : decode cX12_keptBy 10 = .ok (.istore_n 3, 1) := by decide +kernel
theorem dX12_keptBy_11 : decode cX12_keptBy 11 = .ok (.aload_n 0, 1) := by decide +kernel
theorem dX12_keptBy_12 : decode cX12_keptBy 12 = .ok (.iload_n 1, 1) := by decide +kernel
theorem dX12_keptBy_13 : decode cX12_keptBy 13 = .ok (.iload_n 2, 1) := by decide +kernel
theorem dX12_keptBy_14 : decode cX12_keptBy 14 = .ok (.invokevirtual 384, 3) := by decide +kernel
theorem dX12_keptBy_17 : decode cX12_keptBy 17 = .ok (.iload_n 3, 1) := by decide +kernel
theorem dX12_keptBy_18 : decode cX12_keptBy 18 = .ok (.aload_n 0, 1) := by decide +kernel
theorem dX12_keptBy_19 : decode cX12_keptBy 19 = .ok (.invokevirtual 476, 3) := by decide +kernel
theorem dX12_keptBy_22 : decode cX12_keptBy 22 = .ok (.isub, 1) := by decide +kernel
theorem dX12_keptBy_23 : decode cX12_keptBy 23 = .ok (.ireturn, 1) := by decide +kernel
theorem dX12_kindNew_0 : decode cX12_kindNew 0 = .ok (.aload_n 0, 1) := by decide +kernel
theorem dX12_kindNew_1 : decode cX12_kindNew 1 = .ok (.getfield 251, 3) := by decide +kernel
theorem dX12_kindNew_4 : decode cX12_kindNew 4 = .ok (.bipush 6, 2) := by decide +kernel
theorem dX12_kindNew_6 : decode cX12_kindNew 6 = .ok (.if_icmp .ne 9, 3) := by decide +kernel
theorem dX12_kindNew_9 : decode cX12_kindNew 9 = .ok (.aload_n 0, 1) := by decide +kernel
theorem dX12_kindNew_10 : decode cX12_kindNew 10 = .ok (.iconst 5, 1) := by decide +kernel
theorem dX12_kindNew_11 : decode cX12_kindNew 11 = .ok (.iload_n 1, 1) := by decide +kernel
theorem dX12_kindNew_12 : decode cX12_kindNew 12 = .ok (.invokevirtual 214, 3) := by decide +kernel
theorem dX12_kindNew_15 : decode cX12_kindNew 15 = .ok (.aload_n 0, 1) := by decide +kernel
theorem dX12_kindNew_16 : decode cX12_kindNew 16 = .ok (.invokevirtual 266, 3) := by decide +kernel
theorem dX12_kindNew_19 : decode cX12_kindNew 19 = .ok (.istore_n 2, 1) := by decide +kernel
theorem dX12_kindNew_20 : decode cX12_kindNew 20 = .ok (.iconst 0, 1) := by decide +kernel
theorem dX12_kindNew_21 : decode cX12_kindNew 21 = .ok (.istore_n 3, 1) := by decide +kernel
theorem dX12_kindNew_22 : decode cX12_kindNew 22 = .ok (.aload_n 0, 1) := by decide +kernel
theorem dX12_kindNew_23 : decode cX12_kindNew 23 = .ok (.getfield 194, 3) := by decide +kernel
theorem dX12_kindNew_26 : decode cX12_kindNew 26 = .ok (.ifCond .ne 30, 3) := by decide +kernel
theorem dX12_kindNew_29 : decode cX12_kindNew 29 = .ok (.iload_n 3, 1) := by decide +kernel
theorem dX12_kindNew_30 : decode cX12_kindNew 30 = .ok (.bipush 6, 2) := by decide +kernel
theorem dX12_kindNew_32 : decode cX12_kindNew 32 = .ok (.if_icmp .ne 24, 3) := by decide +kernel
theorem dX12_kindNew_35 : decode cX12_kindNew 35 = .ok (.aload_n 0, 1) := by decide +kernel
theorem dX12_kindNew_36 : decode cX12_kindNew 36 = .ok (.aload_n 0, 1) := by decide +kernel
theorem dX12_kindNew_37 : decode cX12_kindNew 37 = .ok (.invokevirtual 200, 3) := by decide +kernel
theorem dX12_kindNew_40 : decode cX12_kindNew 40 = .ok (.iconst (-1), 1) := by decide +kernel
theorem dX12_kindNew_41 : decode cX12_kindNew 41 = .ok (.if_icmp .ne 7, 3) := by decide +kernel
theorem dX12_kindNew_44 : decode cX12_kindNew 44 = .ok (.iconst 1, 1) := by decide +kernel
theorem dX12_kindNew_45 : decode cX12_kindNew 45 = .ok (.goto 4, 3) := by decide +kernel
theorem dX12_kindNew_48 : decode cX12_kindNew 48 = .ok (.iconst 5, 1) := by decide +kernel
theorem dX12_kindNew_49 : decode cX12_kindNew 49 = .ok (.aload_n 0, 1) := by decide +kernel
theorem dX12_kindNew_50 : decode cX12_kindNew 50 = .ok (.getfield 188, 3) := by decide +kernel
theorem dX12_kindNew_53 : decode cX12_kindNew 53 = .ok (.invokevirtual 214, 3) := by decide +kernel
theorem dX12_kindNew_56 : decode cX12_kindNew 56 = .ok (.aload_n 0, 1) := by decide +kernel
theorem dX12_kindNew_57 : decode cX12_kindNew 57 = .ok (.aload_n 0, 1) := by decide +kernel
theorem dX12_kindNew_58 : decode cX12_kindNew 58 = .ok (.getfield 39, 3) := by decide +kernel
theorem dX12_kindNew_61 : decode cX12_kindNew 61 = .ok (.invokevirtual 211, 3) := by decide +kernel
theorem dX12_kindNew_64 : decode cX12_kindNew 64 = .ok (.ifCond .eq 7, 3) := by decide +kernel
theorem dX12_kindNew_67 : decode cX12_kindNew 67 = .ok (.iconst 0, 1) := by decide +kernel
theorem dX12_kindNew_68 : decode cX12_kindNew 68 = .ok (.goto 19, 3) := by decide +kernel
theorem dX12_kindNew_71 : decode cX12_kindNew 71 = .ok (.aload_n 0, 1) := by decide +kernel
theorem dX12_kindNew_72 : decode cX12_kindNew 72 = .ok (.aload_n 0, 1) := by decide +kernel
theorem dX12_kindNew_73 : decode cX12_kindNew 73 = .ok (.getfield 42, 3) := by decide +kernel
theorem dX12_kindNew_76 : decode cX12_kindNew 76 = .ok (.invokevirtual 211, 3) := by decide +kernel
theorem dX12_kindNew_79 : decode cX12_kindNew 79 = .ok (.ifCond .eq 7, 3) := by decide +kernel
theorem dX12_kindNew_82 : decode cX12_kindNew 82 = .ok (.iconst 1, 1) := by decide +kernel
theorem dX12_kindNew_83 : decode cX12_kindNew 83 = .ok (.goto 4, 3) := by decide +kernel
theorem dX12_kindNew_86 : decode cX12_kindNew 86 = .ok (.iconst 2, 1) := by decide +kernel
theorem dX12_kindNew_87 : decode cX12_kindNew 87 = .ok (.istore 4, 2) := by decide +kernel
theorem dX12_kindNew_89 : decode cX12_kindNew 89 = .ok (.iload 4, 2) := by decide +kernel
theorem dX12_kindNew_91 : decode cX12_kindNew 91 = .ok (.iconst 2, 1) := by decide +kernel
theorem dX12_kindNew_92 : decode cX12_kindNew 92 = .ok (.if_icmp .ne 11, 3) := by decide +kernel
theorem dX12_kindNew_95 : decode cX12_kindNew 95 = .ok (.aload_n 0, 1) := by decide +kernel
theorem dX12_kindNew_96 : decode cX12_kindNew 96 = .ok (.aload_n 0, 1) := by decide +kernel
theorem dX12_kindNew_97 : decode cX12_kindNew 97 = .ok (.getfield 45, 3) := by decide +kernel
theorem dX12_kindNew_100 : decode cX12_kindNew 100 = .ok (.invokevirtual 269, 3) := by decide +kernel
theorem dX12_kindNew_103 : decode cX12_kindNew 103 = .ok (.aload_n 0, 1) := by decide +kernel
theorem dX12_kindNew_104 : decode cX12_kindNew 104 = .ok (.getfield 194, 3) := by decide +kernel
theorem dX12_kindNew_107 : decode cX12_kindNew 107 = .ok (.ifCond .eq 4, 3) := by decide +kernel
theorem dX12_kindNew_110 : decode cX12_kindNew 110 = .ok (.return_, 1) := by decide +kernel
theorem dX12_kindNew_111 : decode cX12_kindNew 111 = .ok (.aload_n 0, 1) := by decide +kernel
theorem dX12_kindNew_112 : decode cX12_kindNew 112 = .ok (.getfield 66, 3) := by decide +kernel
theorem dX12_kindNew_115 : decode cX12_kindNew 115 = .ok (.bipush 6, 2) := by decide +kernel
theorem dX12_kindNew_117 : decode cX12_kindNew 117 = .ok (.aload_n 0, 1) := by decide +kernel
theorem dX12_kindNew_118 : decode cX12_kindNew 118 = .ok (.getfield 251, 3) := by decide +kernel
theorem dX12_kindNew_121 : decode cX12_kindNew 121 = .ok (.imul, 1) := by decide +kernel
theorem dX12_kindNew_122 : decode cX12_kindNew 122 = .ok (.iload_n 3, 1) := by decide +kernel
theorem dX12_kindNew_123 : decode cX12_kindNew 123 = .ok (.iadd, 1) := by decide +kernel
theorem dX12_kindNew_124 : decode cX12_kindNew 124 = .ok (.iload 4, 2) := by decide +kernel
theorem dX12_kindNew_126 : decode cX12_kindNew 126 = .ok (.iastore, 1) := by decide +kernel
theorem dX12_kindNew_127 : decode cX12_kindNew 127 = .ok (.iinc 3 1, 3) := by decide +kernel
theorem dX12_kindNew_130 : decode cX12_kindNew 130 = .ok (.aload_n 0, 1) := by decide +kernel
theorem dX12_kindNew_131 : decode cX12_kindNew 131 = .ok (.bipush 44, 2) := by decide +kernel
theorem dX12_kindNew_133 : decode cX12_kindNew 133 = .ok (.invokevirtual 218, 3) := by decide +kernel
theorem dX12_kindNew_136 : decode cX12_kindNew 136 = .ok (.ifCond .ne (-114), 3) := by decide +kernel
theorem dX12_kindNew_139 : decode cX12_kindNew 139 = .ok (.aload_n 0, 1) := by decide +kernel
theorem dX12_kindNew_140 : decode cX12_kindNew 140 = .ok (.getfield 69, 3) := by decide +kernel
theorem dX12_kindNew_143 : decode cX12_kindNew 143 = .ok (.aload_n 0, 1) := by decide +kernel
theorem dX12_kindNew_144 : decode cX12_kindNew 144 = .ok (.getfield 251, 3) := by decide +kernel
theorem dX12_kindNew_147 : decode cX12_kindNew 147 = .ok (.iload_n 2, 1) := by decide +kernel
theorem dX12_kindNew_148 : decode cX12_kindNew 148 = .ok (.iastore, 1) := by decide +kernel
theorem dX12_kindNew_149 : decode cX12_kindNew 149 = .ok (.aload_n 0, 1) := by decide +kernel
theorem dX12_kindNew_150 : decode cX12_kindNew 150 = .ok (.getfield 63, 3) := by decide +kernel
theorem dX12_kindNew_153 : decode cX12_kindNew 153 = .ok (.aload_n 0, 1) := by decide +kernel
theorem dX12_kindNew_154 : decode cX12_kindNew 154 = .ok (.getfield 251, 3) := by decide +kernel
theorem dX12_kindNew_157 : decode cX12_kindNew 157 = .ok (.iload_n 3, 1) := by decide +kernel
theorem dX12_kindNew_158 : decode cX12_kindNew 158 = .ok (.iastore, 1) := by decide +kernel
theorem dX12_kindNew_159 : decode cX12_kindNew 159 = .ok (.aload_n 0, 1) := by decide +kernel
theorem dX12_kindNew_160 : decode cX12_kindNew 160 = .ok (.dup, 1) := by decide +kernel
theorem dX12_kindNew_161 : decode cX12_kindNew 161 = .ok (.getfield 251, 3) := by decide +kernel
theorem dX12_kindNew_164 : decode cX12_kindNew 164 = .ok (.iconst 1, 1) := by decide +kernel
theorem dX12_kindNew_165 : decode cX12_kindNew 165 = .ok (.iadd, 1) := by decide +kernel
theorem dX12_kindNew_166 : decode cX12_kindNew 166 = .ok (.putfield 251, 3) := by decide +kernel
theorem dX12_kindNew_169 : decode cX12_kindNew 169 = .ok (.return_, 1) := by decide +kernel
theorem dX12_kindOf_0 : decode cX12_kindOf 0 = .ok (.aload_n 0, 1) := by decide +kernel
theorem dX12_kindOf_1 : decode cX12_kindOf 1 = .ok (.getfield 78, 3) := by decide +kernel
theorem dX12_kindOf_4 : decode cX12_kindOf 4 = .ok (.aload_n 0, 1) := by decide +kernel
theorem dX12_kindOf_5 : decode cX12_kindOf 5 = .ok (.getfield 87, 3) := by decide +kernel
theorem dX12_kindOf_8 : decode cX12_kindOf 8 = .ok (.iload_n 1, 1) := by decide +kernel
theorem dX12_kindOf_9 : decode cX12_kindOf 9 = .ok (.iaload, 1) := by decide +kernel
theorem dX12_kindOf_10 : decode cX12_kindOf 10 = .ok (.invokestatic 244, 3) := by decide +kernel
theorem dX12_kindOf_13 : decode cX12_kindOf 13 = .ok (.ireturn, 1) := by decide +kernel
theorem dX12_kindTold_0 : decode cX12_kindTold 0 = .ok (.aload_n 0, 1) := by decide +kernel
theorem dX12_kindTold_1 : decode cX12_kindTold 1 = .ok (.aload_n 0, 1) := by decide +kernel
theorem dX12_kindTold_2 : decode cX12_kindTold 2 = .ok (.invokevirtual 257, 3) := by decide +kernel
theorem dX12_kindTold_5 : decode cX12_kindTold 5 = .ok (.invokevirtual 260, 3) := by decide +kernel
theorem dX12_kindTold_8 : decode cX12_kindTold 8 = .ok (.istore_n 1, 1) := by decide +kernel
theorem dX12_kindTold_9 : decode cX12_kindTold 9 = .ok (.aload_n 0, 1) := by decide +kernel
theorem dX12_kindTold_10 : decode cX12_kindTold 10 = .ok (.getfield 194, 3) := by decide +kernel
theorem dX12_kindTold_13 : decode cX12_kindTold 13 = .ok (.ifCond .ne 17, 3) := by decide +kernel
theorem dX12_kindTold_16 : decode cX12_kindTold 16 = .ok (.iload_n 1, 1) := by decide +kernel
theorem dX12_kindTold_17 : decode cX12_kindTold 17 = .ok (.iconst (-1), 1) := by decide +kernel
theorem dX12_kindTold_18 : decode cX12_kindTold 18 = .ok (.if_icmp .ne 12, 3) := by decide +kernel
theorem dX12_kindTold_21 : decode cX12_kindTold 21 = .ok (.aload_n 0, 1) := by decide +kernel
theorem dX12_kindTold_22 : decode cX12_kindTold 22 = .ok (.iconst 3, 1) := by decide +kernel
theorem dX12_kindTold_23 : decode cX12_kindTold 23 = .ok (.aload_n 0, 1) := by decide +kernel
theorem dX12_kindTold_24 : decode cX12_kindTold 24 = .ok (.getfield 231, 3) := by decide +kernel
theorem dX12_kindTold_27 : decode cX12_kindTold 27 = .ok (.invokevirtual 214, 3) := by decide +kernel
theorem dX12_kindTold_30 : decode cX12_kindTold 30 = .ok (.iload_n 1, 1) := by decide +kernel
theorem dX12_kindTold_31 : decode cX12_kindTold 31 = .ok (.ireturn, 1) := by decide +kernel
theorem dX12_knownCell_0 : decode cX12_knownCell 0 = .ok (.iconst 0, 1) := by decide +kernel
theorem dX12_knownCell_1 : decode cX12_knownCell 1 = .ok (.istore_n 2, 1) := by decide +kernel
theorem dX12_knownCell_2 : decode cX12_knownCell 2 = .ok (.iload_n 2, 1) := by decide +kernel
theorem dX12_knownCell_3 : decode cX12_knownCell 3 = .ok (.aload_n 0, 1) := by decide +kernel
theorem dX12_knownCell_4 : decode cX12_knownCell 4 = .ok (.getfield 254, 3) := by decide +kernel
theorem dX12_knownCell_7 : decode cX12_knownCell 7 = .ok (.if_icmp .ge 26, 3) := by decide +kernel
theorem dX12_knownCell_10 : decode cX12_knownCell 10 = .ok (.aload_n 0, 1) := by decide +kernel
theorem dX12_knownCell_11 : decode cX12_knownCell 11 = .ok (.getfield 72, 3) := by decide +kernel
theorem dX12_knownCell_14 : decode cX12_knownCell 14 = .ok (.iload_n 2, 1) := by decide +kernel
theorem dX12_knownCell_15 : decode cX12_knownCell 15 = .ok (.iaload, 1) := by decide +kernel
theorem dX12_knownCell_16 : decode cX12_knownCell 16 = .ok (.iload_n 1, 1) := by decide +kernel
theorem dX12_knownCell_17 : decode cX12_knownCell 17 = .ok (.if_icmp .ne 10, 3) := by decide +kernel
theorem dX12_knownCell_20 : decode cX12_knownCell 20 = .ok (.aload_n 0, 1) := by decide +kernel
theorem dX12_knownCell_21 : decode cX12_knownCell 21 = .ok (.getfield 75, 3) := by decide +kernel
theorem dX12_knownCell_24 : decode cX12_knownCell 24 = .ok (.iload_n 2, 1) := by decide +kernel
theorem dX12_knownCell_25 : decode cX12_knownCell 25 = .ok (.iaload, 1) := by decide +kernel
theorem dX12_knownCell_26 : decode cX12_knownCell 26 = .ok (.ireturn, 1) := by decide +kernel
theorem dX12_knownCell_27 : decode cX12_knownCell 27 = .ok (.iinc 2 1, 3) := by decide +kernel
theorem dX12_knownCell_30 : decode cX12_knownCell 30 = .ok (.goto (-28), 3) := by decide +kernel
theorem dX12_knownCell_33 : decode cX12_knownCell 33 = .ok (.iconst (-1), 1) := by decide +kernel
theorem dX12_knownCell_34 : decode cX12_knownCell 34 = .ok (.ireturn, 1) := by decide +kernel
theorem dX12_knownKind_0 : decode cX12_knownKind 0 = .ok (.iconst 0, 1) := by decide +kernel
theorem dX12_knownKind_1 : decode cX12_knownKind 1 = .ok (.istore_n 2, 1) := by decide +kernel
theorem dX12_knownKind_2 : decode cX12_knownKind 2 = .ok (.iload_n 2, 1) := by decide +kernel
theorem dX12_knownKind_3 : decode cX12_knownKind 3 = .ok (.aload_n 0, 1) := by decide +kernel
theorem dX12_knownKind_4 : decode cX12_knownKind 4 = .ok (.getfield 251, 3) := by decide +kernel
theorem dX12_knownKind_7 : decode cX12_knownKind 7 = .ok (.if_icmp .ge 21, 3) := by decide +kernel
theorem dX12_knownKind_10 : decode cX12_knownKind 10 = .ok (.aload_n 0, 1) := by decide +kernel
theorem dX12_knownKind_11 : decode cX12_knownKind 11 = .ok (.getfield 69, 3) := by decide +kernel
theorem dX12_knownKind_14 : decode cX12_knownKind 14 = .ok (.iload_n 2, 1) := by decide +kernel
theorem dX12_knownKind_15 : decode cX12_knownKind 15 = .ok (.iaload, 1) := by decide +kernel
theorem dX12_knownKind_16 : decode cX12_knownKind 16 = .ok (.iload_n 1, 1) := by decide +kernel
theorem dX12_knownKind_17 : decode cX12_knownKind 17 = .ok (.if_icmp .ne 5, 3) := by decide +kernel
theorem dX12_knownKind_20 : decode cX12_knownKind 20 = .ok (.iload_n 2, 1) := by decide +kernel
theorem dX12_knownKind_21 : decode cX12_knownKind 21 = .ok (.ireturn, 1) := by decide +kernel
theorem dX12_knownKind_22 : decode cX12_knownKind 22 = .ok (.iinc 2 1, 3) := by decide +kernel
theorem dX12_knownKind_25 : decode cX12_knownKind 25 = .ok (.goto (-23), 3) := by decide +kernel
theorem dX12_knownKind_28 : decode cX12_knownKind 28 = .ok (.iconst (-1), 1) := by decide +kernel
theorem dX12_knownKind_29 : decode cX12_knownKind 29 = .ok (.ireturn, 1) := by decide +kernel
theorem dX12_lastStep_0 : decode cX12_lastStep 0 = .ok (.aload_n 0, 1) := by decide +kernel
theorem dX12_lastStep_1 : decode cX12_lastStep 1 = .ok (.getfield 84, 3) := by decide +kernel
theorem dX12_lastStep_4 : decode cX12_lastStep 4 = .ok (.iconst 1, 1) := by decide +kernel
theorem dX12_lastStep_5 : decode cX12_lastStep 5 = .ok (.aload_n 0, 1) := by decide +kernel
theorem dX12_lastStep_6 : decode cX12_lastStep 6 = .ok (.invokevirtual 405, 3) := by decide +kernel
theorem dX12_lastStep_9 : decode cX12_lastStep 9 = .ok (.iastore, 1) := by decide +kernel
theorem dX12_lastStep_10 : decode cX12_lastStep 10 = .ok (.iconst 0, 1) := by decide +kernel
theorem dX12_lastStep_11 : decode cX12_lastStep 11 = .ok (.istore_n 1, 1) := by decide +kernel
theorem dX12_lastStep_12 : decode cX12_lastStep 12 = .ok (.iload_n 1, 1) := by decide +kernel
theorem dX12_lastStep_13 : decode cX12_lastStep 13 = .ok (.aload_n 0, 1) := by decide +kernel
theorem dX12_lastStep_14 : decode cX12_lastStep 14 = .ok (.invokevirtual 405, 3) := by decide +kernel
theorem dX12_lastStep_17 : decode cX12_lastStep 17 = .ok (.if_icmp .ge 19, 3) := by decide +kernel
theorem dX12_lastStep_20 : decode cX12_lastStep 20 = .ok (.aload_n 0, 1) := by decide +kernel
theorem dX12_lastStep_21 : decode cX12_lastStep 21 = .ok (.getfield 84, 3) := by decide +kernel
theorem dX12_lastStep_24 : decode cX12_lastStep 24 = .ok (.iload_n 1, 1) := by decide +kernel
theorem dX12_lastStep_25 : decode cX12_lastStep 25 = .ok (.iconst 0, 1) := by decide +kernel
theorem dX12_lastStep_26 : decode cX12_lastStep 26 = .ok (.iconst 0, 1) := by decide +kernel
theorem dX12_lastStep_27 : decode cX12_lastStep 27 = .ok (.invokestatic 247, 3) := by decide +kernel
theorem dX12_lastStep_30 : decode cX12_lastStep 30 = .ok (.iinc 1 1, 3) := by decide +kernel
theorem dX12_lastStep_33 : decode cX12_lastStep 33 = .ok (.goto (-21), 3) := by decide +kernel
theorem dX12_lastStep_36 : decode cX12_lastStep 36 = .ok (.return_, 1) := by decide +kernel
theorem dX12_laysCells_0 : decode cX12_laysCells 0 = .ok (.aload_n 0, 1) := by decide +kernel
theorem dX12_laysCells_1 : decode cX12_laysCells 1 = .ok (.iconst 0, 1) := by decide +kernel
theorem dX12_laysCells_2 : decode cX12_laysCells 2 = .ok (.putfield 343, 3) := by decide +kernel
theorem dX12_laysCells_5 : decode cX12_laysCells 5 = .ok (.iconst 0, 1) := by decide +kernel
theorem dX12_laysCells_6 : decode cX12_laysCells 6 = .ok (.istore_n 1, 1) := by decide +kernel
theorem dX12_laysCells_7 : decode cX12_laysCells 7 = .ok (.iload_n 1, 1) := by decide +kernel
theorem dX12_laysCells_8 : decode cX12_laysCells 8 = .ok (.aload_n 0, 1) := by decide +kernel
theorem dX12_laysCells_9 : decode cX12_laysCells 9 = .ok (.getfield 325, 3) := by decide +kernel
theorem dX12_laysCells_12 : decode cX12_laysCells 12 = .ok (.if_icmp .ge 16, 3) := by decide +kernel
theorem dX12_laysCells_15 : decode cX12_laysCells 15 = .ok (.aload_n 0, 1) := by decide +kernel
theorem dX12_laysCells_16 : decode cX12_laysCells 16 = .ok (.getfield 90, 3) := by decide +kernel
theorem dX12_laysCells_19 : decode cX12_laysCells 19 = .ok (.iload_n 1, 1) := by decide +kernel
theorem dX12_laysCells_20 : decode cX12_laysCells 20 = .ok (.iconst (-1), 1) := by decide +kernel
theorem dX12_laysCells_21 : decode cX12_laysCells 21 = .ok (.iastore, 1) := by decide +kernel
theorem dX12_laysCells_22 : decode cX12_laysCells 22 = .ok (.iinc 1 1, 3) := by decide +kernel
theorem dX12_laysCells_25 : decode cX12_laysCells 25 = .ok (.goto (-18), 3) := by decide +kernel
theorem dX12_laysCells_28 : decode cX12_laysCells 28 = .ok (.aload_n 0, 1) := by decide +kernel
theorem dX12_laysCells_29 : decode cX12_laysCells 29 = .ok (.getfield 78, 3) := by decide +kernel
theorem dX12_laysCells_32 : decode cX12_laysCells 32 = .ok (.iconst 1, 1) := by decide +kernel
theorem dX12_laysCells_33 : decode cX12_laysCells 33 = .ok (.iaload, 1) := by decide +kernel
theorem dX12_laysCells_34 : decode cX12_laysCells 34 = .ok (.istore_n 1, 1) := by decide +kernel
theorem dX12_laysCells_35 : decode cX12_laysCells 35 = .ok (.iload_n 1, 1) := by decide +kernel
theorem dX12_laysCells_36 : decode cX12_laysCells 36 = .ok (.aload_n 0, 1) := by decide +kernel
theorem dX12_laysCells_37 : decode cX12_laysCells 37 = .ok (.getfield 325, 3) := by decide +kernel
theorem dX12_laysCells_40 : decode cX12_laysCells 40 = .ok (.if_icmp .ge 68, 3) := by decide +kernel
theorem dX12_laysCells_43 : decode cX12_laysCells 43 = .ok (.aload_n 0, 1) := by decide +kernel
theorem dX12_laysCells_44 : decode cX12_laysCells 44 = .ok (.getfield 87, 3) := by decide +kernel
theorem dX12_laysCells_47 : decode cX12_laysCells 47 = .ok (.aload_n 0, 1) := by decide +kernel
theorem dX12_laysCells_48 : decode cX12_laysCells 48 = .ok (.getfield 343, 3) := by decide +kernel
theorem dX12_laysCells_51 : decode cX12_laysCells 51 = .ok (.iload_n 1, 1) := by decide +kernel
theorem dX12_laysCells_52 : decode cX12_laysCells 52 = .ok (.iastore, 1) := by decide +kernel
theorem dX12_laysCells_53 : decode cX12_laysCells 53 = .ok (.aload_n 0, 1) := by decide +kernel
theorem dX12_laysCells_54 : decode cX12_laysCells 54 = .ok (.aload_n 0, 1) := by decide +kernel
