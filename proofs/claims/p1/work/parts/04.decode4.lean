theorem dX12_feed_68 : decode cX12_feed 68 = .ok (.iload 4, 2) := by decide +kernel
theorem dX12_feed_70 : decode cX12_feed 70 = .ok (.goto 5, 3) := by decide +kernel
theorem dX12_feed_73 : decode cX12_feed 73 = .ok (.iload 5, 2) := by decide +kernel
theorem dX12_feed_75 : decode cX12_feed 75 = .ok (.istore 7, 2) := by decide +kernel
theorem dX12_feed_77 : decode cX12_feed 77 = .ok (.aload_n 0, 1) := by decide +kernel
theorem dX12_feed_78 : decode cX12_feed 78 = .ok (.getfield 7, 3) := by decide +kernel
theorem dX12_feed_81 : decode cX12_feed 81 = .ok (.aload_n 0, 1) := by decide +kernel
theorem dX12_feed_82 : decode cX12_feed 82 = .ok (.getfield 165, 3) := by decide +kernel
theorem dX12_feed_85 : decode cX12_feed 85 = .ok (.iload 7, 2) := by decide +kernel
theorem dX12_feed_87 : decode cX12_feed 87 = .ok (.bipush 8, 2) := by decide +kernel
theorem dX12_feed_89 : decode cX12_feed 89 = .ok (.iconst 3, 1) := by decide +kernel
theorem dX12_feed_90 : decode cX12_feed 90 = .ok (.iload 6, 2) := by decide +kernel
theorem dX12_feed_92 : decode cX12_feed 92 = .ok (.iconst 4, 1) := by decide +kernel
theorem dX12_feed_93 : decode cX12_feed 93 = .ok (.irem, 1) := by decide +kernel
theorem dX12_feed_94 : decode cX12_feed 94 = .ok (.isub, 1) := by decide +kernel
theorem dX12_feed_95 : decode cX12_feed 95 = .ok (.imul, 1) := by decide +kernel
theorem dX12_feed_96 : decode cX12_feed 96 = .ok (.ishr, 1) := by decide +kernel
theorem dX12_feed_97 : decode cX12_feed 97 = .ok (.sipush 255, 3) := by decide +kernel
theorem dX12_feed_100 : decode cX12_feed 100 = .ok (.iand, 1) := by decide +kernel
theorem dX12_feed_101 : decode cX12_feed 101 = .ok (.iastore, 1) := by decide +kernel
theorem dX12_feed_102 : decode cX12_feed 102 = .ok (.aload_n 0, 1) := by decide +kernel
theorem dX12_feed_103 : decode cX12_feed 103 = .ok (.dup, 1) := by decide +kernel
theorem dX12_feed_104 : decode cX12_feed 104 = .ok (.getfield 165, 3) := by decide +kernel
theorem dX12_feed_107 : decode cX12_feed 107 = .ok (.iconst 1, 1) := by decide +kernel
theorem dX12_feed_108 : decode cX12_feed 108 = .ok (.iadd, 1) := by decide +kernel
theorem dX12_feed_109 : decode cX12_feed 109 = .ok (.putfield 165, 3) := by decide +kernel
theorem dX12_feed_112 : decode cX12_feed 112 = .ok (.iinc 6 1, 3) := by decide +kernel
theorem dX12_feed_115 : decode cX12_feed 115 = .ok (.goto (-93), 3) := by decide +kernel
theorem dX12_feed_118 : decode cX12_feed 118 = .ok (.aload_n 0, 1) := by decide +kernel
theorem dX12_feed_119 : decode cX12_feed 119 = .ok (.getfield 165, 3) := by decide +kernel
theorem dX12_feed_122 : decode cX12_feed 122 = .ok (.ireturn, 1) := by decide +kernel
theorem dX12_found_0 : decode cX12_found 0 = .ok (.aload_n 0, 1) := by decide +kernel
theorem dX12_found_1 : decode cX12_found 1 = .ok (.invokevirtual 452, 3) := by decide +kernel
theorem dX12_found_4 : decode cX12_found 4 = .ok (.ifCond .ne 5, 3) := by decide +kernel
theorem dX12_found_7 : decode cX12_found 7 = .ok (.iconst (-1), 1) := by decide +kernel
theorem dX12_found_8 : decode cX12_found 8 = .ok (.ireturn, 1) := by decide +kernel
theorem dX12_goes_0 : decode cX12_goes 0 = .ok (.aload_n 0, 1) := by decide +kernel
theorem dX12_goes_1 : decode cX12_goes 1 = .ok (.iload_n 1, 1) := by decide +kernel
theorem dX12_goes_2 : decode cX12_goes 2 = .ok (.invokevirtual 455, 3) := by decide +kernel
theorem dX12_goes_5 : decode cX12_goes 5 = .ok (.ifCond .eq 12, 3) := by decide +kernel
theorem dX12_goes_17 : decode cX12_goes 17 = .ok (.iconst (-1), 1) := by decide +kernel
theorem dX12_goes_18 : decode cX12_goes 18 = .ok (.ireturn, 1) := by decide +kernel
theorem dX12_has_0 : decode cX12_has 0 = .ok (.iload_n 1, 1) := by decide +kernel
theorem dX12_has_1 : decode cX12_has 1 = .ok (.tableswitch 125 0 9 #[55, 60, 67, 76, 81, 88, 95, 102, 107, 112], 55) := by decide +kernel
theorem dX12_has_56 : decode cX12_has 56 = .ok (.aload_n 0, 1) := by decide +kernel
theorem dX12_has_57 : decode cX12_has 57 = .ok (.getfield 325, 3) := by decide +kernel
theorem dX12_has_60 : decode cX12_has 60 = .ok (.ireturn, 1) := by decide +kernel
theorem dX12_has_61 : decode cX12_has 61 = .ok (.aload_n 0, 1) := by decide +kernel
theorem dX12_has_62 : decode cX12_has 62 = .ok (.getfield 78, 3) := by decide +kernel
theorem dX12_has_65 : decode cX12_has 65 = .ok (.iconst 1, 1) := by decide +kernel
theorem dX12_has_66 : decode cX12_has 66 = .ok (.iaload, 1) := by decide +kernel
theorem dX12_has_67 : decode cX12_has 67 = .ok (.ireturn, 1) := by decide +kernel
theorem dX12_has_68 : decode cX12_has 68 = .ok (.aload_n 0, 1) := by decide +kernel
theorem dX12_has_69 : decode cX12_has 69 = .ok (.invokevirtual 381, 3) := by decide +kernel
theorem dX12_has_72 : decode cX12_has 72 = .ok (.aload_n 0, 1) := by decide +kernel
theorem dX12_has_73 : decode cX12_has 73 = .ok (.getfield 343, 3) := by decide +kernel
theorem dX12_has_76 : decode cX12_has 76 = .ok (.ireturn, 1) := by decide +kernel
theorem dX12_has_77 : decode cX12_has 77 = .ok (.aload_n 0, 1) := by decide +kernel
theorem dX12_has_78 : decode cX12_has 78 = .ok (.getfield 328, 3) := by decide +kernel
theorem dX12_has_81 : decode cX12_has 81 = .ok (.ireturn, 1) := by decide +kernel
theorem dX12_has_82 : decode cX12_has 82 = .ok (.aload_n 0, 1) := by decide +kernel
theorem dX12_has_83 : decode cX12_has 83 = .ok (.getfield 78, 3) := by decide +kernel
theorem dX12_has_86 : decode cX12_has 86 = .ok (.iconst 0, 1) := by decide +kernel
theorem dX12_has_87 : decode cX12_has 87 = .ok (.iaload, 1) := by decide +kernel
theorem dX12_has_88 : decode cX12_has 88 = .ok (.ireturn, 1) := by decide +kernel
theorem dX12_has_89 : decode cX12_has 89 = .ok (.aload_n 0, 1) := by decide +kernel
theorem dX12_has_90 : decode cX12_has 90 = .ok (.getfield 78, 3) := by decide +kernel
theorem dX12_has_93 : decode cX12_has 93 = .ok (.iconst 2, 1) := by decide +kernel
theorem dX12_has_94 : decode cX12_has 94 = .ok (.iaload, 1) := by decide +kernel
theorem dX12_has_95 : decode cX12_has 95 = .ok (.ireturn, 1) := by decide +kernel
theorem dX12_has_96 : decode cX12_has 96 = .ok (.aload_n 0, 1) := by decide +kernel
theorem dX12_has_97 : decode cX12_has 97 = .ok (.getfield 78, 3) := by decide +kernel
theorem dX12_has_100 : decode cX12_has 100 = .ok (.iconst 5, 1) := by decide +kernel
theorem dX12_has_101 : decode cX12_has 101 = .ok (.iaload, 1) := by decide +kernel
theorem dX12_has_102 : decode cX12_has 102 = .ok (.ireturn, 1) := by decide +kernel
theorem dX12_has_103 : decode cX12_has 103 = .ok (.aload_n 0, 1) := by decide +kernel
theorem dX12_has_104 : decode cX12_has 104 = .ok (.getfield 334, 3) := by decide +kernel
theorem dX12_has_107 : decode cX12_has 107 = .ok (.ireturn, 1) := by decide +kernel
theorem dX12_has_108 : decode cX12_has 108 = .ok (.aload_n 0, 1) := by decide +kernel
theorem dX12_has_109 : decode cX12_has 109 = .ok (.getfield 331, 3) := by decide +kernel
theorem dX12_has_112 : decode cX12_has 112 = .ok (.ireturn, 1) := by decide +kernel
theorem dX12_has_113 : decode cX12_has 113 = .ok (.aload_n 0, 1) := by decide +kernel
theorem dX12_has_114 : decode cX12_has 114 = .ok (.getfield 337, 3) := by decide +kernel
theorem dX12_has_117 : decode cX12_has 117 = .ok (.ifCond .eq 7, 3) := by decide +kernel
theorem dX12_has_124 : decode cX12_has 124 = .ok (.iconst 0, 1) := by decide +kernel
theorem dX12_has_125 : decode cX12_has 125 = .ok (.ireturn, 1) := by decide +kernel
theorem dX12_has_126 : decode cX12_has 126 = .ok (.iconst (-1), 1) := by decide +kernel
theorem dX12_has_127 : decode cX12_has 127 = .ok (.ireturn, 1) := by decide +kernel
theorem dX12_heap_0 : decode cX12_heap 0 = .ok (.aload_n 0, 1) := by decide +kernel
theorem dX12_heap_1 : decode cX12_heap 1 = .ok (.invokevirtual 309, 3) := by decide +kernel
theorem dX12_heap_4 : decode cX12_heap 4 = .ok (.aload_n 0, 1) := by decide +kernel
theorem dX12_heap_5 : decode cX12_heap 5 = .ok (.iconst 0, 1) := by decide +kernel
theorem dX12_heap_6 : decode cX12_heap 6 = .ok (.putfield 251, 3) := by decide +kernel
theorem dX12_heap_9 : decode cX12_heap 9 = .ok (.aload_n 0, 1) := by decide +kernel
theorem dX12_heap_10 : decode cX12_heap 10 = .ok (.iconst 0, 1) := by decide +kernel
theorem dX12_heap_11 : decode cX12_heap 11 = .ok (.putfield 254, 3) := by decide +kernel
theorem dX12_heap_14 : decode cX12_heap 14 = .ok (.iconst 0, 1) := by decide +kernel
theorem dX12_heap_15 : decode cX12_heap 15 = .ok (.istore_n 1, 1) := by decide +kernel
theorem dX12_heap_16 : decode cX12_heap 16 = .ok (.iload_n 1, 1) := by decide +kernel
theorem dX12_heap_17 : decode cX12_heap 17 = .ok (.sipush 422, 3) := by decide +kernel
theorem dX12_heap_20 : decode cX12_heap 20 = .ok (.if_icmp .ge 16, 3) := by decide +kernel
theorem dX12_heap_23 : decode cX12_heap 23 = .ok (.aload_n 0, 1) := by decide +kernel
theorem dX12_heap_24 : decode cX12_heap 24 = .ok (.getfield 81, 3) := by decide +kernel
theorem dX12_heap_27 : decode cX12_heap 27 = .ok (.iload_n 1, 1) := by decide +kernel
theorem dX12_heap_28 : decode cX12_heap 28 = .ok (.iconst 0, 1) := by decide +kernel
theorem dX12_heap_29 : decode cX12_heap 29 = .ok (.iastore, 1) := by decide +kernel
theorem dX12_heap_30 : decode cX12_heap 30 = .ok (.iinc 1 1, 3) := by decide +kernel
theorem dX12_heap_33 : decode cX12_heap 33 = .ok (.goto (-17), 3) := by decide +kernel
theorem dX12_heap_36 : decode cX12_heap 36 = .ok (.bipush (-8), 2) := by decide +kernel
theorem dX12_heap_38 : decode cX12_heap 38 = .ok (.istore_n 1, 1) := by decide +kernel
theorem dX12_heap_39 : decode cX12_heap 39 = .ok (.iload_n 1, 1) := by decide +kernel
theorem dX12_heap_40 : decode cX12_heap 40 = .ok (.ifCond .ge 19, 3) := by decide +kernel
theorem dX12_heap_43 : decode cX12_heap 43 = .ok (.aload_n 0, 1) := by decide +kernel
theorem dX12_heap_44 : decode cX12_heap 44 = .ok (.getfield 81, 3) := by decide +kernel
theorem dX12_heap_47 : decode cX12_heap 47 = .ok (.iload_n 1, 1) := by decide +kernel
theorem dX12_heap_48 : decode cX12_heap 48 = .ok (.iconst 1, 1) := by decide +kernel
theorem dX12_heap_49 : decode cX12_heap 49 = .ok (.iconst (-1), 1) := by decide +kernel
theorem dX12_heap_50 : decode cX12_heap 50 = .ok (.invokestatic 247, 3) := by decide +kernel
theorem dX12_heap_53 : decode cX12_heap 53 = .ok (.iinc 1 1, 3) := by decide +kernel
theorem dX12_heap_56 : decode cX12_heap 56 = .ok (.goto (-17), 3) := by decide +kernel
theorem dX12_heap_59 : decode cX12_heap 59 = .ok (.aload_n 0, 1) := by decide +kernel
theorem dX12_heap_60 : decode cX12_heap 60 = .ok (.aload_n 0, 1) := by decide +kernel
theorem dX12_heap_61 : decode cX12_heap 61 = .ok (.getfield 20, 3) := by decide +kernel
theorem dX12_heap_64 : decode cX12_heap 64 = .ok (.invokevirtual 269, 3) := by decide +kernel
theorem dX12_heap_67 : decode cX12_heap 67 = .ok (.aload_n 0, 1) := by decide +kernel
theorem dX12_heap_68 : decode cX12_heap 68 = .ok (.aload_n 0, 1) := by decide +kernel
theorem dX12_heap_69 : decode cX12_heap 69 = .ok (.bipush 16, 2) := by decide +kernel
theorem dX12_heap_71 : decode cX12_heap 71 = .ok (.sipush 160, 3) := by decide +kernel
theorem dX12_heap_74 : decode cX12_heap 74 = .ok (.invokevirtual 276, 3) := by decide +kernel
theorem dX12_heap_77 : decode cX12_heap 77 = .ok (.putfield 312, 3) := by decide +kernel
theorem dX12_heap_80 : decode cX12_heap 80 = .ok (.aload_n 0, 1) := by decide +kernel
theorem dX12_heap_81 : decode cX12_heap 81 = .ok (.bipush 59, 2) := by decide +kernel
theorem dX12_heap_83 : decode cX12_heap 83 = .ok (.invokevirtual 290, 3) := by decide +kernel
theorem dX12_heap_86 : decode cX12_heap 86 = .ok (.aload_n 0, 1) := by decide +kernel
theorem dX12_heap_87 : decode cX12_heap 87 = .ok (.getfield 81, 3) := by decide +kernel
theorem dX12_heap_90 : decode cX12_heap 90 = .ok (.iconst 1, 1) := by decide +kernel
theorem dX12_heap_91 : decode cX12_heap 91 = .ok (.aload_n 0, 1) := by decide +kernel
theorem dX12_heap_92 : decode cX12_heap 92 = .ok (.getfield 312, 3) := by decide +kernel
theorem dX12_heap_95 : decode cX12_heap 95 = .ok (.iastore, 1) := by decide +kernel
theorem dX12_heap_96 : decode cX12_heap 96 = .ok (.aload_n 0, 1) := by decide +kernel
theorem dX12_heap_97 : decode cX12_heap 97 = .ok (.iconst 1, 1) := by decide +kernel
theorem dX12_heap_98 : decode cX12_heap 98 = .ok (.putfield 297, 3) := by decide +kernel
theorem dX12_heap_101 : decode cX12_heap 101 = .ok (.aload_n 0, 1) := by decide +kernel
theorem dX12_heap_102 : decode cX12_heap 102 = .ok (.getfield 194, 3) := by decide +kernel
theorem dX12_heap_105 : decode cX12_heap 105 = .ok (.ifCond .ne 18, 3) := by decide +kernel
theorem dX12_heap_123 : decode cX12_heap 123 = .ok (.aload_n 0, 1) := by decide +kernel
theorem dX12_heap_124 : decode cX12_heap 124 = .ok (.aload_n 0, 1) := by decide +kernel
theorem dX12_heap_125 : decode cX12_heap 125 = .ok (.getfield 194, 3) := by decide +kernel
theorem dX12_heap_128 : decode cX12_heap 128 = .ok (.putfield 182, 3) := by decide +kernel
theorem dX12_heap_131 : decode cX12_heap 131 = .ok (.aload_n 0, 1) := by decide +kernel
theorem dX12_heap_132 : decode cX12_heap 132 = .ok (.aload_n 0, 1) := by decide +kernel
theorem dX12_heap_133 : decode cX12_heap 133 = .ok (.getfield 197, 3) := by decide +kernel
theorem dX12_heap_136 : decode cX12_heap 136 = .ok (.putfield 13, 3) := by decide +kernel
theorem dX12_heap_139 : decode cX12_heap 139 = .ok (.aload_n 0, 1) := by decide +kernel
theorem dX12_heap_140 : decode cX12_heap 140 = .ok (.getfield 194, 3) := by decide +kernel
theorem dX12_heap_143 : decode cX12_heap 143 = .ok (.ifCond .eq 9, 3) := by decide +kernel
theorem dX12_heap_146 : decode cX12_heap 146 = .ok (.aload_n 0, 1) := by decide +kernel
theorem dX12_heap_147 : decode cX12_heap 147 = .ok (.iconst 1, 1) := by decide +kernel
theorem dX12_heap_148 : decode cX12_heap 148 = .ok (.invokevirtual 168, 3) := by decide +kernel
theorem dX12_heap_151 : decode cX12_heap 151 = .ok (.ireturn, 1) := by decide +kernel
theorem dX12_holds_0 : decode cX12_holds 0 = .ok (.aload_n 0, 1) := by decide +kernel
theorem dX12_holds_1 : decode cX12_holds 1 = .ok (.iload_n 1, 1) := by decide +kernel
theorem dX12_holds_2 : decode cX12_holds 2 = .ok (.invokestatic 237, 3) := by decide +kernel
theorem dX12_holds_5 : decode cX12_holds 5 = .ok (.iload_n 2, 1) := by decide +kernel
theorem dX12_holds_6 : decode cX12_holds 6 = .ok (.iastore, 1) := by decide +kernel
theorem dX12_holds_7 : decode cX12_holds 7 = .ok (.aload_n 0, 1) := by decide +kernel
theorem dX12_holds_8 : decode cX12_holds 8 = .ok (.iload_n 1, 1) := by decide +kernel
theorem dX12_holds_9 : decode cX12_holds 9 = .ok (.invokestatic 237, 3) := by decide +kernel
theorem dX12_holds_12 : decode cX12_holds 12 = .ok (.iconst 1, 1) := by decide +kernel
theorem dX12_holds_13 : decode cX12_holds 13 = .ok (.iadd, 1) := by decide +kernel
theorem dX12_holds_14 : decode cX12_holds 14 = .ok (.iload_n 3, 1) := by decide +kernel
theorem dX12_holds_15 : decode cX12_holds 15 = .ok (.iastore, 1) := by decide +kernel
theorem dX12_holds_16 : decode cX12_holds 16 = .ok (.return_, 1) := by decide +kernel
theorem dX12_image_0 : decode cX12_image 0 = .ok (.aload_n 0, 1) := by decide +kernel
theorem dX12_image_1 : decode cX12_image 1 = .ok (.invokevirtual 541, 3) := by decide +kernel
theorem dX12_image_4 : decode cX12_image 4 = .ok (.ifCond .ne 5, 3) := by decide +kernel
theorem dX12_image_7 : decode cX12_image 7 = .ok (.iconst (-1), 1) := by decide +kernel
theorem dX12_image_8 : decode cX12_image 8 = .ok (.ireturn, 1) := by decide +kernel
theorem dX12_init_0 : decode cX12_init 0 = .ok (.aload_n 0, 1) := by decide +kernel
theorem dX12_init_1 : decode cX12_init 1 = .ok (.invokespecial 1, 3) := by decide +kernel
theorem dX12_init_4 : decode cX12_init 4 = .ok (.aload_n 0, 1) := by decide +kernel
theorem dX12_init_5 : decode cX12_init 5 = .ok (.sipush 1600, 3) := by decide +kernel
theorem dX12_init_8 : decode cX12_init 8 = .ok (.newarray .int, 2) := by decide +kernel
theorem dX12_init_10 : decode cX12_init 10 = .ok (.putfield 7, 3) := by decide +kernel
theorem dX12_init_13 : decode cX12_init 13 = .ok (.aload_n 0, 1) := by decide +kernel
theorem dX12_init_14 : decode cX12_init 14 = .ok (.iconst (-1), 1) := by decide +kernel
theorem dX12_init_15 : decode cX12_init 15 = .ok (.putfield 13, 3) := by decide +kernel
theorem dX12_init_18 : decode cX12_init 18 = .ok (.aload_n 0, 1) := by decide +kernel
theorem dX12_init_19 : decode cX12_init 19 = .ok (.bipush 7, 2) := by decide +kernel
theorem dX12_init_21 : decode cX12_init 21 = .ok (.newarray .int, 2) := by decide +kernel
theorem dX12_init_23 : decode cX12_init 23 = .ok (.putfield 17, 3) := by decide +kernel
theorem dX12_init_26 : decode cX12_init 26 = .ok (.aload_n 0, 1) := by decide +kernel
theorem dX12_init_27 : decode cX12_init 27 = .ok (.iconst 4, 1) := by decide +kernel
theorem dX12_init_28 : decode cX12_init 28 = .ok (.newarray .char, 2) := by decide +kernel
theorem dX12_init_30 : decode cX12_init 30 = .ok (.dup, 1) := by decide +kernel
theorem dX12_init_31 : decode cX12_init 31 = .ok (.iconst 0, 1) := by decide +kernel
theorem dX12_init_32 : decode cX12_init 32 = .ok (.bipush 104, 2) := by decide +kernel
theorem dX12_init_34 : decode cX12_init 34 = .ok (.castore, 1) := by decide +kernel
theorem dX12_init_35 : decode cX12_init 35 = .ok (.dup, 1) := by decide +kernel
theorem dX12_init_36 : decode cX12_init 36 = .ok (.iconst 1, 1) := by decide +kernel
theorem dX12_init_37 : decode cX12_init 37 = .ok (.bipush 101, 2) := by decide +kernel
theorem dX12_init_39 : decode cX12_init 39 = .ok (.castore, 1) := by decide +kernel
theorem dX12_init_40 : decode cX12_init 40 = .ok (.dup, 1) := by decide +kernel
theorem dX12_init_41 : decode cX12_init 41 = .ok (.iconst 2, 1) := by decide +kernel
theorem dX12_init_42 : decode cX12_init 42 = .ok (.bipush 97, 2) := by decide +kernel
theorem dX12_init_44 : decode cX12_init 44 = .ok (.castore, 1) := by decide +kernel
theorem dX12_init_45 : decode cX12_init 45 = .ok (.dup, 1) := by decide +kernel
theorem dX12_init_46 : decode cX12_init 46 = .ok (.iconst 3, 1) := by decide +kernel
theorem dX12_init_47 : decode cX12_init 47 = .ok (.bipush 112, 2) := by decide +kernel
theorem dX12_init_49 : decode cX12_init 49 = .ok (.castore, 1) := by decide +kernel
theorem dX12_init_50 : decode cX12_init 50 = .ok (.putfield 20, 3) := by decide +kernel
theorem dX12_init_53 : decode cX12_init 53 = .ok (.aload_n 0, 1) := by decide +kernel
theorem dX12_init_54 : decode cX12_init 54 = .ok (.iconst 4, 1) := by decide +kernel
theorem dX12_init_55 : decode cX12_init 55 = .ok (.newarray .char, 2) := by decide +kernel
theorem dX12_init_57 : decode cX12_init 57 = .ok (.dup, 1) := by decide +kernel
theorem dX12_init_58 : decode cX12_init 58 = .ok (.iconst 0, 1) := by decide +kernel
theorem dX12_init_59 : decode cX12_init 59 = .ok (.bipush 107, 2) := by decide +kernel
theorem dX12_init_61 : decode cX12_init 61 = .ok (.castore, 1) := by decide +kernel
theorem dX12_init_62 : decode cX12_init 62 = .ok (.dup, 1) := by decide +kernel
theorem dX12_init_63 : decode cX12_init 63 = .ok (.iconst 1, 1) := by decide +kernel
theorem dX12_init_64 : decode cX12_init 64 = .ok (.bipush 105, 2) := by decide +kernel
theorem dX12_init_66 : decode cX12_init 66 = .ok (.castore, 1) := by decide +kernel
theorem dX12_init_67 : decode cX12_init 67 = .ok (.dup, 1) := by decide +kernel
theorem dX12_init_68 : decode cX12_init 68 = .ok (.iconst 2, 1) := by decide +kernel
theorem dX12_init_69 : decode cX12_init 69 = .ok (.bipush 110, 2) := by decide +kernel
theorem dX12_init_71 : decode cX12_init 71 = .ok (.castore, 1) := by decide +kernel
theorem dX12_init_72 : decode cX12_init 72 = .ok (.dup, 1) := by decide +kernel
theorem dX12_init_73 : decode cX12_init 73 = .ok (.iconst 3, 1) := by decide +kernel
theorem dX12_init_74 : decode cX12_init 74 = .ok (.bipush 100, 2) := by decide +kernel
theorem dX12_init_76 : decode cX12_init 76 = .ok (.castore, 1) := by decide +kernel
theorem dX12_init_77 : decode cX12_init 77 = .ok (.putfield 24, 3) := by decide +kernel
theorem dX12_init_80 : decode cX12_init 80 = .ok (.aload_n 0, 1) := by decide +kernel
theorem dX12_init_81 : decode cX12_init 81 = .ok (.iconst 4, 1) := by decide +kernel
theorem dX12_init_82 : decode cX12_init 82 = .ok (.newarray .char, 2) := by decide +kernel
theorem dX12_init_84 : decode cX12_init 84 = .ok (.dup, 1) := by decide +kernel
theorem dX12_init_85 : decode cX12_init 85 = .ok (.iconst 0, 1) := by decide +kernel
theorem dX12_init_86 : decode cX12_init 86 = .ok (.bipush 99, 2) := by decide +kernel
theorem dX12_init_88 : decode cX12_init 88 = .ok (.castore, 1) := by decide +kernel
theorem dX12_init_89 : decode cX12_init 89 = .ok (.dup, 1) := by decide +kernel
theorem dX12_init_90 : decode cX12_init 90 = .ok (.iconst 1, 1) := by decide +kernel
theorem dX12_init_91 : decode cX12_init 91 = .ok (.bipush 101, 2) := by decide +kernel
theorem dX12_init_93 : decode cX12_init 93 = .ok (.castore, 1) := by decide +kernel
theorem dX12_init_94 : decode cX12_init 94 = .ok (.dup, 1) := by decide +kernel
theorem dX12_init_95 : decode cX12_init 95 = .ok (.iconst 2, 1) := by decide +kernel
theorem dX12_init_96 : decode cX12_init 96 = .ok (.bipush 108, 2) := by decide +kernel
theorem dX12_init_98 : decode cX12_init 98 = .ok (.castore, 1) := by decide +kernel
theorem dX12_init_99 : decode cX12_init 99 = .ok (.dup, 1) := by decide +kernel
theorem dX12_init_100 : decode cX12_init 100 = .ok (.iconst 3, 1) := by decide +kernel
theorem dX12_init_101 : decode cX12_init 101 = .ok (.bipush 108, 2) := by decide +kernel
theorem dX12_init_103 : decode cX12_init 103 = .ok (.castore, 1) := by decide +kernel
theorem dX12_init_104 : decode cX12_init 104 = .ok (.putfield 27, 3) := by decide +kernel
theorem dX12_init_107 : decode cX12_init 107 = .ok (.aload_n 0, 1) := by decide +kernel
theorem dX12_init_108 : decode cX12_init 108 = .ok (.iconst 3, 1) := by decide +kernel
theorem dX12_init_109 : decode cX12_init 109 = .ok (.newarray .char, 2) := by decide +kernel
theorem dX12_init_111 : decode cX12_init 111 = .ok (.dup, 1) := by decide +kernel
theorem dX12_init_112 : decode cX12_init 112 = .ok (.iconst 0, 1) := by decide +kernel
theorem dX12_init_113 : decode cX12_init 113 = .ok (.bipush 115, 2) := by decide +kernel
theorem dX12_init_115 : decode cX12_init 115 = .ok (.castore, 1) := by decide +kernel
theorem dX12_init_116 : decode cX12_init 116 = .ok (.dup, 1) := by decide +kernel
theorem dX12_init_117 : decode cX12_init 117 = .ok (.iconst 1, 1) := by decide +kernel
theorem dX12_init_118 : decode cX12_init 118 = .ok (.bipush 101, 2) := by decide +kernel
theorem dX12_init_120 : decode cX12_init 120 = .ok (.castore, 1) := by decide +kernel
theorem dX12_init_121 : decode cX12_init 121 = .ok (.dup, 1) := by decide +kernel
theorem dX12_init_122 : decode cX12_init 122 = .ok (.iconst 2, 1) := by decide +kernel
theorem dX12_init_123 : decode cX12_init 123 = .ok (.bipush 116, 2) := by decide +kernel
theorem dX12_init_125 : decode cX12_init 125 = .ok (.castore, 1) := by decide +kernel
theorem dX12_init_126 : decode cX12_init 126 = .ok (.putfield 30, 3) := by decide +kernel
theorem dX12_init_129 : decode cX12_init 129 = .ok (.aload_n 0, 1) := by decide +kernel
theorem dX12_init_130 : decode cX12_init 130 = .ok (.iconst 4, 1) := by decide +kernel
theorem dX12_init_131 : decode cX12_init 131 = .ok (.newarray .char, 2) := by decide +kernel
theorem dX12_init_133 : decode cX12_init 133 = .ok (.dup, 1) := by decide +kernel
theorem dX12_init_134 : decode cX12_init 134 = .ok (.iconst 0, 1) := by decide +kernel
theorem dX12_init_135 : decode cX12_init 135 = .ok (.bipush 114, 2) := by decide +kernel
theorem dX12_init_137 : decode cX12_init 137 = .ok (.castore, 1) := by decide +kernel
theorem dX12_init_138 : decode cX12_init 138 = .ok (.dup, 1) := by decide +kernel
theorem dX12_init_139 : decode cX12_init 139 = .ok (.iconst 1, 1) := by decide +kernel
theorem dX12_init_140 : decode cX12_init 140 = .ok (.bipush 111, 2) := by decide +kernel
theorem dX12_init_142 : decode cX12_init 142 = .ok (.castore, 1) := by decide +kernel
theorem dX12_init_143 : decode cX12_init 143 = .ok (.dup, 1) := by decide +kernel
theorem dX12_init_144 : decode cX12_init 144 = .ok (.iconst 2, 1) := by decide +kernel
theorem dX12_init_145 : decode cX12_init 145 = .ok (.bipush 111, 2) := by decide +kernel
theorem dX12_init_147 : decode cX12_init 147 = .ok (.castore, 1) := by decide +kernel
theorem dX12_init_148 : decode cX12_init 148 = .ok (.dup, 1) := by decide +kernel
theorem dX12_init_149 : decode cX12_init 149 = .ok (.iconst 3, 1) := by decide +kernel
theorem dX12_init_150 : decode cX12_init 150 = .ok (.bipush 116, 2) := by decide +kernel
theorem dX12_init_152 : decode cX12_init 152 = .ok (.castore, 1) := by decide +kernel
theorem dX12_init_153 : decode cX12_init 153 = .ok (.putfield 33, 3) := by decide +kernel
theorem dX12_init_156 : decode cX12_init 156 = .ok (.aload_n 0, 1) := by decide +kernel
theorem dX12_init_157 : decode cX12_init 157 = .ok (.bipush 6, 2) := by decide +kernel
theorem dX12_init_159 : decode cX12_init 159 = .ok (.newarray .char, 2) := by decide +kernel
theorem dX12_init_161 : decode cX12_init 161 = .ok (.dup, 1) := by decide +kernel
theorem dX12_init_162 : decode cX12_init 162 = .ok (.iconst 0, 1) := by decide +kernel
theorem dX12_init_163 : decode cX12_init 163 = .ok (.bipush 109, 2) := by decide +kernel
theorem dX12_init_165 : decode cX12_init 165 = .ok (.castore, 1) := by decide +kernel
theorem dX12_init_166 : decode cX12_init 166 = .ok (.dup, 1) := by decide +kernel
theorem dX12_init_167 : decode cX12_init 167 = .ok (.iconst 1, 1) := by decide +kernel
theorem dX12_init_168 : decode cX12_init 168 = .ok (.bipush 101, 2) := by decide +kernel
theorem dX12_init_170 : decode cX12_init 170 = .ok (.castore, 1) := by decide +kernel
theorem dX12_init_171 : decode cX12_init 171 = .ok (.dup, 1) := by decide +kernel
theorem dX12_init_172 : decode cX12_init 172 = .ok (.iconst 2, 1) := by decide +kernel
theorem dX12_init_173 : decode cX12_init 173 = .ok (.bipush 116, 2) := by decide +kernel
theorem dX12_init_175 : decode cX12_init 175 = .ok (.castore, 1) := by decide +kernel
theorem dX12_init_176 : decode cX12_init 176 = .ok (.dup, 1) := by decide +kernel
theorem dX12_init_177 : decode cX12_init 177 = .ok (.iconst 3, 1) := by decide +kernel
theorem dX12_init_178 : decode cX12_init 178 = .ok (.bipush 104, 2) := by decide +kernel
theorem dX12_init_180 : decode cX12_init 180 = .ok (.castore, 1) := by decide +kernel
theorem dX12_init_181 : decode cX12_init 181 = .ok (.dup, 1) := by decide +kernel
theorem dX12_init_182 : decode cX12_init 182 = .ok (.iconst 4, 1) := by decide +kernel
theorem dX12_init_183 : decode cX12_init 183 = .ok (.bipush 111, 2) := by decide +kernel
theorem dX12_init_185 : decode cX12_init 185 = .ok (.castore, 1) := by decide +kernel
theorem dX12_init_186 : decode cX12_init 186 = .ok (.dup, 1) := by decide +kernel
theorem dX12_init_187 : decode cX12_init 187 = .ok (.iconst 5, 1) := by decide +kernel
theorem dX12_init_188 : decode cX12_init 188 = .ok (.bipush 100, 2) := by decide +kernel
theorem dX12_init_190 : decode cX12_init 190 = .ok (.castore, 1) := by decide +kernel
theorem dX12_init_191 : decode cX12_init 191 = .ok (.putfield 36, 3) := by decide +kernel
theorem dX12_init_194 : decode cX12_init 194 = .ok (.aload_n 0, 1) := by decide +kernel
theorem dX12_init_195 : decode cX12_init 195 = .ok (.iconst 3, 1) := by decide +kernel
theorem dX12_init_196 : decode cX12_init 196 = .ok (.newarray .char, 2) := by decide +kernel
theorem dX12_init_198 : decode cX12_init 198 = .ok (.dup, 1) := by decide +kernel
theorem dX12_init_199 : decode cX12_init 199 = .ok (.iconst 0, 1) := by decide +kernel
theorem dX12_init_200 : decode cX12_init 200 = .ok (.bipush 110, 2) := by decide +kernel
theorem dX12_init_202 : decode cX12_init 202 = .ok (.castore, 1) := by decide +kernel
theorem dX12_init_203 : decode cX12_init 203 = .ok (.dup, 1) := by decide +kernel
theorem dX12_init_204 : decode cX12_init 204 = .ok (.iconst 1, 1) := by decide +kernel
theorem dX12_init_205 : decode cX12_init 205 = .ok (.bipush 117, 2) := by decide +kernel
theorem dX12_init_207 : decode cX12_init 207 = .ok (.castore, 1) := by decide +kernel
theorem dX12_init_208 : decode cX12_init 208 = .ok (.dup, 1) := by decide +kernel
theorem dX12_init_209 : decode cX12_init 209 = .ok (.iconst 2, 1) := by decide +kernel
theorem dX12_init_210 : decode cX12_init 210 = .ok (.bipush 109, 2) := by decide +kernel
theorem dX12_init_212 : decode cX12_init 212 = .ok (.castore, 1) := by decide +kernel
theorem dX12_init_213 : decode cX12_init 213 = .ok (.putfield 39, 3) := by decide +kernel
theorem dX12_init_216 : decode cX12_init 216 = .ok (.aload_n 0, 1) := by decide +kernel
theorem dX12_init_217 : decode cX12_init 217 = .ok (.iconst 3, 1) := by decide +kernel
theorem dX12_init_218 : decode cX12_init 218 = .ok (.newarray .char, 2) := by decide +kernel
theorem dX12_init_220 : decode cX12_init 220 = .ok (.dup, 1) := by decide +kernel
theorem dX12_init_221 : decode cX12_init 221 = .ok (.iconst 0, 1) := by decide +kernel
theorem dX12_init_222 : decode cX12_init 222 = .ok (.bipush 114, 2) := by decide +kernel
theorem dX12_init_224 : decode cX12_init 224 = .ok (.castore, 1) := by decide +kernel
theorem dX12_init_225 : decode cX12_init 225 = .ok (.dup, 1) := by decide +kernel
theorem dX12_init_226 : decode cX12_init 226 = .ok (.iconst 1, 1) := by decide +kernel
theorem dX12_init_227 : decode cX12_init 227 = .ok (.bipush 101, 2) := by decide +kernel
theorem dX12_init_229 : decode cX12_init 229 = .ok (.castore, 1) := by decide +kernel
theorem dX12_init_230 : decode cX12_init 230 = .ok (.dup, 1) := by decide +kernel
theorem dX12_init_231 : decode cX12_init 231 = .ok (.iconst 2, 1) := by decide +kernel
theorem dX12_init_232 : decode cX12_init 232 = .ok (.bipush 102, 2) := by decide +kernel
theorem dX12_init_234 : decode cX12_init 234 = .ok (.castore, 1) := by decide +kernel
theorem dX12_init_235 : decode cX12_init 235 = .ok (.putfield 42, 3) := by decide +kernel
theorem dX12_init_238 : decode cX12_init 238 = .ok (.aload_n 0, 1) := by decide +kernel
theorem dX12_init_239 : decode cX12_init 239 = .ok (.iconst 4, 1) := by decide +kernel
theorem dX12_init_240 : decode cX12_init 240 = .ok (.newarray .char, 2) := by decide +kernel
theorem dX12_init_242 : decode cX12_init 242 = .ok (.dup, 1) := by decide +kernel
theorem dX12_init_243 : decode cX12_init 243 = .ok (.iconst 0, 1) := by decide +kernel
theorem dX12_init_244 : decode cX12_init 244 = .ok (.bipush 119, 2) := by decide +kernel
theorem dX12_init_246 : decode cX12_init 246 = .ok (.castore, 1) := by decide +kernel
theorem dX12_init_247 : decode cX12_init 247 = .ok (.dup, 1) := by decide +kernel
theorem dX12_init_248 : decode cX12_init 248 = .ok (.iconst 1, 1) := by decide +kernel
theorem dX12_init_249 : decode cX12_init 249 = .ok (.bipush 101, 2) := by decide +kernel
theorem dX12_init_251 : decode cX12_init 251 = .ok (.castore, 1) := by decide +kernel
theorem dX12_init_252 : decode cX12_init 252 = .ok (.dup, 1) := by decide +kernel
theorem dX12_init_253 : decode cX12_init 253 = .ok (.iconst 2, 1) := by decide +kernel
theorem dX12_init_254 : decode cX12_init 254 = .ok (.bipush 97, 2) := by decide +kernel
theorem dX12_init_256 : decode cX12_init 256 = .ok (.castore, 1) := by decide +kernel
theorem dX12_init_257 : decode cX12_init 257 = .ok (.dup, 1) := by decide +kernel
theorem dX12_init_258 : decode cX12_init 258 = .ok (.iconst 3, 1) := by decide +kernel
theorem dX12_init_259 : decode cX12_init 259 = .ok (.bipush 107, 2) := by decide +kernel
theorem dX12_init_261 : decode cX12_init 261 = .ok (.castore, 1) := by decide +kernel
theorem dX12_init_262 : decode cX12_init 262 = .ok (.putfield 45, 3) := by decide +kernel
theorem dX12_init_265 : decode cX12_init 265 = .ok (.aload_n 0, 1) := by decide +kernel
theorem dX12_init_266 : decode cX12_init 266 = .ok (.iconst 3, 1) := by decide +kernel
theorem dX12_init_267 : decode cX12_init 267 = .ok (.newarray .char, 2) := by decide +kernel
theorem dX12_init_269 : decode cX12_init 269 = .ok (.dup, 1) := by decide +kernel
theorem dX12_init_270 : decode cX12_init 270 = .ok (.iconst 0, 1) := by decide +kernel
theorem dX12_init_271 : decode cX12_init 271 = .ok (.bipush 110, 2) := by decide +kernel
theorem dX12_init_273 : decode cX12_init 273 = .ok (.castore, 1) := by decide +kernel
theorem dX12_init_274 : decode cX12_init 274 = .ok (.dup, 1) := by decide +kernel
theorem dX12_init_275 : decode cX12_init 275 = .ok (.iconst 1, 1) := by decide +kernel
theorem dX12_init_276 : decode cX12_init 276 = .ok (.bipush 105, 2) := by decide +kernel
theorem dX12_init_278 : decode cX12_init 278 = .ok (.castore, 1) := by decide +kernel
theorem dX12_init_279 : decode cX12_init 279 = .ok (.dup, 1) := by decide +kernel
theorem dX12_init_280 : decode cX12_init 280 = .ok (.iconst 2, 1) := by decide +kernel
theorem dX12_init_281 : decode cX12_init 281 = .ok (.bipush 108, 2) := by decide +kernel
theorem dX12_init_283 : decode cX12_init 283 = .ok (.castore, 1) := by decide +kernel
theorem dX12_init_284 : decode cX12_init 284 = .ok (.putfield 48, 3) := by decide +kernel
theorem dX12_init_287 : decode cX12_init 287 = .ok (.aload_n 0, 1) := by decide +kernel
theorem dX12_init_288 : decode cX12_init 288 = .ok (.iconst 3, 1) := by decide +kernel
theorem dX12_init_289 : decode cX12_init 289 = .ok (.newarray .char, 2) := by decide +kernel
theorem dX12_init_291 : decode cX12_init 291 = .ok (.dup, 1) := by decide +kernel
theorem dX12_init_292 : decode cX12_init 292 = .ok (.iconst 0, 1) := by decide +kernel
theorem dX12_init_293 : decode cX12_init 293 = .ok (.bipush 110, 2) := by decide +kernel
theorem dX12_init_295 : decode cX12_init 295 = .ok (.castore, 1) := by decide +kernel
theorem dX12_init_296 : decode cX12_init 296 = .ok (.dup, 1) := by decide +kernel
theorem dX12_init_297 : decode cX12_init 297 = .ok (.iconst 1, 1) := by decide +kernel
theorem dX12_init_298 : decode cX12_init 298 = .ok (.bipush 101, 2) := by decide +kernel
theorem dX12_init_300 : decode cX12_init 300 = .ok (.castore, 1) := by decide +kernel
theorem dX12_init_301 : decode cX12_init 301 = .ok (.dup, 1) := by decide +kernel
theorem dX12_init_302 : decode cX12_init 302 = .ok (.iconst 2, 1) := by decide +kernel
theorem dX12_init_303 : decode cX12_init 303 = .ok (.bipush 119, 2) := by decide +kernel
theorem dX12_init_305 : decode cX12_init 305 = .ok (.castore, 1) := by decide +kernel
theorem dX12_init_306 : decode cX12_init 306 = .ok (.putfield 51, 3) := by decide +kernel
theorem dX12_init_309 : decode cX12_init 309 = .ok (.aload_n 0, 1) := by decide +kernel
