theorem dX11_alike_4 : decode cX11_alike 4 = .ok (.ifCond .eq 11, 3) := by decide +kernel
theorem dX11_alike_15 : decode cX11_alike 15 = .ok (.iconst (-1), 1) := by decide +kernel
theorem dX11_alike_16 : decode cX11_alike 16 = .ok (.ireturn, 1) := by decide +kernel
theorem dX11_begin_0 : decode cX11_begin 0 = .ok (.aload_n 0, 1) := by decide +kernel
theorem dX11_begin_1 : decode cX11_begin 1 = .ok (.invokevirtual 224, 3) := by decide +kernel
theorem dX11_begin_4 : decode cX11_begin 4 = .ok (.ifCond .ne 9, 3) := by decide +kernel
theorem dX11_begin_7 : decode cX11_begin 7 = .ok (.aload_n 0, 1) := by decide +kernel
theorem dX11_begin_8 : decode cX11_begin 8 = .ok (.iconst 3, 1) := by decide +kernel
theorem dX11_begin_9 : decode cX11_begin 9 = .ok (.invokevirtual 133, 3) := by decide +kernel
theorem dX11_begin_12 : decode cX11_begin 12 = .ok (.ireturn, 1) := by decide +kernel
theorem dX11_best_0 : decode cX11_best 0 = .ok (.aload_n 0, 1) := by decide +kernel
theorem dX11_best_1 : decode cX11_best 1 = .ok (.invokevirtual 224, 3) := by decide +kernel
theorem dX11_best_4 : decode cX11_best 4 = .ok (.ifCond .eq 12, 3) := by decide +kernel
theorem dX11_best_16 : decode cX11_best 16 = .ok (.iconst (-1), 1) := by decide +kernel
theorem dX11_best_17 : decode cX11_best 17 = .ok (.ireturn, 1) := by decide +kernel
theorem dX11_block_0 : decode cX11_block 0 = .ok (.aload_n 0, 1) := by decide +kernel
theorem dX11_block_1 : decode cX11_block 1 = .ok (.invokevirtual 224, 3) := by decide +kernel
theorem dX11_block_4 : decode cX11_block 4 = .ok (.ifCond .ne 5, 3) := by decide +kernel
theorem dX11_block_7 : decode cX11_block 7 = .ok (.iconst (-1), 1) := by decide +kernel
theorem dX11_block_8 : decode cX11_block 8 = .ok (.ireturn, 1) := by decide +kernel
theorem dX11_cell_0 : decode cX11_cell 0 = .ok (.aload_n 0, 1) := by decide +kernel
theorem dX11_cell_1 : decode cX11_cell 1 = .ok (.invokevirtual 224, 3) := by decide +kernel
theorem dX11_cell_4 : decode cX11_cell 4 = .ok (.ifCond .eq 18, 3) := by decide +kernel
theorem dX11_cell_22 : decode cX11_cell 22 = .ok (.iconst (-1), 1) := by decide +kernel
theorem dX11_cell_23 : decode cX11_cell 23 = .ok (.istore_n 3, 1) := by decide +kernel
theorem dX11_cell_24 : decode cX11_cell 24 = .ok (.iload_n 3, 1) := by decide +kernel
theorem dX11_cell_25 : decode cX11_cell 25 = .ok (.iconst (-1), 1) := by decide +kernel
theorem dX11_cell_26 : decode cX11_cell 26 = .ok (.if_icmp .ne 5, 3) := by decide +kernel
theorem dX11_cell_29 : decode cX11_cell 29 = .ok (.iconst (-1), 1) := by decide +kernel
theorem dX11_cell_30 : decode cX11_cell 30 = .ok (.ireturn, 1) := by decide +kernel
theorem dX11_cellOf_0 : decode cX11_cellOf 0 = .ok (.aload_n 0, 1) := by decide +kernel
theorem dX11_cellOf_1 : decode cX11_cellOf 1 = .ok (.iload_n 1, 1) := by decide +kernel
theorem dX11_cellOf_2 : decode cX11_cellOf 2 = .ok (.invokevirtual 237, 3) := by decide +kernel
theorem dX11_cellOf_5 : decode cX11_cellOf 5 = .ok (.ifCond .eq 14, 3) := by decide +kernel
theorem dX11_cellOf_19 : decode cX11_cellOf 19 = .ok (.iconst (-1), 1) := by decide +kernel
theorem dX11_cellOf_20 : decode cX11_cellOf 20 = .ok (.ireturn, 1) := by decide +kernel
theorem dX11_chain_0 : decode cX11_chain 0 = .ok (.iload_n 2, 1) := by decide +kernel
theorem dX11_chain_1 : decode cX11_chain 1 = .ok (.ifCond .lt 16, 3) := by decide +kernel
theorem dX11_chain_4 : decode cX11_chain 4 = .ok (.iload_n 2, 1) := by decide +kernel
theorem dX11_chain_5 : decode cX11_chain 5 = .ok (.iconst 1, 1) := by decide +kernel
theorem dX11_chain_6 : decode cX11_chain 6 = .ok (.if_icmp .gt 11, 3) := by decide +kernel
theorem dX11_chain_9 : decode cX11_chain 9 = .ok (.aload_n 0, 1) := by decide +kernel
theorem dX11_chain_10 : decode cX11_chain 10 = .ok (.iload_n 1, 1) := by decide +kernel
theorem dX11_chain_11 : decode cX11_chain 11 = .ok (.invokevirtual 234, 3) := by decide +kernel
theorem dX11_chain_14 : decode cX11_chain 14 = .ok (.ifCond .ne 5, 3) := by decide +kernel
theorem dX11_chain_17 : decode cX11_chain 17 = .ok (.iconst (-1), 1) := by decide +kernel
theorem dX11_chain_18 : decode cX11_chain 18 = .ok (.ireturn, 1) := by decide +kernel
theorem dX11_chance_0 : decode cX11_chance 0 = .ok (.aload_n 0, 1) := by decide +kernel
theorem dX11_chance_1 : decode cX11_chance 1 = .ok (.invokevirtual 224, 3) := by decide +kernel
theorem dX11_chance_4 : decode cX11_chance 4 = .ok (.ifCond .eq 24, 3) := by decide +kernel
theorem dX11_chance_28 : decode cX11_chance 28 = .ok (.aload_n 0, 1) := by decide +kernel
theorem dX11_chance_29 : decode cX11_chance 29 = .ok (.iconst 4, 1) := by decide +kernel
theorem dX11_chance_30 : decode cX11_chance 30 = .ok (.invokevirtual 133, 3) := by decide +kernel
theorem dX11_chance_33 : decode cX11_chance 33 = .ok (.ireturn, 1) := by decide +kernel
theorem dX11_collect_0 : decode cX11_collect 0 = .ok (.aload_n 0, 1) := by decide +kernel
theorem dX11_collect_1 : decode cX11_collect 1 = .ok (.invokevirtual 224, 3) := by decide +kernel
theorem dX11_collect_4 : decode cX11_collect 4 = .ok (.ifCond .ne 9, 3) := by decide +kernel
theorem dX11_collect_7 : decode cX11_collect 7 = .ok (.aload_n 0, 1) := by decide +kernel
theorem dX11_collect_8 : decode cX11_collect 8 = .ok (.iconst 3, 1) := by decide +kernel
theorem dX11_collect_9 : decode cX11_collect 9 = .ok (.invokevirtual 133, 3) := by decide +kernel
theorem dX11_collect_12 : decode cX11_collect 12 = .ok (.ireturn, 1) := by decide +kernel
theorem dX11_comes_0 : decode cX11_comes 0 = .ok (.aload_n 0, 1) := by decide +kernel
theorem dX11_comes_1 : decode cX11_comes 1 = .ok (.iload_n 1, 1) := by decide +kernel
theorem dX11_comes_2 : decode cX11_comes 2 = .ok (.invokevirtual 249, 3) := by decide +kernel
theorem dX11_comes_5 : decode cX11_comes 5 = .ok (.ifCond .ne 5, 3) := by decide +kernel
theorem dX11_comes_8 : decode cX11_comes 8 = .ok (.iconst (-1), 1) := by decide +kernel
theorem dX11_comes_9 : decode cX11_comes 9 = .ok (.ireturn, 1) := by decide +kernel
theorem dX11_deny_0 : decode cX11_deny 0 = .ok (.aload_n 0, 1) := by decide +kernel
theorem dX11_deny_1 : decode cX11_deny 1 = .ok (.getfield 106, 3) := by decide +kernel
theorem dX11_deny_4 : decode cX11_deny 4 = .ok (.iload_n 1, 1) := by decide +kernel
theorem dX11_deny_5 : decode cX11_deny 5 = .ok (.dup2, 1) := by decide +kernel
theorem dX11_deny_6 : decode cX11_deny 6 = .ok (.iaload, 1) := by decide +kernel
theorem dX11_deny_7 : decode cX11_deny 7 = .ok (.iconst 1, 1) := by decide +kernel
theorem dX11_deny_8 : decode cX11_deny 8 = .ok (.iadd, 1) := by decide +kernel
theorem dX11_deny_9 : decode cX11_deny 9 = .ok (.iastore, 1) := by decide +kernel
theorem dX11_deny_10 : decode cX11_deny 10 = .ok (.iconst 0, 1) := by decide +kernel
theorem dX11_deny_11 : decode cX11_deny 11 = .ok (.ireturn, 1) := by decide +kernel
theorem dX11_end_0 : decode cX11_end 0 = .ok (.iload_n 1, 1) := by decide +kernel
theorem dX11_end_1 : decode cX11_end 1 = .ok (.ifCond .lt 14, 3) := by decide +kernel
theorem dX11_end_4 : decode cX11_end 4 = .ok (.iload_n 1, 1) := by decide +kernel
theorem dX11_end_5 : decode cX11_end 5 = .ok (.aload_n 0, 1) := by decide +kernel
theorem dX11_end_6 : decode cX11_end 6 = .ok (.getfield 12, 3) := by decide +kernel
theorem dX11_end_9 : decode cX11_end 9 = .ok (.getfield 130, 3) := by decide +kernel
theorem dX11_end_12 : decode cX11_end 12 = .ok (.if_icmp .le 9, 3) := by decide +kernel
theorem dX11_end_15 : decode cX11_end 15 = .ok (.aload_n 0, 1) := by decide +kernel
theorem dX11_end_16 : decode cX11_end 16 = .ok (.iconst 0, 1) := by decide +kernel
theorem dX11_end_17 : decode cX11_end 17 = .ok (.invokevirtual 141, 3) := by decide +kernel
theorem dX11_end_20 : decode cX11_end 20 = .ok (.ireturn, 1) := by decide +kernel
theorem dX11_end_21 : decode cX11_end 21 = .ok (.aload_n 0, 1) := by decide +kernel
theorem dX11_end_22 : decode cX11_end 22 = .ok (.getfield 12, 3) := by decide +kernel
theorem dX11_end_25 : decode cX11_end 25 = .ok (.iload_n 1, 1) := by decide +kernel
theorem dX11_end_26 : decode cX11_end 26 = .ok (.putfield 130, 3) := by decide +kernel
theorem dX11_end_29 : decode cX11_end 29 = .ok (.iconst 1, 1) := by decide +kernel
theorem dX11_end_30 : decode cX11_end 30 = .ok (.ireturn, 1) := by decide +kernel
theorem dX11_failed_0 : decode cX11_failed 0 = .ok (.iload_n 1, 1) := by decide +kernel
theorem dX11_failed_1 : decode cX11_failed 1 = .ok (.ifCond .ne 13, 3) := by decide +kernel
theorem dX11_failed_4 : decode cX11_failed 4 = .ok (.aload_n 0, 1) := by decide +kernel
theorem dX11_failed_5 : decode cX11_failed 5 = .ok (.getfield 77, 3) := by decide +kernel
theorem dX11_failed_8 : decode cX11_failed 8 = .ok (.getfield 353, 3) := by decide +kernel
theorem dX11_failed_11 : decode cX11_failed 11 = .ok (.goto 19, 3) := by decide +kernel
theorem dX11_failed_14 : decode cX11_failed 14 = .ok (.iload_n 1, 1) := by decide +kernel
theorem dX11_failed_15 : decode cX11_failed 15 = .ok (.iconst 1, 1) := by decide +kernel
theorem dX11_failed_16 : decode cX11_failed 16 = .ok (.if_icmp .ne 13, 3) := by decide +kernel
theorem dX11_failed_19 : decode cX11_failed 19 = .ok (.aload_n 0, 1) := by decide +kernel
theorem dX11_failed_20 : decode cX11_failed 20 = .ok (.getfield 77, 3) := by decide +kernel
theorem dX11_failed_23 : decode cX11_failed 23 = .ok (.getfield 356, 3) := by decide +kernel
theorem dX11_failed_26 : decode cX11_failed 26 = .ok (.goto 4, 3) := by decide +kernel
theorem dX11_failed_29 : decode cX11_failed 29 = .ok (.iconst (-1), 1) := by decide +kernel
theorem dX11_failed_30 : decode cX11_failed 30 = .ok (.ireturn, 1) := by decide +kernel
theorem dX11_far_0 : decode cX11_far 0 = .ok (.aload_n 0, 1) := by decide +kernel
theorem dX11_far_1 : decode cX11_far 1 = .ok (.iload_n 1, 1) := by decide +kernel
theorem dX11_far_2 : decode cX11_far 2 = .ok (.invokevirtual 234, 3) := by decide +kernel
theorem dX11_far_5 : decode cX11_far 5 = .ok (.ifCond .eq 22, 3) := by decide +kernel
theorem dX11_far_27 : decode cX11_far 27 = .ok (.iconst (-1), 1) := by decide +kernel
theorem dX11_far_28 : decode cX11_far 28 = .ok (.ireturn, 1) := by decide +kernel
theorem dX11_fault_0 : decode cX11_fault 0 = .ok (.iload_n 1, 1) := by decide +kernel
theorem dX11_fault_1 : decode cX11_fault 1 = .ok (.ifCond .ne 13, 3) := by decide +kernel
theorem dX11_fault_4 : decode cX11_fault 4 = .ok (.aload_n 0, 1) := by decide +kernel
theorem dX11_fault_5 : decode cX11_fault 5 = .ok (.getfield 12, 3) := by decide +kernel
theorem dX11_fault_8 : decode cX11_fault 8 = .ok (.getfield 164, 3) := by decide +kernel
theorem dX11_fault_11 : decode cX11_fault 11 = .ok (.goto 19, 3) := by decide +kernel
theorem dX11_fault_14 : decode cX11_fault 14 = .ok (.iload_n 1, 1) := by decide +kernel
theorem dX11_fault_15 : decode cX11_fault 15 = .ok (.iconst 1, 1) := by decide +kernel
theorem dX11_fault_16 : decode cX11_fault 16 = .ok (.if_icmp .ne 13, 3) := by decide +kernel
theorem dX11_fault_19 : decode cX11_fault 19 = .ok (.aload_n 0, 1) := by decide +kernel
theorem dX11_fault_20 : decode cX11_fault 20 = .ok (.getfield 12, 3) := by decide +kernel
theorem dX11_fault_23 : decode cX11_fault 23 = .ok (.getfield 167, 3) := by decide +kernel
theorem dX11_fault_26 : decode cX11_fault 26 = .ok (.goto 4, 3) := by decide +kernel
theorem dX11_fault_29 : decode cX11_fault 29 = .ok (.iconst (-1), 1) := by decide +kernel
theorem dX11_fault_30 : decode cX11_fault 30 = .ok (.ireturn, 1) := by decide +kernel
theorem dX11_feed_0 : decode cX11_feed 0 = .ok (.aload_n 0, 1) := by decide +kernel
theorem dX11_feed_1 : decode cX11_feed 1 = .ok (.getfield 12, 3) := by decide +kernel
theorem dX11_feed_4 : decode cX11_feed 4 = .ok (.getfield 130, 3) := by decide +kernel
theorem dX11_feed_7 : decode cX11_feed 7 = .ok (.bipush 20, 2) := by decide +kernel
theorem dX11_feed_9 : decode cX11_feed 9 = .ok (.iadd, 1) := by decide +kernel
theorem dX11_feed_10 : decode cX11_feed 10 = .ok (.sipush 1600, 3) := by decide +kernel
theorem dX11_feed_13 : decode cX11_feed 13 = .ok (.if_icmp .le 9, 3) := by decide +kernel
theorem dX11_feed_22 : decode cX11_feed 22 = .ok (.aload_n 0, 1) := by decide +kernel
theorem dX11_feed_23 : decode cX11_feed 23 = .ok (.getfield 12, 3) := by decide +kernel
theorem dX11_feed_26 : decode cX11_feed 26 = .ok (.iload_n 1, 1) := by decide +kernel
theorem dX11_feed_27 : decode cX11_feed 27 = .ok (.invokevirtual 137, 3) := by decide +kernel
theorem dX11_feed_30 : decode cX11_feed 30 = .ok (.aload_n 0, 1) := by decide +kernel
theorem dX11_feed_31 : decode cX11_feed 31 = .ok (.getfield 12, 3) := by decide +kernel
theorem dX11_feed_34 : decode cX11_feed 34 = .ok (.iload_n 2, 1) := by decide +kernel
theorem dX11_feed_35 : decode cX11_feed 35 = .ok (.invokevirtual 137, 3) := by decide +kernel
theorem dX11_feed_38 : decode cX11_feed 38 = .ok (.aload_n 0, 1) := by decide +kernel
theorem dX11_feed_39 : decode cX11_feed 39 = .ok (.getfield 12, 3) := by decide +kernel
theorem dX11_feed_42 : decode cX11_feed 42 = .ok (.iload_n 3, 1) := by decide +kernel
theorem dX11_feed_43 : decode cX11_feed 43 = .ok (.invokevirtual 137, 3) := by decide +kernel
theorem dX11_feed_46 : decode cX11_feed 46 = .ok (.aload_n 0, 1) := by decide +kernel
theorem dX11_feed_47 : decode cX11_feed 47 = .ok (.getfield 12, 3) := by decide +kernel
theorem dX11_feed_50 : decode cX11_feed 50 = .ok (.iload 4, 2) := by decide +kernel
theorem dX11_feed_52 : decode cX11_feed 52 = .ok (.invokevirtual 137, 3) := by decide +kernel
theorem dX11_feed_55 : decode cX11_feed 55 = .ok (.aload_n 0, 1) := by decide +kernel
theorem dX11_feed_56 : decode cX11_feed 56 = .ok (.getfield 12, 3) := by decide +kernel
theorem dX11_feed_59 : decode cX11_feed 59 = .ok (.iload 5, 2) := by decide +kernel
theorem dX11_feed_61 : decode cX11_feed 61 = .ok (.invokevirtual 137, 3) := by decide +kernel
theorem dX11_feed_64 : decode cX11_feed 64 = .ok (.aload_n 0, 1) := by decide +kernel
theorem dX11_feed_65 : decode cX11_feed 65 = .ok (.getfield 12, 3) := by decide +kernel
theorem dX11_feed_68 : decode cX11_feed 68 = .ok (.getfield 130, 3) := by decide +kernel
theorem dX11_feed_71 : decode cX11_feed 71 = .ok (.ireturn, 1) := by decide +kernel
theorem dX11_found_0 : decode cX11_found 0 = .ok (.aload_n 0, 1) := by decide +kernel
theorem dX11_found_1 : decode cX11_found 1 = .ok (.invokevirtual 224, 3) := by decide +kernel
theorem dX11_found_4 : decode cX11_found 4 = .ok (.ifCond .ne 5, 3) := by decide +kernel
theorem dX11_found_7 : decode cX11_found 7 = .ok (.iconst (-1), 1) := by decide +kernel
theorem dX11_found_8 : decode cX11_found 8 = .ok (.ireturn, 1) := by decide +kernel
theorem dX11_goes_0 : decode cX11_goes 0 = .ok (.aload_n 0, 1) := by decide +kernel
theorem dX11_goes_1 : decode cX11_goes 1 = .ok (.iload_n 1, 1) := by decide +kernel
theorem dX11_goes_2 : decode cX11_goes 2 = .ok (.invokevirtual 237, 3) := by decide +kernel
theorem dX11_goes_5 : decode cX11_goes 5 = .ok (.ifCond .ne 5, 3) := by decide +kernel
theorem dX11_goes_8 : decode cX11_goes 8 = .ok (.iconst (-1), 1) := by decide +kernel
theorem dX11_goes_9 : decode cX11_goes 9 = .ok (.ireturn, 1) := by decide +kernel
theorem dX11_has_0 : decode cX11_has 0 = .ok (.iload_n 1, 1) := by decide +kernel
theorem dX11_has_1 : decode cX11_has 1 = .ok (.tableswitch 162 0 9 #[55, 63, 71, 103, 111, 119, 127, 135, 143, 148], 55) := by decide +kernel
theorem dX11_has_56 : decode cX11_has 56 = .ok (.aload_n 0, 1) := by decide +kernel
theorem dX11_has_57 : decode cX11_has 57 = .ok (.getfield 29, 3) := by decide +kernel
theorem dX11_has_60 : decode cX11_has 60 = .ok (.getfield 170, 3) := by decide +kernel
theorem dX11_has_63 : decode cX11_has 63 = .ok (.ireturn, 1) := by decide +kernel
theorem dX11_has_64 : decode cX11_has 64 = .ok (.aload_n 0, 1) := by decide +kernel
theorem dX11_has_65 : decode cX11_has 65 = .ok (.getfield 29, 3) := by decide +kernel
theorem dX11_has_68 : decode cX11_has 68 = .ok (.getfield 173, 3) := by decide +kernel
theorem dX11_has_71 : decode cX11_has 71 = .ok (.ireturn, 1) := by decide +kernel
theorem dX11_has_72 : decode cX11_has 72 = .ok (.aload_n 0, 1) := by decide +kernel
theorem dX11_has_73 : decode cX11_has 73 = .ok (.getfield 29, 3) := by decide +kernel
theorem dX11_has_76 : decode cX11_has 76 = .ok (.getfield 176, 3) := by decide +kernel
theorem dX11_has_79 : decode cX11_has 79 = .ok (.ifCond .eq 13, 3) := by decide +kernel
theorem dX11_has_92 : decode cX11_has 92 = .ok (.aload_n 0, 1) := by decide +kernel
theorem dX11_has_93 : decode cX11_has 93 = .ok (.getfield 19, 3) := by decide +kernel
theorem dX11_has_96 : decode cX11_has 96 = .ok (.aload_n 0, 1) := by decide +kernel
theorem dX11_has_97 : decode cX11_has 97 = .ok (.getfield 29, 3) := by decide +kernel
theorem dX11_has_100 : decode cX11_has 100 = .ok (.invokevirtual 183, 3) := by decide +kernel
theorem dX11_has_103 : decode cX11_has 103 = .ok (.ireturn, 1) := by decide +kernel
theorem dX11_has_104 : decode cX11_has 104 = .ok (.aload_n 0, 1) := by decide +kernel
theorem dX11_has_105 : decode cX11_has 105 = .ok (.getfield 19, 3) := by decide +kernel
theorem dX11_has_108 : decode cX11_has 108 = .ok (.getfield 187, 3) := by decide +kernel
theorem dX11_has_111 : decode cX11_has 111 = .ok (.ireturn, 1) := by decide +kernel
theorem dX11_has_112 : decode cX11_has 112 = .ok (.aload_n 0, 1) := by decide +kernel
theorem dX11_has_113 : decode cX11_has 113 = .ok (.getfield 29, 3) := by decide +kernel
theorem dX11_has_116 : decode cX11_has 116 = .ok (.getfield 190, 3) := by decide +kernel
theorem dX11_has_119 : decode cX11_has 119 = .ok (.ireturn, 1) := by decide +kernel
theorem dX11_has_120 : decode cX11_has 120 = .ok (.aload_n 0, 1) := by decide +kernel
theorem dX11_has_121 : decode cX11_has 121 = .ok (.getfield 29, 3) := by decide +kernel
theorem dX11_has_124 : decode cX11_has 124 = .ok (.getfield 193, 3) := by decide +kernel
theorem dX11_has_127 : decode cX11_has 127 = .ok (.ireturn, 1) := by decide +kernel
theorem dX11_has_128 : decode cX11_has 128 = .ok (.aload_n 0, 1) := by decide +kernel
theorem dX11_has_129 : decode cX11_has 129 = .ok (.getfield 29, 3) := by decide +kernel
theorem dX11_has_132 : decode cX11_has 132 = .ok (.getfield 196, 3) := by decide +kernel
theorem dX11_has_135 : decode cX11_has 135 = .ok (.ireturn, 1) := by decide +kernel
theorem dX11_has_136 : decode cX11_has 136 = .ok (.aload_n 0, 1) := by decide +kernel
theorem dX11_has_137 : decode cX11_has 137 = .ok (.getfield 95, 3) := by decide +kernel
theorem dX11_has_140 : decode cX11_has 140 = .ok (.getfield 158, 3) := by decide +kernel
theorem dX11_has_143 : decode cX11_has 143 = .ok (.ireturn, 1) := by decide +kernel
theorem dX11_has_144 : decode cX11_has 144 = .ok (.aload_n 0, 1) := by decide +kernel
theorem dX11_has_145 : decode cX11_has 145 = .ok (.getfield 114, 3) := by decide +kernel
theorem dX11_has_148 : decode cX11_has 148 = .ok (.ireturn, 1) := by decide +kernel
theorem dX11_has_149 : decode cX11_has 149 = .ok (.aload_n 0, 1) := by decide +kernel
theorem dX11_has_150 : decode cX11_has 150 = .ok (.getfield 124, 3) := by decide +kernel
theorem dX11_has_153 : decode cX11_has 153 = .ok (.iconst (-1), 1) := by decide +kernel
theorem dX11_has_154 : decode cX11_has 154 = .ok (.if_icmp .ne 7, 3) := by decide +kernel
theorem dX11_has_157 : decode cX11_has 157 = .ok (.iconst 0, 1) := by decide +kernel
theorem dX11_has_158 : decode cX11_has 158 = .ok (.goto 4, 3) := by decide +kernel
theorem dX11_has_162 : decode cX11_has 162 = .ok (.ireturn, 1) := by decide +kernel
theorem dX11_has_163 : decode cX11_has 163 = .ok (.iconst (-1), 1) := by decide +kernel
theorem dX11_has_164 : decode cX11_has 164 = .ok (.ireturn, 1) := by decide +kernel
theorem dX11_heap_0 : decode cX11_heap 0 = .ok (.aload_n 0, 1) := by decide +kernel
theorem dX11_heap_1 : decode cX11_heap 1 = .ok (.getfield 59, 3) := by decide +kernel
theorem dX11_heap_4 : decode cX11_heap 4 = .ok (.invokevirtual 145, 3) := by decide +kernel
theorem dX11_heap_7 : decode cX11_heap 7 = .ok (.istore_n 1, 1) := by decide +kernel
theorem dX11_heap_8 : decode cX11_heap 8 = .ok (.aload_n 0, 1) := by decide +kernel
theorem dX11_heap_9 : decode cX11_heap 9 = .ok (.getfield 12, 3) := by decide +kernel
theorem dX11_heap_12 : decode cX11_heap 12 = .ok (.iconst 0, 1) := by decide +kernel
theorem dX11_heap_13 : decode cX11_heap 13 = .ok (.putfield 130, 3) := by decide +kernel
theorem dX11_heap_16 : decode cX11_heap 16 = .ok (.iload_n 1, 1) := by decide +kernel
theorem dX11_heap_17 : decode cX11_heap 17 = .ok (.ifCond .ne 9, 3) := by decide +kernel
theorem dX11_heap_20 : decode cX11_heap 20 = .ok (.aload_n 0, 1) := by decide +kernel
theorem dX11_heap_21 : decode cX11_heap 21 = .ok (.iconst 1, 1) := by decide +kernel
theorem dX11_heap_22 : decode cX11_heap 22 = .ok (.invokevirtual 133, 3) := by decide +kernel
theorem dX11_heap_25 : decode cX11_heap 25 = .ok (.ireturn, 1) := by decide +kernel
theorem dX11_image_0 : decode cX11_image 0 = .ok (.aload_n 0, 1) := by decide +kernel
theorem dX11_image_1 : decode cX11_image 1 = .ok (.invokevirtual 224, 3) := by decide +kernel
theorem dX11_image_4 : decode cX11_image 4 = .ok (.ifCond .ne 5, 3) := by decide +kernel
theorem dX11_image_7 : decode cX11_image 7 = .ok (.iconst (-1), 1) := by decide +kernel
theorem dX11_image_8 : decode cX11_image 8 = .ok (.ireturn, 1) := by decide +kernel
theorem dX11_inCell_0 : decode cX11_inCell 0 = .ok (.aload_n 0, 1) := by decide +kernel
theorem dX11_inCell_1 : decode cX11_inCell 1 = .ok (.iload_n 1, 1) := by decide +kernel
theorem dX11_inCell_2 : decode cX11_inCell 2 = .ok (.invokevirtual 249, 3) := by decide +kernel
theorem dX11_inCell_5 : decode cX11_inCell 5 = .ok (.ifCond .eq 18, 3) := by decide +kernel
theorem dX11_inCell_23 : decode cX11_inCell 23 = .ok (.iconst 0, 1) := by decide +kernel
theorem dX11_inCell_24 : decode cX11_inCell 24 = .ok (.ireturn, 1) := by decide +kernel
theorem dX11_inHeap_0 : decode cX11_inHeap 0 = .ok (.aload_n 0, 1) := by decide +kernel
theorem dX11_inHeap_1 : decode cX11_inHeap 1 = .ok (.invokevirtual 224, 3) := by decide +kernel
theorem dX11_inHeap_4 : decode cX11_inHeap 4 = .ok (.ifCond .eq 22, 3) := by decide +kernel
theorem dX11_inHeap_26 : decode cX11_inHeap 26 = .ok (.iconst 0, 1) := by decide +kernel
theorem dX11_inHeap_27 : decode cX11_inHeap 27 = .ok (.ireturn, 1) := by decide +kernel
theorem dX11_init_0 : decode cX11_init 0 = .ok (.aload_n 0, 1) := by decide +kernel
theorem dX11_init_1 : decode cX11_init 1 = .ok (.invokespecial 3, 3) := by decide +kernel
theorem dX11_init_4 : decode cX11_init 4 = .ok (.aload_n 0, 1) := by decide +kernel
theorem dX11_init_5 : decode cX11_init 5 = .ok (.new 9, 3) := by decide +kernel
theorem dX11_init_8 : decode cX11_init 8 = .ok (.dup, 1) := by decide +kernel
theorem dX11_init_9 : decode cX11_init 9 = .ok (.invokespecial 11, 3) := by decide +kernel
theorem dX11_init_12 : decode cX11_init 12 = .ok (.putfield 12, 3) := by decide +kernel
theorem dX11_init_15 : decode cX11_init 15 = .ok (.aload_n 0, 1) := by decide +kernel
theorem dX11_init_16 : decode cX11_init 16 = .ok (.new 16, 3) := by decide +kernel
theorem dX11_init_19 : decode cX11_init 19 = .ok (.dup, 1) := by decide +kernel
theorem dX11_init_20 : decode cX11_init 20 = .ok (.invokespecial 18, 3) := by decide +kernel
theorem dX11_init_23 : decode cX11_init 23 = .ok (.putfield 19, 3) := by decide +kernel
theorem dX11_init_26 : decode cX11_init 26 = .ok (.aload_n 0, 1) := by decide +kernel
theorem dX11_init_27 : decode cX11_init 27 = .ok (.new 16, 3) := by decide +kernel
theorem dX11_init_30 : decode cX11_init 30 = .ok (.dup, 1) := by decide +kernel
theorem dX11_init_31 : decode cX11_init 31 = .ok (.invokespecial 18, 3) := by decide +kernel
theorem dX11_init_34 : decode cX11_init 34 = .ok (.putfield 23, 3) := by decide +kernel
theorem dX11_init_37 : decode cX11_init 37 = .ok (.aload_n 0, 1) := by decide +kernel
theorem dX11_init_38 : decode cX11_init 38 = .ok (.new 26, 3) := by decide +kernel
theorem dX11_init_41 : decode cX11_init 41 = .ok (.dup, 1) := by decide +kernel
theorem dX11_init_42 : decode cX11_init 42 = .ok (.invokespecial 28, 3) := by decide +kernel
theorem dX11_init_45 : decode cX11_init 45 = .ok (.putfield 29, 3) := by decide +kernel
theorem dX11_init_48 : decode cX11_init 48 = .ok (.aload_n 0, 1) := by decide +kernel
theorem dX11_init_49 : decode cX11_init 49 = .ok (.new 26, 3) := by decide +kernel
theorem dX11_init_52 : decode cX11_init 52 = .ok (.dup, 1) := by decide +kernel
theorem dX11_init_53 : decode cX11_init 53 = .ok (.invokespecial 28, 3) := by decide +kernel
theorem dX11_init_56 : decode cX11_init 56 = .ok (.putfield 33, 3) := by decide +kernel
theorem dX11_init_59 : decode cX11_init 59 = .ok (.aload_n 0, 1) := by decide +kernel
theorem dX11_init_60 : decode cX11_init 60 = .ok (.new 36, 3) := by decide +kernel
theorem dX11_init_63 : decode cX11_init 63 = .ok (.dup, 1) := by decide +kernel
theorem dX11_init_64 : decode cX11_init 64 = .ok (.aload_n 0, 1) := by decide +kernel
theorem dX11_init_65 : decode cX11_init 65 = .ok (.getfield 19, 3) := by decide +kernel
theorem dX11_init_68 : decode cX11_init 68 = .ok (.invokespecial 38, 3) := by decide +kernel
theorem dX11_init_71 : decode cX11_init 71 = .ok (.putfield 41, 3) := by decide +kernel
theorem dX11_init_74 : decode cX11_init 74 = .ok (.aload_n 0, 1) := by decide +kernel
theorem dX11_init_75 : decode cX11_init 75 = .ok (.new 45, 3) := by decide +kernel
theorem dX11_init_78 : decode cX11_init 78 = .ok (.dup, 1) := by decide +kernel
theorem dX11_init_79 : decode cX11_init 79 = .ok (.aload_n 0, 1) := by decide +kernel
theorem dX11_init_80 : decode cX11_init 80 = .ok (.getfield 19, 3) := by decide +kernel
theorem dX11_init_83 : decode cX11_init 83 = .ok (.aload_n 0, 1) := by decide +kernel
theorem dX11_init_84 : decode cX11_init 84 = .ok (.getfield 41, 3) := by decide +kernel
theorem dX11_init_87 : decode cX11_init 87 = .ok (.invokespecial 47, 3) := by decide +kernel
theorem dX11_init_90 : decode cX11_init 90 = .ok (.putfield 50, 3) := by decide +kernel
theorem dX11_init_93 : decode cX11_init 93 = .ok (.aload_n 0, 1) := by decide +kernel
theorem dX11_init_94 : decode cX11_init 94 = .ok (.new 54, 3) := by decide +kernel
theorem dX11_init_97 : decode cX11_init 97 = .ok (.dup, 1) := by decide +kernel
theorem dX11_init_98 : decode cX11_init 98 = .ok (.aload_n 0, 1) := by decide +kernel
theorem dX11_init_99 : decode cX11_init 99 = .ok (.getfield 12, 3) := by decide +kernel
theorem dX11_init_102 : decode cX11_init 102 = .ok (.aload_n 0, 1) := by decide +kernel
theorem dX11_init_103 : decode cX11_init 103 = .ok (.getfield 23, 3) := by decide +kernel
theorem dX11_init_106 : decode cX11_init 106 = .ok (.aload_n 0, 1) := by decide +kernel
theorem dX11_init_107 : decode cX11_init 107 = .ok (.getfield 33, 3) := by decide +kernel
theorem dX11_init_110 : decode cX11_init 110 = .ok (.invokespecial 56, 3) := by decide +kernel
theorem dX11_init_113 : decode cX11_init 113 = .ok (.putfield 59, 3) := by decide +kernel
theorem dX11_init_116 : decode cX11_init 116 = .ok (.aload_n 0, 1) := by decide +kernel
theorem dX11_init_117 : decode cX11_init 117 = .ok (.new 63, 3) := by decide +kernel
theorem dX11_init_120 : decode cX11_init 120 = .ok (.dup, 1) := by decide +kernel
theorem dX11_init_121 : decode cX11_init 121 = .ok (.aload_n 0, 1) := by decide +kernel
theorem dX11_init_122 : decode cX11_init 122 = .ok (.getfield 12, 3) := by decide +kernel
theorem dX11_init_125 : decode cX11_init 125 = .ok (.aload_n 0, 1) := by decide +kernel
theorem dX11_init_126 : decode cX11_init 126 = .ok (.getfield 19, 3) := by decide +kernel
theorem dX11_init_129 : decode cX11_init 129 = .ok (.invokespecial 65, 3) := by decide +kernel
theorem dX11_init_132 : decode cX11_init 132 = .ok (.putfield 68, 3) := by decide +kernel
theorem dX11_init_135 : decode cX11_init 135 = .ok (.aload_n 0, 1) := by decide +kernel
theorem dX11_init_136 : decode cX11_init 136 = .ok (.new 72, 3) := by decide +kernel
theorem dX11_init_139 : decode cX11_init 139 = .ok (.dup, 1) := by decide +kernel
theorem dX11_init_140 : decode cX11_init 140 = .ok (.aload_n 0, 1) := by decide +kernel
theorem dX11_init_141 : decode cX11_init 141 = .ok (.getfield 29, 3) := by decide +kernel
theorem dX11_init_144 : decode cX11_init 144 = .ok (.aload_n 0, 1) := by decide +kernel
theorem dX11_init_145 : decode cX11_init 145 = .ok (.getfield 19, 3) := by decide +kernel
theorem dX11_init_148 : decode cX11_init 148 = .ok (.aload_n 0, 1) := by decide +kernel
theorem dX11_init_149 : decode cX11_init 149 = .ok (.getfield 50, 3) := by decide +kernel
theorem dX11_init_152 : decode cX11_init 152 = .ok (.aload_n 0, 1) := by decide +kernel
theorem dX11_init_153 : decode cX11_init 153 = .ok (.getfield 68, 3) := by decide +kernel
theorem dX11_init_156 : decode cX11_init 156 = .ok (.invokespecial 74, 3) := by decide +kernel
theorem dX11_init_159 : decode cX11_init 159 = .ok (.putfield 77, 3) := by decide +kernel
theorem dX11_init_162 : decode cX11_init 162 = .ok (.aload_n 0, 1) := by decide +kernel
theorem dX11_init_163 : decode cX11_init 163 = .ok (.new 81, 3) := by decide +kernel
theorem dX11_init_166 : decode cX11_init 166 = .ok (.dup, 1) := by decide +kernel
theorem dX11_init_167 : decode cX11_init 167 = .ok (.aload_n 0, 1) := by decide +kernel
theorem dX11_init_168 : decode cX11_init 168 = .ok (.getfield 19, 3) := by decide +kernel
theorem dX11_init_171 : decode cX11_init 171 = .ok (.aload_n 0, 1) := by decide +kernel
theorem dX11_init_172 : decode cX11_init 172 = .ok (.getfield 50, 3) := by decide +kernel
theorem dX11_init_175 : decode cX11_init 175 = .ok (.invokespecial 83, 3) := by decide +kernel
theorem dX11_init_178 : decode cX11_init 178 = .ok (.putfield 86, 3) := by decide +kernel
theorem dX11_init_181 : decode cX11_init 181 = .ok (.aload_n 0, 1) := by decide +kernel
theorem dX11_init_182 : decode cX11_init 182 = .ok (.new 90, 3) := by decide +kernel
theorem dX11_init_185 : decode cX11_init 185 = .ok (.dup, 1) := by decide +kernel
theorem dX11_init_186 : decode cX11_init 186 = .ok (.aload_n 0, 1) := by decide +kernel
theorem dX11_init_187 : decode cX11_init 187 = .ok (.getfield 50, 3) := by decide +kernel
theorem dX11_init_190 : decode cX11_init 190 = .ok (.invokespecial 92, 3) := by decide +kernel
theorem dX11_init_193 : decode cX11_init 193 = .ok (.putfield 95, 3) := by decide +kernel
theorem dX11_init_196 : decode cX11_init 196 = .ok (.aload_n 0, 1) := by decide +kernel
theorem dX11_init_197 : decode cX11_init 197 = .ok (.new 99, 3) := by decide +kernel
theorem dX11_init_200 : decode cX11_init 200 = .ok (.dup, 1) := by decide +kernel
theorem dX11_init_201 : decode cX11_init 201 = .ok (.aload_n 0, 1) := by decide +kernel
theorem dX11_init_202 : decode cX11_init 202 = .ok (.getfield 19, 3) := by decide +kernel
theorem dX11_init_205 : decode cX11_init 205 = .ok (.invokespecial 101, 3) := by decide +kernel
theorem dX11_init_208 : decode cX11_init 208 = .ok (.putfield 102, 3) := by decide +kernel
theorem dX11_init_211 : decode cX11_init 211 = .ok (.aload_n 0, 1) := by decide +kernel
theorem dX11_init_212 : decode cX11_init 212 = .ok (.bipush 7, 2) := by decide +kernel
theorem dX11_init_214 : decode cX11_init 214 = .ok (.newarray .int, 2) := by decide +kernel
theorem dX11_init_216 : decode cX11_init 216 = .ok (.putfield 106, 3) := by decide +kernel
theorem dX11_init_219 : decode cX11_init 219 = .ok (.aload_n 0, 1) := by decide +kernel
theorem dX11_init_220 : decode cX11_init 220 = .ok (.bipush 20, 2) := by decide +kernel
theorem dX11_init_222 : decode cX11_init 222 = .ok (.anewarray 26, 3) := by decide +kernel
theorem dX11_init_225 : decode cX11_init 225 = .ok (.putfield 110, 3) := by decide +kernel
theorem dX11_init_228 : decode cX11_init 228 = .ok (.aload_n 0, 1) := by decide +kernel
theorem dX11_init_229 : decode cX11_init 229 = .ok (.iconst 0, 1) := by decide +kernel
theorem dX11_init_230 : decode cX11_init 230 = .ok (.putfield 114, 3) := by decide +kernel
theorem dX11_init_233 : decode cX11_init 233 = .ok (.aload_n 0, 1) := by decide +kernel
theorem dX11_init_234 : decode cX11_init 234 = .ok (.iconst 0, 1) := by decide +kernel
theorem dX11_init_235 : decode cX11_init 235 = .ok (.putfield 118, 3) := by decide +kernel
theorem dX11_init_238 : decode cX11_init 238 = .ok (.aload_n 0, 1) := by decide +kernel
theorem dX11_init_239 : decode cX11_init 239 = .ok (.sipush 168, 3) := by decide +kernel
theorem dX11_init_242 : decode cX11_init 242 = .ok (.newarray .int, 2) := by decide +kernel
theorem dX11_init_244 : decode cX11_init 244 = .ok (.putfield 121, 3) := by decide +kernel
theorem dX11_init_247 : decode cX11_init 247 = .ok (.aload_n 0, 1) := by decide +kernel
theorem dX11_init_248 : decode cX11_init 248 = .ok (.iconst (-1), 1) := by decide +kernel
theorem dX11_init_249 : decode cX11_init 249 = .ok (.putfield 124, 3) := by decide +kernel
theorem dX11_init_252 : decode cX11_init 252 = .ok (.aload_n 0, 1) := by decide +kernel
theorem dX11_init_253 : decode cX11_init 253 = .ok (.sipush 168, 3) := by decide +kernel
theorem dX11_init_256 : decode cX11_init 256 = .ok (.newarray .int, 2) := by decide +kernel
theorem dX11_init_258 : decode cX11_init 258 = .ok (.putfield 127, 3) := by decide +kernel
theorem dX11_init_261 : decode cX11_init 261 = .ok (.iconst 0, 1) := by decide +kernel
theorem dX11_init_262 : decode cX11_init 262 = .ok (.istore_n 1, 1) := by decide +kernel
theorem dX11_init_263 : decode cX11_init 263 = .ok (.iload_n 1, 1) := by decide +kernel
theorem dX11_init_264 : decode cX11_init 264 = .ok (.bipush 20, 2) := by decide +kernel
theorem dX11_init_266 : decode cX11_init 266 = .ok (.if_icmp .ge 22, 3) := by decide +kernel
theorem dX11_init_269 : decode cX11_init 269 = .ok (.aload_n 0, 1) := by decide +kernel
theorem dX11_init_270 : decode cX11_init 270 = .ok (.getfield 110, 3) := by decide +kernel
theorem dX11_init_273 : decode cX11_init 273 = .ok (.iload_n 1, 1) := by decide +kernel
theorem dX11_init_274 : decode cX11_init 274 = .ok (.new 26, 3) := by decide +kernel
theorem dX11_init_277 : decode cX11_init 277 = .ok (.dup, 1) := by decide +kernel
theorem dX11_init_278 : decode cX11_init 278 = .ok (.invokespecial 28, 3) := by decide +kernel
theorem dX11_init_281 : decode cX11_init 281 = .ok (.aastore, 1) := by decide +kernel
theorem dX11_init_282 : decode cX11_init 282 = .ok (.iinc 1 1, 3) := by decide +kernel
theorem dX11_init_285 : decode cX11_init 285 = .ok (.goto (-22), 3) := by decide +kernel
theorem dX11_init_288 : decode cX11_init 288 = .ok (.return_, 1) := by decide +kernel
theorem dX11_isLive_0 : decode cX11_isLive 0 = .ok (.aload_n 0, 1) := by decide +kernel
theorem dX11_isLive_1 : decode cX11_isLive 1 = .ok (.iload_n 1, 1) := by decide +kernel
theorem dX11_isLive_2 : decode cX11_isLive 2 = .ok (.invokevirtual 237, 3) := by decide +kernel
theorem dX11_isLive_5 : decode cX11_isLive 5 = .ok (.ifCond .ne 5, 3) := by decide +kernel
theorem dX11_isLive_8 : decode cX11_isLive 8 = .ok (.iconst 0, 1) := by decide +kernel
theorem dX11_isLive_9 : decode cX11_isLive 9 = .ok (.ireturn, 1) := by decide +kernel
theorem dX11_keeps_0 : decode cX11_keeps 0 = .ok (.aload_n 0, 1) := by decide +kernel
