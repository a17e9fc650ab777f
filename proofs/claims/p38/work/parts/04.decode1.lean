theorem dX11_remember_1 : decode cX11_remember 1 = .ok (.invokevirtual 224, 3) := by decide +kernel
theorem dX11_remember_4 : decode cX11_remember 4 = .ok (.ifCond .ne 9, 3) := by decide +kernel
theorem dX11_remember_7 : decode cX11_remember 7 = .ok (.aload_n 0, 1) := by decide +kernel
theorem dX11_remember_8 : decode cX11_remember 8 = .ok (.iconst 2, 1) := by decide +kernel
theorem dX11_remember_9 : decode cX11_remember 9 = .ok (.invokevirtual 133, 3) := by decide +kernel
theorem dX11_remember_12 : decode cX11_remember 12 = .ok (.ireturn, 1) := by decide +kernel
theorem dX11_remember_13 : decode cX11_remember 13 = .ok (.aload_n 0, 1) := by decide +kernel
theorem dX11_remember_14 : decode cX11_remember 14 = .ok (.getfield 41, 3) := by decide +kernel
theorem dX11_remember_17 : decode cX11_remember 17 = .ok (.aload_n 0, 1) := by decide +kernel
theorem dX11_remember_18 : decode cX11_remember 18 = .ok (.getfield 29, 3) := by decide +kernel
theorem dX11_remember_21 : decode cX11_remember 21 = .ok (.iconst (-1), 1) := by decide +kernel
theorem dX11_remember_22 : decode cX11_remember 22 = .ok (.iconst (-1), 1) := by decide +kernel
theorem dX11_remember_23 : decode cX11_remember 23 = .ok (.invokevirtual 277, 3) := by decide +kernel
theorem dX11_remember_26 : decode cX11_remember 26 = .ok (.aload_n 0, 1) := by decide +kernel
theorem dX11_remember_27 : decode cX11_remember 27 = .ok (.aload_n 0, 1) := by decide +kernel
theorem dX11_remember_28 : decode cX11_remember 28 = .ok (.getfield 41, 3) := by decide +kernel
theorem dX11_remember_31 : decode cX11_remember 31 = .ok (.aload_n 0, 1) := by decide +kernel
theorem dX11_remember_32 : decode cX11_remember 32 = .ok (.getfield 29, 3) := by decide +kernel
theorem dX11_remember_35 : decode cX11_remember 35 = .ok (.aload_n 0, 1) := by decide +kernel
theorem dX11_remember_36 : decode cX11_remember 36 = .ok (.getfield 121, 3) := by decide +kernel
theorem dX11_remember_39 : decode cX11_remember 39 = .ok (.invokevirtual 316, 3) := by decide +kernel
theorem dX11_remember_42 : decode cX11_remember 42 = .ok (.putfield 124, 3) := by decide +kernel
theorem dX11_remember_45 : decode cX11_remember 45 = .ok (.aload_n 0, 1) := by decide +kernel
theorem dX11_remember_46 : decode cX11_remember 46 = .ok (.getfield 41, 3) := by decide +kernel
theorem dX11_remember_49 : decode cX11_remember 49 = .ok (.getfield 312, 3) := by decide +kernel
theorem dX11_remember_52 : decode cX11_remember 52 = .ok (.ireturn, 1) := by decide +kernel
theorem dX11_retains_0 : decode cX11_retains 0 = .ok (.aload_n 0, 1) := by decide +kernel
theorem dX11_retains_1 : decode cX11_retains 1 = .ok (.iload_n 1, 1) := by decide +kernel
theorem dX11_retains_2 : decode cX11_retains 2 = .ok (.invokevirtual 237, 3) := by decide +kernel
theorem dX11_retains_5 : decode cX11_retains 5 = .ok (.ifCond .ne 5, 3) := by decide +kernel
theorem dX11_retains_8 : decode cX11_retains 8 = .ok (.iconst (-1), 1) := by decide +kernel
theorem dX11_retains_9 : decode cX11_retains 9 = .ok (.ireturn, 1) := by decide +kernel
theorem dX11_retains_10 : decode cX11_retains 10 = .ok (.aload_n 0, 1) := by decide +kernel
theorem dX11_retains_11 : decode cX11_retains 11 = .ok (.getfield 41, 3) := by decide +kernel
theorem dX11_retains_14 : decode cX11_retains 14 = .ok (.aload_n 0, 1) := by decide +kernel
theorem dX11_retains_15 : decode cX11_retains 15 = .ok (.getfield 29, 3) := by decide +kernel
theorem dX11_retains_18 : decode cX11_retains 18 = .ok (.iconst (-1), 1) := by decide +kernel
theorem dX11_retains_19 : decode cX11_retains 19 = .ok (.aload_n 0, 1) := by decide +kernel
theorem dX11_retains_20 : decode cX11_retains 20 = .ok (.getfield 29, 3) := by decide +kernel
theorem dX11_retains_23 : decode cX11_retains 23 = .ok (.iload_n 1, 1) := by decide +kernel
theorem dX11_retains_24 : decode cX11_retains 24 = .ok (.invokevirtual 240, 3) := by decide +kernel
theorem dX11_retains_27 : decode cX11_retains 27 = .ok (.invokevirtual 308, 3) := by decide +kernel
theorem dX11_retains_30 : decode cX11_retains 30 = .ok (.ireturn, 1) := by decide +kernel
theorem dX11_room_0 : decode cX11_room 0 = .ok (.aload_n 0, 1) := by decide +kernel
theorem dX11_room_1 : decode cX11_room 1 = .ok (.invokevirtual 224, 3) := by decide +kernel
theorem dX11_room_4 : decode cX11_room 4 = .ok (.ifCond .eq 27, 3) := by decide +kernel
theorem dX11_room_7 : decode cX11_room 7 = .ok (.iload_n 1, 1) := by decide +kernel
theorem dX11_room_8 : decode cX11_room 8 = .ok (.ifCond .lt 23, 3) := by decide +kernel
theorem dX11_room_11 : decode cX11_room 11 = .ok (.iload_n 1, 1) := by decide +kernel
theorem dX11_room_12 : decode cX11_room 12 = .ok (.aload_n 0, 1) := by decide +kernel
theorem dX11_room_13 : decode cX11_room 13 = .ok (.getfield 19, 3) := by decide +kernel
theorem dX11_room_16 : decode cX11_room 16 = .ok (.getfield 187, 3) := by decide +kernel
theorem dX11_room_19 : decode cX11_room 19 = .ok (.if_icmp .ge 12, 3) := by decide +kernel
theorem dX11_room_22 : decode cX11_room 22 = .ok (.iload_n 2, 1) := by decide +kernel
theorem dX11_room_23 : decode cX11_room 23 = .ok (.ifCond .lt 8, 3) := by decide +kernel
theorem dX11_room_26 : decode cX11_room 26 = .ok (.iload_n 2, 1) := by decide +kernel
theorem dX11_room_27 : decode cX11_room 27 = .ok (.iconst 1, 1) := by decide +kernel
theorem dX11_room_28 : decode cX11_room 28 = .ok (.if_icmp .le 5, 3) := by decide +kernel
theorem dX11_room_31 : decode cX11_room 31 = .ok (.iconst (-1), 1) := by decide +kernel
theorem dX11_room_32 : decode cX11_room 32 = .ok (.ireturn, 1) := by decide +kernel
theorem dX11_room_33 : decode cX11_room 33 = .ok (.aload_n 0, 1) := by decide +kernel
theorem dX11_room_34 : decode cX11_room 34 = .ok (.getfield 29, 3) := by decide +kernel
theorem dX11_room_37 : decode cX11_room 37 = .ok (.getfield 173, 3) := by decide +kernel
theorem dX11_room_40 : decode cX11_room 40 = .ok (.istore_n 3, 1) := by decide +kernel
theorem dX11_room_41 : decode cX11_room 41 = .ok (.iload_n 2, 1) := by decide +kernel
theorem dX11_room_42 : decode cX11_room 42 = .ok (.iconst 1, 1) := by decide +kernel
theorem dX11_room_43 : decode cX11_room 43 = .ok (.if_icmp .ne 32, 3) := by decide +kernel
theorem dX11_room_46 : decode cX11_room 46 = .ok (.aload_n 0, 1) := by decide +kernel
theorem dX11_room_47 : decode cX11_room 47 = .ok (.getfield 41, 3) := by decide +kernel
theorem dX11_room_50 : decode cX11_room 50 = .ok (.aload_n 0, 1) := by decide +kernel
theorem dX11_room_51 : decode cX11_room 51 = .ok (.getfield 29, 3) := by decide +kernel
theorem dX11_room_54 : decode cX11_room 54 = .ok (.iconst (-1), 1) := by decide +kernel
theorem dX11_room_55 : decode cX11_room 55 = .ok (.iconst (-1), 1) := by decide +kernel
theorem dX11_room_56 : decode cX11_room 56 = .ok (.invokevirtual 277, 3) := by decide +kernel
theorem dX11_room_59 : decode cX11_room 59 = .ok (.aload_n 0, 1) := by decide +kernel
theorem dX11_room_60 : decode cX11_room 60 = .ok (.getfield 29, 3) := by decide +kernel
theorem dX11_room_63 : decode cX11_room 63 = .ok (.getfield 170, 3) := by decide +kernel
theorem dX11_room_66 : decode cX11_room 66 = .ok (.aload_n 0, 1) := by decide +kernel
theorem dX11_room_67 : decode cX11_room 67 = .ok (.getfield 41, 3) := by decide +kernel
theorem dX11_room_70 : decode cX11_room 70 = .ok (.getfield 293, 3) := by decide +kernel
theorem dX11_room_73 : decode cX11_room 73 = .ok (.isub, 1) := by decide +kernel
theorem dX11_room_74 : decode cX11_room 74 = .ok (.istore_n 3, 1) := by decide +kernel
theorem dX11_room_75 : decode cX11_room 75 = .ok (.iload_n 3, 1) := by decide +kernel
theorem dX11_room_76 : decode cX11_room 76 = .ok (.aload_n 0, 1) := by decide +kernel
theorem dX11_room_77 : decode cX11_room 77 = .ok (.getfield 19, 3) := by decide +kernel
theorem dX11_room_80 : decode cX11_room 80 = .ok (.getfield 296, 3) := by decide +kernel
theorem dX11_room_83 : decode cX11_room 83 = .ok (.iload_n 1, 1) := by decide +kernel
theorem dX11_room_84 : decode cX11_room 84 = .ok (.iaload, 1) := by decide +kernel
theorem dX11_room_85 : decode cX11_room 85 = .ok (.iconst 1, 1) := by decide +kernel
theorem dX11_room_86 : decode cX11_room 86 = .ok (.iadd, 1) := by decide +kernel
theorem dX11_room_87 : decode cX11_room 87 = .ok (.idiv, 1) := by decide +kernel
theorem dX11_room_88 : decode cX11_room 88 = .ok (.ireturn, 1) := by decide +kernel
theorem dX11_run_0 : decode cX11_run 0 = .ok (.aload_n 0, 1) := by decide +kernel
theorem dX11_run_1 : decode cX11_run 1 = .ok (.invokevirtual 224, 3) := by decide +kernel
theorem dX11_run_4 : decode cX11_run 4 = .ok (.ifCond .eq 17, 3) := by decide +kernel
theorem dX11_run_7 : decode cX11_run 7 = .ok (.aload_n 0, 1) := by decide +kernel
theorem dX11_run_8 : decode cX11_run 8 = .ok (.getfield 68, 3) := by decide +kernel
theorem dX11_run_11 : decode cX11_run 11 = .ok (.invokevirtual 343, 3) := by decide +kernel
theorem dX11_run_14 : decode cX11_run 14 = .ok (.ifCond .eq 7, 3) := by decide +kernel
theorem dX11_run_17 : decode cX11_run 17 = .ok (.iconst 1, 1) := by decide +kernel
theorem dX11_run_18 : decode cX11_run 18 = .ok (.goto 4, 3) := by decide +kernel
theorem dX11_run_21 : decode cX11_run 21 = .ok (.iconst 0, 1) := by decide +kernel
theorem dX11_run_22 : decode cX11_run 22 = .ok (.istore_n 1, 1) := by decide +kernel
theorem dX11_run_23 : decode cX11_run 23 = .ok (.aload_n 0, 1) := by decide +kernel
theorem dX11_run_24 : decode cX11_run 24 = .ok (.getfield 12, 3) := by decide +kernel
theorem dX11_run_27 : decode cX11_run 27 = .ok (.iconst 0, 1) := by decide +kernel
theorem dX11_run_28 : decode cX11_run 28 = .ok (.putfield 130, 3) := by decide +kernel
theorem dX11_run_31 : decode cX11_run 31 = .ok (.iload_n 1, 1) := by decide +kernel
theorem dX11_run_32 : decode cX11_run 32 = .ok (.ifCond .ne 9, 3) := by decide +kernel
theorem dX11_run_35 : decode cX11_run 35 = .ok (.aload_n 0, 1) := by decide +kernel
theorem dX11_run_36 : decode cX11_run 36 = .ok (.iconst 2, 1) := by decide +kernel
theorem dX11_run_37 : decode cX11_run 37 = .ok (.invokevirtual 133, 3) := by decide +kernel
theorem dX11_run_40 : decode cX11_run 40 = .ok (.ireturn, 1) := by decide +kernel
theorem dX11_run_41 : decode cX11_run 41 = .ok (.aload_n 0, 1) := by decide +kernel
theorem dX11_run_42 : decode cX11_run 42 = .ok (.invokevirtual 346, 3) := by decide +kernel
theorem dX11_run_45 : decode cX11_run 45 = .ok (.aload_n 0, 1) := by decide +kernel
theorem dX11_run_46 : decode cX11_run 46 = .ok (.getfield 77, 3) := by decide +kernel
theorem dX11_run_49 : decode cX11_run 49 = .ok (.invokevirtual 349, 3) := by decide +kernel
theorem dX11_run_52 : decode cX11_run 52 = .ok (.ireturn, 1) := by decide +kernel
theorem dX11_see_0 : decode cX11_see 0 = .ok (.aload_n 0, 1) := by decide +kernel
theorem dX11_see_1 : decode cX11_see 1 = .ok (.invokevirtual 224, 3) := by decide +kernel
theorem dX11_see_4 : decode cX11_see 4 = .ok (.ifCond .eq 35, 3) := by decide +kernel
theorem dX11_see_7 : decode cX11_see 7 = .ok (.aload_n 0, 1) := by decide +kernel
theorem dX11_see_8 : decode cX11_see 8 = .ok (.getfield 95, 3) := by decide +kernel
theorem dX11_see_11 : decode cX11_see 11 = .ok (.aload_n 0, 1) := by decide +kernel
theorem dX11_see_12 : decode cX11_see 12 = .ok (.getfield 12, 3) := by decide +kernel
theorem dX11_see_15 : decode cX11_see 15 = .ok (.aload_n 0, 1) := by decide +kernel
theorem dX11_see_16 : decode cX11_see 16 = .ok (.getfield 29, 3) := by decide +kernel
theorem dX11_see_19 : decode cX11_see 19 = .ok (.getfield 170, 3) := by decide +kernel
theorem dX11_see_22 : decode cX11_see 22 = .ok (.aload_n 0, 1) := by decide +kernel
theorem dX11_see_23 : decode cX11_see 23 = .ok (.getfield 19, 3) := by decide +kernel
theorem dX11_see_26 : decode cX11_see 26 = .ok (.getfield 187, 3) := by decide +kernel
theorem dX11_see_29 : decode cX11_see 29 = .ok (.invokevirtual 320, 3) := by decide +kernel
theorem dX11_see_32 : decode cX11_see 32 = .ok (.ifCond .eq 7, 3) := by decide +kernel
theorem dX11_see_35 : decode cX11_see 35 = .ok (.iconst 1, 1) := by decide +kernel
theorem dX11_see_36 : decode cX11_see 36 = .ok (.goto 4, 3) := by decide +kernel
theorem dX11_see_39 : decode cX11_see 39 = .ok (.iconst 0, 1) := by decide +kernel
theorem dX11_see_40 : decode cX11_see 40 = .ok (.istore_n 1, 1) := by decide +kernel
theorem dX11_see_41 : decode cX11_see 41 = .ok (.aload_n 0, 1) := by decide +kernel
theorem dX11_see_42 : decode cX11_see 42 = .ok (.getfield 12, 3) := by decide +kernel
theorem dX11_see_45 : decode cX11_see 45 = .ok (.iconst 0, 1) := by decide +kernel
theorem dX11_see_46 : decode cX11_see 46 = .ok (.putfield 130, 3) := by decide +kernel
theorem dX11_see_49 : decode cX11_see 49 = .ok (.iload_n 1, 1) := by decide +kernel
theorem dX11_see_50 : decode cX11_see 50 = .ok (.ifCond .eq 13, 3) := by decide +kernel
theorem dX11_see_53 : decode cX11_see 53 = .ok (.aload_n 0, 1) := by decide +kernel
theorem dX11_see_54 : decode cX11_see 54 = .ok (.getfield 95, 3) := by decide +kernel
theorem dX11_see_57 : decode cX11_see 57 = .ok (.getfield 158, 3) := by decide +kernel
theorem dX11_see_60 : decode cX11_see 60 = .ok (.goto 8, 3) := by decide +kernel
theorem dX11_see_63 : decode cX11_see 63 = .ok (.aload_n 0, 1) := by decide +kernel
theorem dX11_see_64 : decode cX11_see 64 = .ok (.iconst 1, 1) := by decide +kernel
theorem dX11_see_65 : decode cX11_see 65 = .ok (.invokevirtual 133, 3) := by decide +kernel
theorem dX11_see_68 : decode cX11_see 68 = .ok (.ireturn, 1) := by decide +kernel
theorem dX11_seed_0 : decode cX11_seed 0 = .ok (.iload_n 1, 1) := by decide +kernel
theorem dX11_seed_1 : decode cX11_seed 1 = .ok (.ifCond .ge 10, 3) := by decide +kernel
theorem dX11_seed_4 : decode cX11_seed 4 = .ok (.aload_n 0, 1) := by decide +kernel
theorem dX11_seed_5 : decode cX11_seed 5 = .ok (.bipush 6, 2) := by decide +kernel
theorem dX11_seed_7 : decode cX11_seed 7 = .ok (.invokevirtual 141, 3) := by decide +kernel
theorem dX11_seed_10 : decode cX11_seed 10 = .ok (.ireturn, 1) := by decide +kernel
theorem dX11_seed_11 : decode cX11_seed 11 = .ok (.aload_n 0, 1) := by decide +kernel
theorem dX11_seed_12 : decode cX11_seed 12 = .ok (.getfield 86, 3) := by decide +kernel
theorem dX11_seed_15 : decode cX11_seed 15 = .ok (.iload_n 1, 1) := by decide +kernel
theorem dX11_seed_16 : decode cX11_seed 16 = .ok (.i2l, 1) := by decide +kernel
theorem dX11_seed_17 : decode cX11_seed 17 = .ok (.putfield 368, 3) := by decide +kernel
theorem dX11_seed_20 : decode cX11_seed 20 = .ok (.iconst 1, 1) := by decide +kernel
theorem dX11_seed_21 : decode cX11_seed 21 = .ok (.ireturn, 1) := by decide +kernel
theorem dX11_sortOf_0 : decode cX11_sortOf 0 = .ok (.iload_n 0, 1) := by decide +kernel
theorem dX11_sortOf_1 : decode cX11_sortOf 1 = .ok (.bipush 11, 2) := by decide +kernel
theorem dX11_sortOf_3 : decode cX11_sortOf 3 = .ok (.ishr, 1) := by decide +kernel
theorem dX11_sortOf_4 : decode cX11_sortOf 4 = .ok (.ireturn, 1) := by decide +kernel
theorem dX11_stage_0 : decode cX11_stage 0 = .ok (.aload_n 0, 1) := by decide +kernel
theorem dX11_stage_1 : decode cX11_stage 1 = .ok (.getfield 29, 3) := by decide +kernel
theorem dX11_stage_4 : decode cX11_stage 4 = .ok (.getfield 176, 3) := by decide +kernel
theorem dX11_stage_7 : decode cX11_stage 7 = .ok (.ifCond .ne 6, 3) := by decide +kernel
theorem dX11_stage_10 : decode cX11_stage 10 = .ok (.ldc 199, 2) := by decide +kernel
theorem dX11_stage_12 : decode cX11_stage 12 = .ok (.ireturn, 1) := by decide +kernel
theorem dX11_stage_13 : decode cX11_stage 13 = .ok (.iload_n 1, 1) := by decide +kernel
theorem dX11_stage_14 : decode cX11_stage 14 = .ok (.tableswitch 82 0 3 #[30, 42, 54, 62], 30) := by decide +kernel
theorem dX11_stage_44 : decode cX11_stage 44 = .ok (.aload_n 0, 1) := by decide +kernel
theorem dX11_stage_45 : decode cX11_stage 45 = .ok (.getfield 50, 3) := by decide +kernel
theorem dX11_stage_48 : decode cX11_stage 48 = .ok (.aload_n 0, 1) := by decide +kernel
theorem dX11_stage_49 : decode cX11_stage 49 = .ok (.getfield 29, 3) := by decide +kernel
theorem dX11_stage_52 : decode cX11_stage 52 = .ok (.invokevirtual 209, 3) := by decide +kernel
theorem dX11_stage_55 : decode cX11_stage 55 = .ok (.ireturn, 1) := by decide +kernel
theorem dX11_stage_56 : decode cX11_stage 56 = .ok (.aload_n 0, 1) := by decide +kernel
theorem dX11_stage_57 : decode cX11_stage 57 = .ok (.getfield 50, 3) := by decide +kernel
theorem dX11_stage_60 : decode cX11_stage 60 = .ok (.aload_n 0, 1) := by decide +kernel
theorem dX11_stage_61 : decode cX11_stage 61 = .ok (.getfield 29, 3) := by decide +kernel
theorem dX11_stage_64 : decode cX11_stage 64 = .ok (.invokevirtual 212, 3) := by decide +kernel
theorem dX11_stage_67 : decode cX11_stage 67 = .ok (.ireturn, 1) := by decide +kernel
theorem dX11_stage_68 : decode cX11_stage 68 = .ok (.aload_n 0, 1) := by decide +kernel
theorem dX11_stage_69 : decode cX11_stage 69 = .ok (.getfield 29, 3) := by decide +kernel
theorem dX11_stage_72 : decode cX11_stage 72 = .ok (.getfield 215, 3) := by decide +kernel
theorem dX11_stage_75 : decode cX11_stage 75 = .ok (.ireturn, 1) := by decide +kernel
theorem dX11_stage_76 : decode cX11_stage 76 = .ok (.aload_n 0, 1) := by decide +kernel
theorem dX11_stage_77 : decode cX11_stage 77 = .ok (.getfield 50, 3) := by decide +kernel
theorem dX11_stage_80 : decode cX11_stage 80 = .ok (.aload_n 0, 1) := by decide +kernel
theorem dX11_stage_81 : decode cX11_stage 81 = .ok (.getfield 29, 3) := by decide +kernel
theorem dX11_stage_84 : decode cX11_stage 84 = .ok (.invokevirtual 218, 3) := by decide +kernel
theorem dX11_stage_87 : decode cX11_stage 87 = .ok (.aload_n 0, 1) := by decide +kernel
theorem dX11_stage_88 : decode cX11_stage 88 = .ok (.getfield 29, 3) := by decide +kernel
theorem dX11_stage_91 : decode cX11_stage 91 = .ok (.getfield 215, 3) := by decide +kernel
theorem dX11_stage_94 : decode cX11_stage 94 = .ok (.isub, 1) := by decide +kernel
theorem dX11_stage_95 : decode cX11_stage 95 = .ok (.ireturn, 1) := by decide +kernel
theorem dX11_stage_96 : decode cX11_stage 96 = .ok (.ldc 199, 2) := by decide +kernel
theorem dX11_stage_98 : decode cX11_stage 98 = .ok (.ireturn, 1) := by decide +kernel
theorem dX11_status_0 : decode cX11_status 0 = .ok (.iload_n 1, 1) := by decide +kernel
theorem dX11_status_1 : decode cX11_status 1 = .ok (.ifCond .lt 12, 3) := by decide +kernel
theorem dX11_status_4 : decode cX11_status 4 = .ok (.iload_n 1, 1) := by decide +kernel
theorem dX11_status_5 : decode cX11_status 5 = .ok (.aload_n 0, 1) := by decide +kernel
theorem dX11_status_6 : decode cX11_status 6 = .ok (.getfield 106, 3) := by decide +kernel
theorem dX11_status_9 : decode cX11_status 9 = .ok (.arraylength, 1) := by decide +kernel
theorem dX11_status_10 : decode cX11_status 10 = .ok (.if_icmp .lt 7, 3) := by decide +kernel
theorem dX11_status_13 : decode cX11_status 13 = .ok (.iconst (-1), 1) := by decide +kernel
theorem dX11_status_14 : decode cX11_status 14 = .ok (.goto 9, 3) := by decide +kernel
theorem dX11_status_17 : decode cX11_status 17 = .ok (.aload_n 0, 1) := by decide +kernel
theorem dX11_status_18 : decode cX11_status 18 = .ok (.getfield 106, 3) := by decide +kernel
theorem dX11_status_21 : decode cX11_status 21 = .ok (.iload_n 1, 1) := by decide +kernel
theorem dX11_status_22 : decode cX11_status 22 = .ok (.iaload, 1) := by decide +kernel
theorem dX11_status_23 : decode cX11_status 23 = .ok (.ireturn, 1) := by decide +kernel
theorem dX11_step_0 : decode cX11_step 0 = .ok (.aload_n 0, 1) := by decide +kernel
theorem dX11_step_1 : decode cX11_step 1 = .ok (.getfield 29, 3) := by decide +kernel
theorem dX11_step_4 : decode cX11_step 4 = .ok (.getfield 176, 3) := by decide +kernel
theorem dX11_step_7 : decode cX11_step 7 = .ok (.ifCond .eq 15, 3) := by decide +kernel
theorem dX11_step_10 : decode cX11_step 10 = .ok (.iload_n 1, 1) := by decide +kernel
theorem dX11_step_11 : decode cX11_step 11 = .ok (.iconst 1, 1) := by decide +kernel
theorem dX11_step_12 : decode cX11_step 12 = .ok (.if_icmp .lt 10, 3) := by decide +kernel
theorem dX11_step_15 : decode cX11_step 15 = .ok (.iload_n 1, 1) := by decide +kernel
theorem dX11_step_16 : decode cX11_step 16 = .ok (.sipush 400, 3) := by decide +kernel
theorem dX11_step_19 : decode cX11_step 19 = .ok (.if_icmp .le 9, 3) := by decide +kernel
theorem dX11_step_22 : decode cX11_step 22 = .ok (.aload_n 0, 1) := by decide +kernel
theorem dX11_step_23 : decode cX11_step 23 = .ok (.iconst 3, 1) := by decide +kernel
theorem dX11_step_24 : decode cX11_step 24 = .ok (.invokevirtual 133, 3) := by decide +kernel
theorem dX11_step_27 : decode cX11_step 27 = .ok (.ireturn, 1) := by decide +kernel
theorem dX11_step_28 : decode cX11_step 28 = .ok (.aload_n 0, 1) := by decide +kernel
theorem dX11_step_29 : decode cX11_step 29 = .ok (.invokevirtual 346, 3) := by decide +kernel
theorem dX11_step_32 : decode cX11_step 32 = .ok (.iconst 0, 1) := by decide +kernel
theorem dX11_step_33 : decode cX11_step 33 = .ok (.istore_n 2, 1) := by decide +kernel
theorem dX11_step_34 : decode cX11_step 34 = .ok (.iload_n 2, 1) := by decide +kernel
theorem dX11_step_35 : decode cX11_step 35 = .ok (.iload_n 1, 1) := by decide +kernel
theorem dX11_step_36 : decode cX11_step 36 = .ok (.if_icmp .ge 30, 3) := by decide +kernel
theorem dX11_step_39 : decode cX11_step 39 = .ok (.aload_n 0, 1) := by decide +kernel
theorem dX11_step_40 : decode cX11_step 40 = .ok (.getfield 29, 3) := by decide +kernel
theorem dX11_step_43 : decode cX11_step 43 = .ok (.getfield 176, 3) := by decide +kernel
theorem dX11_step_46 : decode cX11_step 46 = .ok (.ifCond .eq 20, 3) := by decide +kernel
theorem dX11_step_49 : decode cX11_step 49 = .ok (.aload_n 0, 1) := by decide +kernel
theorem dX11_step_50 : decode cX11_step 50 = .ok (.getfield 50, 3) := by decide +kernel
theorem dX11_step_53 : decode cX11_step 53 = .ok (.aload_n 0, 1) := by decide +kernel
theorem dX11_step_54 : decode cX11_step 54 = .ok (.getfield 29, 3) := by decide +kernel
theorem dX11_step_57 : decode cX11_step 57 = .ok (.invokevirtual 362, 3) := by decide +kernel
theorem dX11_step_60 : decode cX11_step 60 = .ok (.iinc 2 1, 3) := by decide +kernel
theorem dX11_step_63 : decode cX11_step 63 = .ok (.goto (-29), 3) := by decide +kernel
theorem dX11_step_66 : decode cX11_step 66 = .ok (.aload_n 0, 1) := by decide +kernel
theorem dX11_step_67 : decode cX11_step 67 = .ok (.getfield 29, 3) := by decide +kernel
theorem dX11_step_70 : decode cX11_step 70 = .ok (.getfield 176, 3) := by decide +kernel
theorem dX11_step_73 : decode cX11_step 73 = .ok (.ifCond .eq 25, 3) := by decide +kernel
theorem dX11_step_76 : decode cX11_step 76 = .ok (.aload_n 0, 1) := by decide +kernel
theorem dX11_step_77 : decode cX11_step 77 = .ok (.getfield 50, 3) := by decide +kernel
theorem dX11_step_80 : decode cX11_step 80 = .ok (.aload_n 0, 1) := by decide +kernel
theorem dX11_step_81 : decode cX11_step 81 = .ok (.getfield 29, 3) := by decide +kernel
theorem dX11_step_84 : decode cX11_step 84 = .ok (.invokevirtual 218, 3) := by decide +kernel
theorem dX11_step_87 : decode cX11_step 87 = .ok (.aload_n 0, 1) := by decide +kernel
theorem dX11_step_88 : decode cX11_step 88 = .ok (.getfield 29, 3) := by decide +kernel
theorem dX11_step_91 : decode cX11_step 91 = .ok (.getfield 215, 3) := by decide +kernel
theorem dX11_step_94 : decode cX11_step 94 = .ok (.isub, 1) := by decide +kernel
theorem dX11_step_95 : decode cX11_step 95 = .ok (.goto 4, 3) := by decide +kernel
theorem dX11_step_98 : decode cX11_step 98 = .ok (.iconst 0, 1) := by decide +kernel
theorem dX11_step_99 : decode cX11_step 99 = .ok (.ireturn, 1) := by decide +kernel
theorem dX11_steps_0 : decode cX11_steps 0 = .ok (.iload_n 1, 1) := by decide +kernel
theorem dX11_steps_1 : decode cX11_steps 1 = .ok (.ifCond .lt 15, 3) := by decide +kernel
theorem dX11_steps_4 : decode cX11_steps 4 = .ok (.iload_n 1, 1) := by decide +kernel
theorem dX11_steps_5 : decode cX11_steps 5 = .ok (.iconst 1, 1) := by decide +kernel
theorem dX11_steps_6 : decode cX11_steps 6 = .ok (.if_icmp .gt 10, 3) := by decide +kernel
theorem dX11_steps_9 : decode cX11_steps 9 = .ok (.aload_n 0, 1) := by decide +kernel
theorem dX11_steps_10 : decode cX11_steps 10 = .ok (.invokevirtual 224, 3) := by decide +kernel
theorem dX11_steps_13 : decode cX11_steps 13 = .ok (.ifCond .ne 5, 3) := by decide +kernel
theorem dX11_steps_16 : decode cX11_steps 16 = .ok (.iconst (-1), 1) := by decide +kernel
theorem dX11_steps_17 : decode cX11_steps 17 = .ok (.ireturn, 1) := by decide +kernel
theorem dX11_steps_18 : decode cX11_steps 18 = .ok (.aload_n 0, 1) := by decide +kernel
theorem dX11_steps_19 : decode cX11_steps 19 = .ok (.getfield 50, 3) := by decide +kernel
theorem dX11_steps_22 : decode cX11_steps 22 = .ok (.aload_n 0, 1) := by decide +kernel
theorem dX11_steps_23 : decode cX11_steps 23 = .ok (.getfield 29, 3) := by decide +kernel
theorem dX11_steps_26 : decode cX11_steps 26 = .ok (.invokevirtual 243, 3) := by decide +kernel
theorem dX11_steps_29 : decode cX11_steps 29 = .ok (.aload_n 0, 1) := by decide +kernel
theorem dX11_steps_30 : decode cX11_steps 30 = .ok (.getfield 50, 3) := by decide +kernel
theorem dX11_steps_33 : decode cX11_steps 33 = .ok (.aload_n 0, 1) := by decide +kernel
theorem dX11_steps_34 : decode cX11_steps 34 = .ok (.getfield 29, 3) := by decide +kernel
theorem dX11_steps_37 : decode cX11_steps 37 = .ok (.iload_n 1, 1) := by decide +kernel
theorem dX11_steps_38 : decode cX11_steps 38 = .ok (.invokevirtual 290, 3) := by decide +kernel
theorem dX11_steps_41 : decode cX11_steps 41 = .ok (.ireturn, 1) := by decide +kernel
theorem dX11_tells_0 : decode cX11_tells 0 = .ok (.aload_n 0, 1) := by decide +kernel
theorem dX11_tells_1 : decode cX11_tells 1 = .ok (.invokevirtual 224, 3) := by decide +kernel
theorem dX11_tells_4 : decode cX11_tells 4 = .ok (.ifCond .eq 12, 3) := by decide +kernel
theorem dX11_tells_7 : decode cX11_tells 7 = .ok (.iload_n 1, 1) := by decide +kernel
theorem dX11_tells_8 : decode cX11_tells 8 = .ok (.ifCond .lt 8, 3) := by decide +kernel
theorem dX11_tells_11 : decode cX11_tells 11 = .ok (.iload_n 1, 1) := by decide +kernel
theorem dX11_tells_12 : decode cX11_tells 12 = .ok (.iconst 1, 1) := by decide +kernel
theorem dX11_tells_13 : decode cX11_tells 13 = .ok (.if_icmp .le 5, 3) := by decide +kernel
theorem dX11_tells_16 : decode cX11_tells 16 = .ok (.iconst (-1), 1) := by decide +kernel
theorem dX11_tells_17 : decode cX11_tells 17 = .ok (.ireturn, 1) := by decide +kernel
theorem dX11_tells_18 : decode cX11_tells 18 = .ok (.aload_n 0, 1) := by decide +kernel
theorem dX11_tells_19 : decode cX11_tells 19 = .ok (.getfield 95, 3) := by decide +kernel
theorem dX11_tells_22 : decode cX11_tells 22 = .ok (.aload_n 0, 1) := by decide +kernel
theorem dX11_tells_23 : decode cX11_tells 23 = .ok (.getfield 29, 3) := by decide +kernel
theorem dX11_tells_26 : decode cX11_tells 26 = .ok (.iconst 1, 1) := by decide +kernel
theorem dX11_tells_27 : decode cX11_tells 27 = .ok (.invokevirtual 324, 3) := by decide +kernel
theorem dX11_tells_30 : decode cX11_tells 30 = .ok (.aload_n 0, 1) := by decide +kernel
theorem dX11_tells_31 : decode cX11_tells 31 = .ok (.getfield 95, 3) := by decide +kernel
theorem dX11_tells_34 : decode cX11_tells 34 = .ok (.aload_n 0, 1) := by decide +kernel
theorem dX11_tells_35 : decode cX11_tells 35 = .ok (.getfield 29, 3) := by decide +kernel
theorem dX11_tells_38 : decode cX11_tells 38 = .ok (.getfield 170, 3) := by decide +kernel
theorem dX11_tells_41 : decode cX11_tells 41 = .ok (.invokevirtual 334, 3) := by decide +kernel
theorem dX11_tells_44 : decode cX11_tells 44 = .ok (.iload_n 1, 1) := by decide +kernel
theorem dX11_tells_45 : decode cX11_tells 45 = .ok (.ifCond .ne 13, 3) := by decide +kernel
theorem dX11_tells_48 : decode cX11_tells 48 = .ok (.aload_n 0, 1) := by decide +kernel
theorem dX11_tells_49 : decode cX11_tells 49 = .ok (.getfield 95, 3) := by decide +kernel
theorem dX11_tells_52 : decode cX11_tells 52 = .ok (.getfield 337, 3) := by decide +kernel
theorem dX11_tells_55 : decode cX11_tells 55 = .ok (.goto 10, 3) := by decide +kernel
theorem dX11_tells_58 : decode cX11_tells 58 = .ok (.aload_n 0, 1) := by decide +kernel
theorem dX11_tells_59 : decode cX11_tells 59 = .ok (.getfield 95, 3) := by decide +kernel
theorem dX11_tells_62 : decode cX11_tells 62 = .ok (.getfield 340, 3) := by decide +kernel
theorem dX11_tells_65 : decode cX11_tells 65 = .ok (.ireturn, 1) := by decide +kernel
theorem dX11_then_0 : decode cX11_then 0 = .ok (.aload_n 0, 1) := by decide +kernel
theorem dX11_then_1 : decode cX11_then 1 = .ok (.invokevirtual 224, 3) := by decide +kernel
theorem dX11_then_4 : decode cX11_then 4 = .ok (.ifCond .eq 8, 3) := by decide +kernel
theorem dX11_then_7 : decode cX11_then 7 = .ok (.iload_n 1, 1) := by decide +kernel
theorem dX11_then_8 : decode cX11_then 8 = .ok (.iconst (-1), 1) := by decide +kernel
theorem dX11_then_9 : decode cX11_then 9 = .ok (.if_icmp .ge 5, 3) := by decide +kernel
theorem dX11_then_12 : decode cX11_then 12 = .ok (.iconst (-1), 1) := by decide +kernel
theorem dX11_then_13 : decode cX11_then 13 = .ok (.ireturn, 1) := by decide +kernel
theorem dX11_then_14 : decode cX11_then 14 = .ok (.aload_n 0, 1) := by decide +kernel
theorem dX11_then_15 : decode cX11_then 15 = .ok (.getfield 95, 3) := by decide +kernel
theorem dX11_then_18 : decode cX11_then 18 = .ok (.aload_n 0, 1) := by decide +kernel
theorem dX11_then_19 : decode cX11_then 19 = .ok (.getfield 29, 3) := by decide +kernel
theorem dX11_then_22 : decode cX11_then 22 = .ok (.iconst 0, 1) := by decide +kernel
theorem dX11_then_23 : decode cX11_then 23 = .ok (.invokevirtual 324, 3) := by decide +kernel
theorem dX11_then_26 : decode cX11_then 26 = .ok (.iload_n 1, 1) := by decide +kernel
theorem dX11_then_27 : decode cX11_then 27 = .ok (.iconst (-1), 1) := by decide +kernel
theorem dX11_then_28 : decode cX11_then 28 = .ok (.if_icmp .ne 11, 3) := by decide +kernel
theorem dX11_then_31 : decode cX11_then 31 = .ok (.aload_n 0, 1) := by decide +kernel
theorem dX11_then_32 : decode cX11_then 32 = .ok (.getfield 95, 3) := by decide +kernel
theorem dX11_then_35 : decode cX11_then 35 = .ok (.getfield 328, 3) := by decide +kernel
theorem dX11_then_38 : decode cX11_then 38 = .ok (.ireturn, 1) := by decide +kernel
theorem dX11_then_39 : decode cX11_then 39 = .ok (.iload_n 1, 1) := by decide +kernel
theorem dX11_then_40 : decode cX11_then 40 = .ok (.aload_n 0, 1) := by decide +kernel
theorem dX11_then_41 : decode cX11_then 41 = .ok (.getfield 95, 3) := by decide +kernel
theorem dX11_then_44 : decode cX11_then 44 = .ok (.getfield 328, 3) := by decide +kernel
theorem dX11_then_47 : decode cX11_then 47 = .ok (.if_icmp .lt 7, 3) := by decide +kernel
theorem dX11_then_50 : decode cX11_then 50 = .ok (.iconst (-1), 1) := by decide +kernel
theorem dX11_then_51 : decode cX11_then 51 = .ok (.goto 12, 3) := by decide +kernel
theorem dX11_then_54 : decode cX11_then 54 = .ok (.aload_n 0, 1) := by decide +kernel
theorem dX11_then_55 : decode cX11_then 55 = .ok (.getfield 95, 3) := by decide +kernel
theorem dX11_then_58 : decode cX11_then 58 = .ok (.getfield 331, 3) := by decide +kernel
theorem dX11_then_61 : decode cX11_then 61 = .ok (.iload_n 1, 1) := by decide +kernel
theorem dX11_then_62 : decode cX11_then 62 = .ok (.iaload, 1) := by decide +kernel
theorem dX11_then_63 : decode cX11_then 63 = .ok (.ireturn, 1) := by decide +kernel
theorem dX11_undo_0 : decode cX11_undo 0 = .ok (.aload_n 0, 1) := by decide +kernel
theorem dX11_undo_1 : decode cX11_undo 1 = .ok (.getfield 114, 3) := by decide +kernel
theorem dX11_undo_4 : decode cX11_undo 4 = .ok (.ifCond .ne 9, 3) := by decide +kernel
theorem dX11_undo_7 : decode cX11_undo 7 = .ok (.aload_n 0, 1) := by decide +kernel
theorem dX11_undo_8 : decode cX11_undo 8 = .ok (.iconst 5, 1) := by decide +kernel
theorem dX11_undo_9 : decode cX11_undo 9 = .ok (.invokevirtual 141, 3) := by decide +kernel
theorem dX11_undo_12 : decode cX11_undo 12 = .ok (.ireturn, 1) := by decide +kernel
theorem dX11_undo_13 : decode cX11_undo 13 = .ok (.aload_n 0, 1) := by decide +kernel
theorem dX11_undo_14 : decode cX11_undo 14 = .ok (.aload_n 0, 1) := by decide +kernel
theorem dX11_undo_15 : decode cX11_undo 15 = .ok (.getfield 118, 3) := by decide +kernel
theorem dX11_undo_18 : decode cX11_undo 18 = .ok (.bipush 20, 2) := by decide +kernel
theorem dX11_undo_20 : decode cX11_undo 20 = .ok (.iadd, 1) := by decide +kernel
theorem dX11_undo_21 : decode cX11_undo 21 = .ok (.iconst 1, 1) := by decide +kernel
theorem dX11_undo_22 : decode cX11_undo 22 = .ok (.isub, 1) := by decide +kernel
theorem dX11_undo_23 : decode cX11_undo 23 = .ok (.bipush 20, 2) := by decide +kernel
theorem dX11_undo_25 : decode cX11_undo 25 = .ok (.irem, 1) := by decide +kernel
theorem dX11_undo_26 : decode cX11_undo 26 = .ok (.putfield 118, 3) := by decide +kernel
theorem dX11_undo_29 : decode cX11_undo 29 = .ok (.aload_n 0, 1) := by decide +kernel
theorem dX11_undo_30 : decode cX11_undo 30 = .ok (.dup, 1) := by decide +kernel
theorem dX11_undo_31 : decode cX11_undo 31 = .ok (.getfield 114, 3) := by decide +kernel
theorem dX11_undo_34 : decode cX11_undo 34 = .ok (.iconst 1, 1) := by decide +kernel
theorem dX11_undo_35 : decode cX11_undo 35 = .ok (.isub, 1) := by decide +kernel
theorem dX11_undo_36 : decode cX11_undo 36 = .ok (.putfield 114, 3) := by decide +kernel
theorem dX11_undo_39 : decode cX11_undo 39 = .ok (.aload_n 0, 1) := by decide +kernel
theorem dX11_undo_40 : decode cX11_undo 40 = .ok (.getfield 29, 3) := by decide +kernel
theorem dX11_undo_43 : decode cX11_undo 43 = .ok (.aload_n 0, 1) := by decide +kernel
theorem dX11_undo_44 : decode cX11_undo 44 = .ok (.getfield 110, 3) := by decide +kernel
theorem dX11_undo_47 : decode cX11_undo 47 = .ok (.aload_n 0, 1) := by decide +kernel
theorem dX11_undo_48 : decode cX11_undo 48 = .ok (.getfield 118, 3) := by decide +kernel
theorem dX11_undo_51 : decode cX11_undo 51 = .ok (.aaload, 1) := by decide +kernel
theorem dX11_undo_52 : decode cX11_undo 52 = .ok (.invokevirtual 152, 3) := by decide +kernel
theorem dX11_undo_55 : decode cX11_undo 55 = .ok (.iconst 1, 1) := by decide +kernel
theorem dX11_undo_56 : decode cX11_undo 56 = .ok (.ireturn, 1) := by decide +kernel
theorem dX11_way_0 : decode cX11_way 0 = .ok (.iload_n 2, 1) := by decide +kernel
theorem dX11_way_1 : decode cX11_way 1 = .ok (.ifCond .lt 11, 3) := by decide +kernel
theorem dX11_way_4 : decode cX11_way 4 = .ok (.aload_n 0, 1) := by decide +kernel
theorem dX11_way_5 : decode cX11_way 5 = .ok (.iload_n 1, 1) := by decide +kernel
theorem dX11_way_6 : decode cX11_way 6 = .ok (.invokevirtual 234, 3) := by decide +kernel
theorem dX11_way_9 : decode cX11_way 9 = .ok (.ifCond .ne 5, 3) := by decide +kernel
theorem dX11_way_12 : decode cX11_way 12 = .ok (.iconst (-1), 1) := by decide +kernel
theorem dX11_way_13 : decode cX11_way 13 = .ok (.ireturn, 1) := by decide +kernel
theorem dX11_way_14 : decode cX11_way 14 = .ok (.aload_n 0, 1) := by decide +kernel
theorem dX11_way_15 : decode cX11_way 15 = .ok (.getfield 41, 3) := by decide +kernel
theorem dX11_way_18 : decode cX11_way 18 = .ok (.aload_n 0, 1) := by decide +kernel
theorem dX11_way_19 : decode cX11_way 19 = .ok (.getfield 41, 3) := by decide +kernel
theorem dX11_way_22 : decode cX11_way 22 = .ok (.iload_n 1, 1) := by decide +kernel
theorem dX11_way_23 : decode cX11_way 23 = .ok (.invokevirtual 302, 3) := by decide +kernel
theorem dX11_way_26 : decode cX11_way 26 = .ok (.iload_n 2, 1) := by decide +kernel
theorem dX11_way_27 : decode cX11_way 27 = .ok (.invokevirtual 305, 3) := by decide +kernel
theorem dX11_way_30 : decode cX11_way 30 = .ok (.ireturn, 1) := by decide +kernel
theorem dX11_word_0 : decode cX11_word 0 = .ok (.iload_n 1, 1) := by decide +kernel
theorem dX11_word_1 : decode cX11_word 1 = .ok (.bipush (-8), 2) := by decide +kernel
theorem dX11_word_3 : decode cX11_word 3 = .ok (.if_icmp .lt 24, 3) := by decide +kernel
theorem dX11_word_6 : decode cX11_word 6 = .ok (.iload_n 1, 1) := by decide +kernel
theorem dX11_word_7 : decode cX11_word 7 = .ok (.aload_n 0, 1) := by decide +kernel
theorem dX11_word_8 : decode cX11_word 8 = .ok (.getfield 29, 3) := by decide +kernel
theorem dX11_word_11 : decode cX11_word 11 = .ok (.getfield 170, 3) := by decide +kernel
theorem dX11_word_14 : decode cX11_word 14 = .ok (.if_icmp .ge 13, 3) := by decide +kernel
theorem dX11_word_17 : decode cX11_word 17 = .ok (.aload_n 0, 1) := by decide +kernel
theorem dX11_word_18 : decode cX11_word 18 = .ok (.getfield 29, 3) := by decide +kernel
theorem dX11_word_21 : decode cX11_word 21 = .ok (.getfield 170, 3) := by decide +kernel
theorem dX11_word_24 : decode cX11_word 24 = .ok (.ifCond .ne 6, 3) := by decide +kernel
theorem dX11_word_27 : decode cX11_word 27 = .ok (.ldc 199, 2) := by decide +kernel
theorem dX11_word_29 : decode cX11_word 29 = .ok (.ireturn, 1) := by decide +kernel
theorem dX11_word_30 : decode cX11_word 30 = .ok (.aload_n 0, 1) := by decide +kernel
theorem dX11_word_31 : decode cX11_word 31 = .ok (.getfield 29, 3) := by decide +kernel
theorem dX11_word_34 : decode cX11_word 34 = .ok (.iload_n 1, 1) := by decide +kernel
theorem dX11_word_35 : decode cX11_word 35 = .ok (.invokevirtual 200, 3) := by decide +kernel
theorem dX11_word_38 : decode cX11_word 38 = .ok (.istore_n 3, 1) := by decide +kernel
theorem dX11_word_39 : decode cX11_word 39 = .ok (.iload_n 2, 1) := by decide +kernel
theorem dX11_word_40 : decode cX11_word 40 = .ok (.ifCond .ne 10, 3) := by decide +kernel
theorem dX11_word_43 : decode cX11_word 43 = .ok (.iload_n 3, 1) := by decide +kernel
theorem dX11_word_44 : decode cX11_word 44 = .ok (.invokestatic 203, 3) := by decide +kernel
theorem dX11_word_47 : decode cX11_word 47 = .ok (.goto 17, 3) := by decide +kernel
theorem dX11_word_50 : decode cX11_word 50 = .ok (.iload_n 2, 1) := by decide +kernel
theorem dX11_word_51 : decode cX11_word 51 = .ok (.iconst 1, 1) := by decide +kernel
theorem dX11_word_52 : decode cX11_word 52 = .ok (.if_icmp .ne 10, 3) := by decide +kernel
theorem dX11_word_55 : decode cX11_word 55 = .ok (.iload_n 3, 1) := by decide +kernel
theorem dX11_word_56 : decode cX11_word 56 = .ok (.invokestatic 206, 3) := by decide +kernel
theorem dX11_word_59 : decode cX11_word 59 = .ok (.goto 5, 3) := by decide +kernel
theorem dX11_word_62 : decode cX11_word 62 = .ok (.ldc 199, 2) := by decide +kernel
theorem dX11_word_64 : decode cX11_word 64 = .ok (.ireturn, 1) := by decide +kernel
theorem dX12_actGoes_0 : decode cX12_actGoes 0 = .ok (.aload_n 0, 1) := by decide +kernel
theorem dX12_actGoes_1 : decode cX12_actGoes 1 = .ok (.getfield 188, 3) := by decide +kernel
theorem dX12_actGoes_4 : decode cX12_actGoes 4 = .ok (.istore_n 1, 1) := by decide +kernel
theorem dX12_actGoes_5 : decode cX12_actGoes 5 = .ok (.aload_n 0, 1) := by decide +kernel
theorem dX12_actGoes_6 : decode cX12_actGoes 6 = .ok (.bipush 93, 2) := by decide +kernel
theorem dX12_actGoes_8 : decode cX12_actGoes 8 = .ok (.invokevirtual 218, 3) := by decide +kernel
theorem dX12_actGoes_11 : decode cX12_actGoes 11 = .ok (.ifCond .eq 10, 3) := by decide +kernel
theorem dX12_actGoes_14 : decode cX12_actGoes 14 = .ok (.aload_n 0, 1) := by decide +kernel
theorem dX12_actGoes_15 : decode cX12_actGoes 15 = .ok (.invokevirtual 649, 3) := by decide +kernel
theorem dX12_actGoes_18 : decode cX12_actGoes 18 = .ok (.goto 78, 3) := by decide +kernel
theorem dX12_actGoes_21 : decode cX12_actGoes 21 = .ok (.aload_n 0, 1) := by decide +kernel
theorem dX12_actGoes_22 : decode cX12_actGoes 22 = .ok (.aload_n 0, 1) := by decide +kernel
theorem dX12_actGoes_23 : decode cX12_actGoes 23 = .ok (.getfield 54, 3) := by decide +kernel
theorem dX12_actGoes_26 : decode cX12_actGoes 26 = .ok (.invokevirtual 211, 3) := by decide +kernel
theorem dX12_actGoes_29 : decode cX12_actGoes 29 = .ok (.ifCond .eq 24, 3) := by decide +kernel
theorem dX12_actGoes_32 : decode cX12_actGoes 32 = .ok (.aload_n 0, 1) := by decide +kernel
theorem dX12_actGoes_33 : decode cX12_actGoes 33 = .ok (.iload_n 1, 1) := by decide +kernel
theorem dX12_actGoes_34 : decode cX12_actGoes 34 = .ok (.invokevirtual 604, 3) := by decide +kernel
theorem dX12_actGoes_37 : decode cX12_actGoes 37 = .ok (.ifCond .eq 7, 3) := by decide +kernel
theorem dX12_actGoes_40 : decode cX12_actGoes 40 = .ok (.aload_n 0, 1) := by decide +kernel
theorem dX12_actGoes_41 : decode cX12_actGoes 41 = .ok (.invokevirtual 547, 3) := by decide +kernel
theorem dX12_actGoes_44 : decode cX12_actGoes 44 = .ok (.aload_n 0, 1) := by decide +kernel
theorem dX12_actGoes_45 : decode cX12_actGoes 45 = .ok (.bipush 59, 2) := by decide +kernel
theorem dX12_actGoes_47 : decode cX12_actGoes 47 = .ok (.invokevirtual 290, 3) := by decide +kernel
theorem dX12_actGoes_50 : decode cX12_actGoes 50 = .ok (.goto 46, 3) := by decide +kernel
theorem dX12_actGoes_53 : decode cX12_actGoes 53 = .ok (.aload_n 0, 1) := by decide +kernel
theorem dX12_actGoes_54 : decode cX12_actGoes 54 = .ok (.aload_n 0, 1) := by decide +kernel
theorem dX12_actGoes_55 : decode cX12_actGoes 55 = .ok (.getfield 57, 3) := by decide +kernel
theorem dX12_actGoes_58 : decode cX12_actGoes 58 = .ok (.invokevirtual 211, 3) := by decide +kernel
theorem dX12_actGoes_61 : decode cX12_actGoes 61 = .ok (.ifCond .eq 11, 3) := by decide +kernel
theorem dX12_actGoes_64 : decode cX12_actGoes 64 = .ok (.aload_n 0, 1) := by decide +kernel
theorem dX12_actGoes_65 : decode cX12_actGoes 65 = .ok (.iload_n 1, 1) := by decide +kernel
theorem dX12_actGoes_66 : decode cX12_actGoes 66 = .ok (.invokevirtual 652, 3) := by decide +kernel
theorem dX12_actGoes_69 : decode cX12_actGoes 69 = .ok (.goto 27, 3) := by decide +kernel
theorem dX12_actGoes_72 : decode cX12_actGoes 72 = .ok (.aload_n 0, 1) := by decide +kernel
theorem dX12_actGoes_73 : decode cX12_actGoes 73 = .ok (.aload_n 0, 1) := by decide +kernel
theorem dX12_actGoes_74 : decode cX12_actGoes 74 = .ok (.getfield 60, 3) := by decide +kernel
theorem dX12_actGoes_77 : decode cX12_actGoes 77 = .ok (.invokevirtual 211, 3) := by decide +kernel
theorem dX12_actGoes_80 : decode cX12_actGoes 80 = .ok (.ifCond .eq 11, 3) := by decide +kernel
theorem dX12_actGoes_83 : decode cX12_actGoes 83 = .ok (.aload_n 0, 1) := by decide +kernel
theorem dX12_actGoes_84 : decode cX12_actGoes 84 = .ok (.iload_n 1, 1) := by decide +kernel
theorem dX12_actGoes_85 : decode cX12_actGoes 85 = .ok (.invokevirtual 655, 3) := by decide +kernel
theorem dX12_actGoes_88 : decode cX12_actGoes 88 = .ok (.goto 8, 3) := by decide +kernel
theorem dX12_actGoes_91 : decode cX12_actGoes 91 = .ok (.aload_n 0, 1) := by decide +kernel
theorem dX12_actGoes_92 : decode cX12_actGoes 92 = .ok (.iload_n 1, 1) := by decide +kernel
theorem dX12_actGoes_93 : decode cX12_actGoes 93 = .ok (.invokevirtual 658, 3) := by decide +kernel
theorem dX12_actGoes_96 : decode cX12_actGoes 96 = .ok (.return_, 1) := by decide +kernel
theorem dX12_actTold_0 : decode cX12_actTold 0 = .ok (.aload_n 0, 1) := by decide +kernel
theorem dX12_actTold_1 : decode cX12_actTold 1 = .ok (.getfield 583, 3) := by decide +kernel
theorem dX12_actTold_4 : decode cX12_actTold 4 = .ok (.ifCond .le 25, 3) := by decide +kernel
theorem dX12_actTold_7 : decode cX12_actTold 7 = .ok (.aload_n 0, 1) := by decide +kernel
theorem dX12_actTold_8 : decode cX12_actTold 8 = .ok (.bipush 93, 2) := by decide +kernel
theorem dX12_actTold_10 : decode cX12_actTold 10 = .ok (.invokevirtual 218, 3) := by decide +kernel
theorem dX12_actTold_13 : decode cX12_actTold 13 = .ok (.ifCond .eq 16, 3) := by decide +kernel
theorem dX12_actTold_16 : decode cX12_actTold 16 = .ok (.aload_n 0, 1) := by decide +kernel
theorem dX12_actTold_17 : decode cX12_actTold 17 = .ok (.dup, 1) := by decide +kernel
theorem dX12_actTold_18 : decode cX12_actTold 18 = .ok (.getfield 583, 3) := by decide +kernel
theorem dX12_actTold_21 : decode cX12_actTold 21 = .ok (.iconst 1, 1) := by decide +kernel
theorem dX12_actTold_22 : decode cX12_actTold 22 = .ok (.isub, 1) := by decide +kernel
theorem dX12_actTold_23 : decode cX12_actTold 23 = .ok (.putfield 583, 3) := by decide +kernel
theorem dX12_actTold_26 : decode cX12_actTold 26 = .ok (.goto 120, 3) := by decide +kernel
theorem dX12_actTold_29 : decode cX12_actTold 29 = .ok (.aload_n 0, 1) := by decide +kernel
theorem dX12_actTold_30 : decode cX12_actTold 30 = .ok (.aload_n 0, 1) := by decide +kernel
theorem dX12_actTold_31 : decode cX12_actTold 31 = .ok (.getfield 54, 3) := by decide +kernel
theorem dX12_actTold_34 : decode cX12_actTold 34 = .ok (.invokevirtual 211, 3) := by decide +kernel
theorem dX12_actTold_37 : decode cX12_actTold 37 = .ok (.ifCond .eq 12, 3) := by decide +kernel
theorem dX12_actTold_40 : decode cX12_actTold 40 = .ok (.aload_n 0, 1) := by decide +kernel
theorem dX12_actTold_41 : decode cX12_actTold 41 = .ok (.bipush 59, 2) := by decide +kernel
theorem dX12_actTold_43 : decode cX12_actTold 43 = .ok (.invokevirtual 290, 3) := by decide +kernel
theorem dX12_actTold_46 : decode cX12_actTold 46 = .ok (.goto 100, 3) := by decide +kernel
theorem dX12_actTold_49 : decode cX12_actTold 49 = .ok (.aload_n 0, 1) := by decide +kernel
theorem dX12_actTold_50 : decode cX12_actTold 50 = .ok (.aload_n 0, 1) := by decide +kernel
theorem dX12_actTold_51 : decode cX12_actTold 51 = .ok (.getfield 57, 3) := by decide +kernel
theorem dX12_actTold_54 : decode cX12_actTold 54 = .ok (.invokevirtual 211, 3) := by decide +kernel
theorem dX12_actTold_57 : decode cX12_actTold 57 = .ok (.ifCond .eq 18, 3) := by decide +kernel
theorem dX12_actTold_60 : decode cX12_actTold 60 = .ok (.aload_n 0, 1) := by decide +kernel
theorem dX12_actTold_61 : decode cX12_actTold 61 = .ok (.iconst 0, 1) := by decide +kernel
theorem dX12_actTold_62 : decode cX12_actTold 62 = .ok (.bipush 99, 2) := by decide +kernel
theorem dX12_actTold_64 : decode cX12_actTold 64 = .ok (.invokevirtual 276, 3) := by decide +kernel
theorem dX12_actTold_67 : decode cX12_actTold 67 = .ok (.pop, 1) := by decide +kernel
theorem dX12_actTold_68 : decode cX12_actTold 68 = .ok (.aload_n 0, 1) := by decide +kernel
theorem dX12_actTold_69 : decode cX12_actTold 69 = .ok (.invokevirtual 586, 3) := by decide +kernel
theorem dX12_actTold_72 : decode cX12_actTold 72 = .ok (.goto 74, 3) := by decide +kernel
theorem dX12_actTold_75 : decode cX12_actTold 75 = .ok (.aload_n 0, 1) := by decide +kernel
theorem dX12_actTold_76 : decode cX12_actTold 76 = .ok (.aload_n 0, 1) := by decide +kernel
theorem dX12_actTold_77 : decode cX12_actTold 77 = .ok (.getfield 60, 3) := by decide +kernel
theorem dX12_actTold_80 : decode cX12_actTold 80 = .ok (.invokevirtual 211, 3) := by decide +kernel
theorem dX12_actTold_83 : decode cX12_actTold 83 = .ok (.ifCond .eq 24, 3) := by decide +kernel
theorem dX12_actTold_86 : decode cX12_actTold 86 = .ok (.aload_n 0, 1) := by decide +kernel
theorem dX12_actTold_87 : decode cX12_actTold 87 = .ok (.invokevirtual 589, 3) := by decide +kernel
theorem dX12_actTold_90 : decode cX12_actTold 90 = .ok (.aload_n 0, 1) := by decide +kernel
theorem dX12_actTold_91 : decode cX12_actTold 91 = .ok (.bipush 61, 2) := by decide +kernel
theorem dX12_actTold_93 : decode cX12_actTold 93 = .ok (.invokevirtual 290, 3) := by decide +kernel
theorem dX12_actTold_96 : decode cX12_actTold 96 = .ok (.aload_n 0, 1) := by decide +kernel
theorem dX12_actTold_97 : decode cX12_actTold 97 = .ok (.invokevirtual 589, 3) := by decide +kernel
theorem dX12_actTold_100 : decode cX12_actTold 100 = .ok (.aload_n 0, 1) := by decide +kernel
theorem dX12_actTold_101 : decode cX12_actTold 101 = .ok (.invokevirtual 586, 3) := by decide +kernel
theorem dX12_actTold_104 : decode cX12_actTold 104 = .ok (.goto 42, 3) := by decide +kernel
theorem dX12_actTold_107 : decode cX12_actTold 107 = .ok (.aload_n 0, 1) := by decide +kernel
theorem dX12_actTold_108 : decode cX12_actTold 108 = .ok (.invokevirtual 580, 3) := by decide +kernel
theorem dX12_actTold_111 : decode cX12_actTold 111 = .ok (.aload_n 0, 1) := by decide +kernel
theorem dX12_actTold_112 : decode cX12_actTold 112 = .ok (.bipush 61, 2) := by decide +kernel
theorem dX12_actTold_114 : decode cX12_actTold 114 = .ok (.invokevirtual 290, 3) := by decide +kernel
theorem dX12_actTold_117 : decode cX12_actTold 117 = .ok (.aload_n 0, 1) := by decide +kernel
theorem dX12_actTold_118 : decode cX12_actTold 118 = .ok (.aload_n 0, 1) := by decide +kernel
theorem dX12_actTold_119 : decode cX12_actTold 119 = .ok (.getfield 51, 3) := by decide +kernel
theorem dX12_actTold_122 : decode cX12_actTold 122 = .ok (.invokevirtual 211, 3) := by decide +kernel
theorem dX12_actTold_125 : decode cX12_actTold 125 = .ok (.ifCond .eq 11, 3) := by decide +kernel
theorem dX12_actTold_128 : decode cX12_actTold 128 = .ok (.aload_n 0, 1) := by decide +kernel
theorem dX12_actTold_129 : decode cX12_actTold 129 = .ok (.invokevirtual 592, 3) := by decide +kernel
theorem dX12_actTold_132 : decode cX12_actTold 132 = .ok (.pop, 1) := by decide +kernel
theorem dX12_actTold_133 : decode cX12_actTold 133 = .ok (.goto 7, 3) := by decide +kernel
theorem dX12_actTold_136 : decode cX12_actTold 136 = .ok (.aload_n 0, 1) := by decide +kernel
theorem dX12_actTold_137 : decode cX12_actTold 137 = .ok (.invokevirtual 589, 3) := by decide +kernel
theorem dX12_actTold_140 : decode cX12_actTold 140 = .ok (.aload_n 0, 1) := by decide +kernel
theorem dX12_actTold_141 : decode cX12_actTold 141 = .ok (.bipush 59, 2) := by decide +kernel
theorem dX12_actTold_143 : decode cX12_actTold 143 = .ok (.invokevirtual 290, 3) := by decide +kernel
theorem dX12_actTold_146 : decode cX12_actTold 146 = .ok (.return_, 1) := by decide +kernel
theorem dX12_alike_0 : decode cX12_alike 0 = .ok (.aload_n 0, 1) := by decide +kernel
theorem dX12_alike_1 : decode cX12_alike 1 = .ok (.getfield 337, 3) := by decide +kernel
theorem dX12_alike_4 : decode cX12_alike 4 = .ok (.ifCond .eq 10, 3) := by decide +kernel
theorem dX12_alike_7 : decode cX12_alike 7 = .ok (.aload_n 0, 1) := by decide +kernel
theorem dX12_alike_8 : decode cX12_alike 8 = .ok (.invokevirtual 452, 3) := by decide +kernel
theorem dX12_alike_11 : decode cX12_alike 11 = .ok (.ifCond .ne 5, 3) := by decide +kernel
theorem dX12_alike_14 : decode cX12_alike 14 = .ok (.iconst (-1), 1) := by decide +kernel
theorem dX12_alike_15 : decode cX12_alike 15 = .ok (.ireturn, 1) := by decide +kernel
theorem dX12_alike_16 : decode cX12_alike 16 = .ok (.aload_n 0, 1) := by decide +kernel
theorem dX12_alike_17 : decode cX12_alike 17 = .ok (.invokevirtual 502, 3) := by decide +kernel
theorem dX12_alike_20 : decode cX12_alike 20 = .ok (.aload_n 0, 1) := by decide +kernel
theorem dX12_alike_21 : decode cX12_alike 21 = .ok (.getfield 493, 3) := by decide +kernel
theorem dX12_alike_24 : decode cX12_alike 24 = .ok (.aload_n 0, 1) := by decide +kernel
theorem dX12_alike_25 : decode cX12_alike 25 = .ok (.getfield 505, 3) := by decide +kernel
theorem dX12_alike_28 : decode cX12_alike 28 = .ok (.if_icmp .eq 5, 3) := by decide +kernel
theorem dX12_alike_31 : decode cX12_alike 31 = .ok (.iconst 0, 1) := by decide +kernel
theorem dX12_alike_32 : decode cX12_alike 32 = .ok (.ireturn, 1) := by decide +kernel
theorem dX12_alike_33 : decode cX12_alike 33 = .ok (.iconst 0, 1) := by decide +kernel
theorem dX12_alike_34 : decode cX12_alike 34 = .ok (.istore_n 1, 1) := by decide +kernel
theorem dX12_alike_35 : decode cX12_alike 35 = .ok (.iload_n 1, 1) := by decide +kernel
theorem dX12_alike_36 : decode cX12_alike 36 = .ok (.aload_n 0, 1) := by decide +kernel
theorem dX12_alike_37 : decode cX12_alike 37 = .ok (.getfield 493, 3) := by decide +kernel
theorem dX12_alike_40 : decode cX12_alike 40 = .ok (.if_icmp .ge 26, 3) := by decide +kernel
theorem dX12_alike_43 : decode cX12_alike 43 = .ok (.aload_n 0, 1) := by decide +kernel
theorem dX12_alike_44 : decode cX12_alike 44 = .ok (.getfield 121, 3) := by decide +kernel
theorem dX12_alike_47 : decode cX12_alike 47 = .ok (.iload_n 1, 1) := by decide +kernel
theorem dX12_alike_48 : decode cX12_alike 48 = .ok (.iaload, 1) := by decide +kernel
theorem dX12_alike_49 : decode cX12_alike 49 = .ok (.aload_n 0, 1) := by decide +kernel
theorem dX12_alike_50 : decode cX12_alike 50 = .ok (.getfield 124, 3) := by decide +kernel
theorem dX12_alike_53 : decode cX12_alike 53 = .ok (.iload_n 1, 1) := by decide +kernel
theorem dX12_alike_54 : decode cX12_alike 54 = .ok (.iaload, 1) := by decide +kernel
theorem dX12_alike_55 : decode cX12_alike 55 = .ok (.if_icmp .eq 5, 3) := by decide +kernel
theorem dX12_alike_58 : decode cX12_alike 58 = .ok (.iconst 0, 1) := by decide +kernel
theorem dX12_alike_59 : decode cX12_alike 59 = .ok (.ireturn, 1) := by decide +kernel
theorem dX12_alike_60 : decode cX12_alike 60 = .ok (.iinc 1 1, 3) := by decide +kernel
theorem dX12_alike_63 : decode cX12_alike 63 = .ok (.goto (-28), 3) := by decide +kernel
theorem dX12_alike_66 : decode cX12_alike 66 = .ok (.iconst 1, 1) := by decide +kernel
theorem dX12_alike_67 : decode cX12_alike 67 = .ok (.ireturn, 1) := by decide +kernel
theorem dX12_allSteps_0 : decode cX12_allSteps 0 = .ok (.aload_n 0, 1) := by decide +kernel
theorem dX12_allSteps_1 : decode cX12_allSteps 1 = .ok (.aload_n 0, 1) := by decide +kernel
theorem dX12_allSteps_2 : decode cX12_allSteps 2 = .ok (.getfield 78, 3) := by decide +kernel
theorem dX12_allSteps_5 : decode cX12_allSteps 5 = .ok (.iconst 0, 1) := by decide +kernel
theorem dX12_allSteps_6 : decode cX12_allSteps 6 = .ok (.iaload, 1) := by decide +kernel
theorem dX12_allSteps_7 : decode cX12_allSteps 7 = .ok (.invokevirtual 408, 3) := by decide +kernel
theorem dX12_allSteps_10 : decode cX12_allSteps 10 = .ok (.ireturn, 1) := by decide +kernel
theorem dX12_areCells_0 : decode cX12_areCells 0 = .ok (.aload_n 0, 1) := by decide +kernel
theorem dX12_areCells_1 : decode cX12_areCells 1 = .ok (.getfield 81, 3) := by decide +kernel
theorem dX12_areCells_4 : decode cX12_areCells 4 = .ok (.iconst 1, 1) := by decide +kernel
theorem dX12_areCells_5 : decode cX12_areCells 5 = .ok (.iaload, 1) := by decide +kernel
theorem dX12_areCells_6 : decode cX12_areCells 6 = .ok (.istore_n 1, 1) := by decide +kernel
theorem dX12_areCells_7 : decode cX12_areCells 7 = .ok (.iload_n 1, 1) := by decide +kernel
theorem dX12_areCells_8 : decode cX12_areCells 8 = .ok (.aload_n 0, 1) := by decide +kernel
theorem dX12_areCells_9 : decode cX12_areCells 9 = .ok (.getfield 325, 3) := by decide +kernel
theorem dX12_areCells_12 : decode cX12_areCells 12 = .ok (.if_icmp .ge 112, 3) := by decide +kernel
theorem dX12_areCells_15 : decode cX12_areCells 15 = .ok (.aload_n 0, 1) := by decide +kernel
theorem dX12_areCells_16 : decode cX12_areCells 16 = .ok (.getfield 81, 3) := by decide +kernel
theorem dX12_areCells_19 : decode cX12_areCells 19 = .ok (.iload_n 1, 1) := by decide +kernel
theorem dX12_areCells_20 : decode cX12_areCells 20 = .ok (.invokestatic 244, 3) := by decide +kernel
theorem dX12_areCells_23 : decode cX12_areCells 23 = .ok (.istore_n 2, 1) := by decide +kernel
theorem dX12_areCells_24 : decode cX12_areCells 24 = .ok (.aload_n 0, 1) := by decide +kernel
theorem dX12_areCells_25 : decode cX12_areCells 25 = .ok (.getfield 81, 3) := by decide +kernel
theorem dX12_areCells_28 : decode cX12_areCells 28 = .ok (.iload_n 1, 1) := by decide +kernel
theorem dX12_areCells_29 : decode cX12_areCells 29 = .ok (.invokestatic 240, 3) := by decide +kernel
theorem dX12_areCells_32 : decode cX12_areCells 32 = .ok (.iconst 2, 1) := by decide +kernel
theorem dX12_areCells_33 : decode cX12_areCells 33 = .ok (.if_icmp .ne 33, 3) := by decide +kernel
theorem dX12_areCells_36 : decode cX12_areCells 36 = .ok (.iload_n 2, 1) := by decide +kernel
theorem dX12_areCells_37 : decode cX12_areCells 37 = .ok (.i2l, 1) := by decide +kernel
theorem dX12_areCells_38 : decode cX12_areCells 38 = .ok (.lconst 0, 1) := by decide +kernel
theorem dX12_areCells_39 : decode cX12_areCells 39 = .ok (.aload_n 0, 1) := by decide +kernel
theorem dX12_areCells_40 : decode cX12_areCells 40 = .ok (.getfield 328, 3) := by decide +kernel
theorem dX12_areCells_43 : decode cX12_areCells 43 = .ok (.iconst 1, 1) := by decide +kernel
theorem dX12_areCells_44 : decode cX12_areCells 44 = .ok (.isub, 1) := by decide +kernel
theorem dX12_areCells_45 : decode cX12_areCells 45 = .ok (.i2l, 1) := by decide +kernel
theorem dX12_areCells_46 : decode cX12_areCells 46 = .ok (.invokestatic 178, 3) := by decide +kernel
theorem dX12_areCells_49 : decode cX12_areCells 49 = .ok (.ifCond .eq 17, 3) := by decide +kernel
theorem dX12_areCells_52 : decode cX12_areCells 52 = .ok (.iload_n 1, 1) := by decide +kernel
theorem dX12_areCells_53 : decode cX12_areCells 53 = .ok (.aload_n 0, 1) := by decide +kernel
theorem dX12_areCells_54 : decode cX12_areCells 54 = .ok (.iload_n 2, 1) := by decide +kernel
theorem dX12_areCells_55 : decode cX12_areCells 55 = .ok (.invokevirtual 346, 3) := by decide +kernel
theorem dX12_areCells_58 : decode cX12_areCells 58 = .ok (.iadd, 1) := by decide +kernel
theorem dX12_areCells_59 : decode cX12_areCells 59 = .ok (.aload_n 0, 1) := by decide +kernel
theorem dX12_areCells_60 : decode cX12_areCells 60 = .ok (.getfield 325, 3) := by decide +kernel
theorem dX12_areCells_63 : decode cX12_areCells 63 = .ok (.if_icmp .le 5, 3) := by decide +kernel
theorem dX12_areCells_66 : decode cX12_areCells 66 = .ok (.iconst 0, 1) := by decide +kernel
theorem dX12_areCells_67 : decode cX12_areCells 67 = .ok (.ireturn, 1) := by decide +kernel
theorem dX12_areCells_68 : decode cX12_areCells 68 = .ok (.iconst 0, 1) := by decide +kernel
theorem dX12_areCells_69 : decode cX12_areCells 69 = .ok (.istore_n 3, 1) := by decide +kernel
theorem dX12_areCells_70 : decode cX12_areCells 70 = .ok (.iload_n 3, 1) := by decide +kernel
theorem dX12_areCells_71 : decode cX12_areCells 71 = .ok (.aload_n 0, 1) := by decide +kernel
theorem dX12_areCells_72 : decode cX12_areCells 72 = .ok (.iload_n 2, 1) := by decide +kernel
theorem dX12_areCells_73 : decode cX12_areCells 73 = .ok (.invokevirtual 234, 3) := by decide +kernel
theorem dX12_areCells_76 : decode cX12_areCells 76 = .ok (.if_icmp .ge 37, 3) := by decide +kernel
theorem dX12_areCells_79 : decode cX12_areCells 79 = .ok (.aload_n 0, 1) := by decide +kernel
theorem dX12_areCells_80 : decode cX12_areCells 80 = .ok (.iload_n 1, 1) := by decide +kernel
theorem dX12_areCells_81 : decode cX12_areCells 81 = .ok (.iconst 1, 1) := by decide +kernel
theorem dX12_areCells_82 : decode cX12_areCells 82 = .ok (.iadd, 1) := by decide +kernel
theorem dX12_areCells_83 : decode cX12_areCells 83 = .ok (.iload_n 3, 1) := by decide +kernel
theorem dX12_areCells_84 : decode cX12_areCells 84 = .ok (.iadd, 1) := by decide +kernel
theorem dX12_areCells_85 : decode cX12_areCells 85 = .ok (.aload_n 0, 1) := by decide +kernel
theorem dX12_areCells_86 : decode cX12_areCells 86 = .ok (.iload_n 2, 1) := by decide +kernel
theorem dX12_areCells_87 : decode cX12_areCells 87 = .ok (.iload_n 3, 1) := by decide +kernel
theorem dX12_areCells_88 : decode cX12_areCells 88 = .ok (.invokevirtual 356, 3) := by decide +kernel
theorem dX12_areCells_91 : decode cX12_areCells 91 = .ok (.ifCond .ne 7, 3) := by decide +kernel
theorem dX12_areCells_94 : decode cX12_areCells 94 = .ok (.iconst 0, 1) := by decide +kernel
theorem dX12_areCells_95 : decode cX12_areCells 95 = .ok (.goto 4, 3) := by decide +kernel
theorem dX12_areCells_98 : decode cX12_areCells 98 = .ok (.iconst 1, 1) := by decide +kernel
theorem dX12_areCells_99 : decode cX12_areCells 99 = .ok (.invokevirtual 679, 3) := by decide +kernel
theorem dX12_areCells_102 : decode cX12_areCells 102 = .ok (.ifCond .ne 5, 3) := by decide +kernel
theorem dX12_areCells_105 : decode cX12_areCells 105 = .ok (.iconst 0, 1) := by decide +kernel
theorem dX12_areCells_106 : decode cX12_areCells 106 = .ok (.ireturn, 1) := by decide +kernel
theorem dX12_areCells_107 : decode cX12_areCells 107 = .ok (.iinc 3 1, 3) := by decide +kernel
theorem dX12_areCells_110 : decode cX12_areCells 110 = .ok (.goto (-40), 3) := by decide +kernel
theorem dX12_areCells_113 : decode cX12_areCells 113 = .ok (.iload_n 1, 1) := by decide +kernel
theorem dX12_areCells_114 : decode cX12_areCells 114 = .ok (.aload_n 0, 1) := by decide +kernel
theorem dX12_areCells_115 : decode cX12_areCells 115 = .ok (.iload_n 2, 1) := by decide +kernel
theorem dX12_areCells_116 : decode cX12_areCells 116 = .ok (.invokevirtual 346, 3) := by decide +kernel
theorem dX12_areCells_119 : decode cX12_areCells 119 = .ok (.iadd, 1) := by decide +kernel
theorem dX12_areCells_120 : decode cX12_areCells 120 = .ok (.istore_n 1, 1) := by decide +kernel
theorem dX12_areCells_121 : decode cX12_areCells 121 = .ok (.goto (-114), 3) := by decide +kernel
theorem dX12_areCells_124 : decode cX12_areCells 124 = .ok (.iconst 1, 1) := by decide +kernel
theorem dX12_areCells_125 : decode cX12_areCells 125 = .ok (.ireturn, 1) := by decide +kernel
theorem dX12_asks_0 : decode cX12_asks 0 = .ok (.aload_n 0, 1) := by decide +kernel
theorem dX12_asks_1 : decode cX12_asks 1 = .ok (.getfield 194, 3) := by decide +kernel
theorem dX12_asks_4 : decode cX12_asks 4 = .ok (.ifCond .ne 20, 3) := by decide +kernel
theorem dX12_asks_7 : decode cX12_asks 7 = .ok (.aload_n 0, 1) := by decide +kernel
theorem dX12_asks_8 : decode cX12_asks 8 = .ok (.aload_n 1, 1) := by decide +kernel
theorem dX12_asks_9 : decode cX12_asks 9 = .ok (.invokevirtual 211, 3) := by decide +kernel
theorem dX12_asks_12 : decode cX12_asks 12 = .ok (.ifCond .ne 12, 3) := by decide +kernel
theorem dX12_asks_15 : decode cX12_asks 15 = .ok (.aload_n 0, 1) := by decide +kernel
theorem dX12_asks_16 : decode cX12_asks 16 = .ok (.iconst 1, 1) := by decide +kernel
theorem dX12_asks_17 : decode cX12_asks 17 = .ok (.aload_n 0, 1) := by decide +kernel
theorem dX12_asks_18 : decode cX12_asks 18 = .ok (.getfield 188, 3) := by decide +kernel
theorem dX12_asks_21 : decode cX12_asks 21 = .ok (.invokevirtual 214, 3) := by decide +kernel
theorem dX12_asks_24 : decode cX12_asks 24 = .ok (.return_, 1) := by decide +kernel
theorem dX12_asksSign_0 : decode cX12_asksSign 0 = .ok (.aload_n 0, 1) := by decide +kernel
theorem dX12_asksSign_1 : decode cX12_asksSign 1 = .ok (.getfield 194, 3) := by decide +kernel
theorem dX12_asksSign_4 : decode cX12_asksSign 4 = .ok (.ifCond .ne 20, 3) := by decide +kernel
theorem dX12_asksSign_7 : decode cX12_asksSign 7 = .ok (.aload_n 0, 1) := by decide +kernel
theorem dX12_asksSign_8 : decode cX12_asksSign 8 = .ok (.iload_n 1, 1) := by decide +kernel
theorem dX12_asksSign_9 : decode cX12_asksSign 9 = .ok (.invokevirtual 218, 3) := by decide +kernel
theorem dX12_asksSign_12 : decode cX12_asksSign 12 = .ok (.ifCond .ne 12, 3) := by decide +kernel
theorem dX12_asksSign_15 : decode cX12_asksSign 15 = .ok (.aload_n 0, 1) := by decide +kernel
theorem dX12_asksSign_16 : decode cX12_asksSign 16 = .ok (.iconst 1, 1) := by decide +kernel
theorem dX12_asksSign_17 : decode cX12_asksSign 17 = .ok (.aload_n 0, 1) := by decide +kernel
theorem dX12_asksSign_18 : decode cX12_asksSign 18 = .ok (.getfield 188, 3) := by decide +kernel
theorem dX12_asksSign_21 : decode cX12_asksSign 21 = .ok (.invokevirtual 214, 3) := by decide +kernel
theorem dX12_asksSign_24 : decode cX12_asksSign 24 = .ok (.return_, 1) := by decide +kernel
theorem dX12_assigns_0 : decode cX12_assigns 0 = .ok (.aload_n 0, 1) := by decide +kernel
theorem dX12_assigns_1 : decode cX12_assigns 1 = .ok (.iload_n 1, 1) := by decide +kernel
theorem dX12_assigns_2 : decode cX12_assigns 2 = .ok (.invokevirtual 604, 3) := by decide +kernel
theorem dX12_assigns_5 : decode cX12_assigns 5 = .ok (.ifCond .ne 4, 3) := by decide +kernel
theorem dX12_assigns_8 : decode cX12_assigns 8 = .ok (.return_, 1) := by decide +kernel
theorem dX12_assigns_9 : decode cX12_assigns 9 = .ok (.aload_n 0, 1) := by decide +kernel
theorem dX12_assigns_10 : decode cX12_assigns 10 = .ok (.getfield 7, 3) := by decide +kernel
theorem dX12_assigns_13 : decode cX12_assigns 13 = .ok (.aload_n 0, 1) := by decide +kernel
theorem dX12_assigns_14 : decode cX12_assigns 14 = .ok (.getfield 188, 3) := by decide +kernel
theorem dX12_assigns_17 : decode cX12_assigns 17 = .ok (.iaload, 1) := by decide +kernel
theorem dX12_assigns_18 : decode cX12_assigns 18 = .ok (.bipush 61, 2) := by decide +kernel
theorem dX12_assigns_20 : decode cX12_assigns 20 = .ok (.if_icmp .eq 16, 3) := by decide +kernel
theorem dX12_assigns_23 : decode cX12_assigns 23 = .ok (.aload_n 0, 1) := by decide +kernel
theorem dX12_assigns_24 : decode cX12_assigns 24 = .ok (.dup, 1) := by decide +kernel
theorem dX12_assigns_25 : decode cX12_assigns 25 = .ok (.getfield 188, 3) := by decide +kernel
theorem dX12_assigns_28 : decode cX12_assigns 28 = .ok (.iconst 1, 1) := by decide +kernel
theorem dX12_assigns_29 : decode cX12_assigns 29 = .ok (.iadd, 1) := by decide +kernel
theorem dX12_assigns_30 : decode cX12_assigns 30 = .ok (.putfield 188, 3) := by decide +kernel
theorem dX12_assigns_33 : decode cX12_assigns 33 = .ok (.goto (-24), 3) := by decide +kernel
theorem dX12_assigns_36 : decode cX12_assigns 36 = .ok (.aload_n 0, 1) := by decide +kernel
theorem dX12_assigns_37 : decode cX12_assigns 37 = .ok (.aload_n 0, 1) := by decide +kernel
theorem dX12_assigns_38 : decode cX12_assigns 38 = .ok (.getfield 188, 3) := by decide +kernel
theorem dX12_assigns_41 : decode cX12_assigns 41 = .ok (.iconst 1, 1) := by decide +kernel
theorem dX12_assigns_42 : decode cX12_assigns 42 = .ok (.iadd, 1) := by decide +kernel
theorem dX12_assigns_43 : decode cX12_assigns 43 = .ok (.invokevirtual 607, 3) := by decide +kernel
theorem dX12_assigns_46 : decode cX12_assigns 46 = .ok (.aload_n 0, 1) := by decide +kernel
theorem dX12_assigns_47 : decode cX12_assigns 47 = .ok (.aload_n 0, 1) := by decide +kernel
theorem dX12_assigns_48 : decode cX12_assigns 48 = .ok (.getfield 51, 3) := by decide +kernel
theorem dX12_assigns_51 : decode cX12_assigns 51 = .ok (.invokevirtual 211, 3) := by decide +kernel
theorem dX12_assigns_54 : decode cX12_assigns 54 = .ok (.ifCond .eq 11, 3) := by decide +kernel
theorem dX12_assigns_57 : decode cX12_assigns 57 = .ok (.aload_n 0, 1) := by decide +kernel
theorem dX12_assigns_58 : decode cX12_assigns 58 = .ok (.iload_n 1, 1) := by decide +kernel
theorem dX12_assigns_59 : decode cX12_assigns 59 = .ok (.invokevirtual 643, 3) := by decide +kernel
theorem dX12_assigns_62 : decode cX12_assigns 62 = .ok (.goto 8, 3) := by decide +kernel
theorem dX12_assigns_65 : decode cX12_assigns 65 = .ok (.aload_n 0, 1) := by decide +kernel
theorem dX12_assigns_66 : decode cX12_assigns 66 = .ok (.iload_n 1, 1) := by decide +kernel
theorem dX12_assigns_67 : decode cX12_assigns 67 = .ok (.invokevirtual 634, 3) := by decide +kernel
theorem dX12_assigns_70 : decode cX12_assigns 70 = .ok (.aload_n 0, 1) := by decide +kernel
theorem dX12_assigns_71 : decode cX12_assigns 71 = .ok (.bipush 59, 2) := by decide +kernel
theorem dX12_assigns_73 : decode cX12_assigns 73 = .ok (.invokevirtual 290, 3) := by decide +kernel
theorem dX12_assigns_76 : decode cX12_assigns 76 = .ok (.aload_n 0, 1) := by decide +kernel
theorem dX12_assigns_77 : decode cX12_assigns 77 = .ok (.getfield 188, 3) := by decide +kernel
theorem dX12_assigns_80 : decode cX12_assigns 80 = .ok (.istore_n 2, 1) := by decide +kernel
theorem dX12_assigns_81 : decode cX12_assigns 81 = .ok (.aload_n 0, 1) := by decide +kernel
theorem dX12_assigns_82 : decode cX12_assigns 82 = .ok (.iload_n 1, 1) := by decide +kernel
theorem dX12_assigns_83 : decode cX12_assigns 83 = .ok (.invokevirtual 607, 3) := by decide +kernel
theorem dX12_assigns_86 : decode cX12_assigns 86 = .ok (.aload_n 0, 1) := by decide +kernel
theorem dX12_assigns_87 : decode cX12_assigns 87 = .ok (.getfield 340, 3) := by decide +kernel
theorem dX12_assigns_90 : decode cX12_assigns 90 = .ok (.ifCond .ne 8, 3) := by decide +kernel
theorem dX12_assigns_93 : decode cX12_assigns 93 = .ok (.aload_n 0, 1) := by decide +kernel
theorem dX12_assigns_94 : decode cX12_assigns 94 = .ok (.iload_n 1, 1) := by decide +kernel
theorem dX12_assigns_95 : decode cX12_assigns 95 = .ok (.invokevirtual 646, 3) := by decide +kernel
theorem dX12_assigns_98 : decode cX12_assigns 98 = .ok (.aload_n 0, 1) := by decide +kernel
theorem dX12_assigns_99 : decode cX12_assigns 99 = .ok (.iload_n 2, 1) := by decide +kernel
theorem dX12_assigns_100 : decode cX12_assigns 100 = .ok (.invokevirtual 607, 3) := by decide +kernel
theorem dX12_assigns_103 : decode cX12_assigns 103 = .ok (.return_, 1) := by decide +kernel
theorem dX12_backward_0 : decode cX12_backward 0 = .ok (.aload_n 0, 1) := by decide +kernel
theorem dX12_backward_1 : decode cX12_backward 1 = .ok (.iload_n 1, 1) := by decide +kernel
theorem dX12_backward_2 : decode cX12_backward 2 = .ok (.aload_n 0, 1) := by decide +kernel
theorem dX12_backward_3 : decode cX12_backward 3 = .ok (.getfield 100, 3) := by decide +kernel
theorem dX12_backward_6 : decode cX12_backward 6 = .ok (.iload_n 1, 1) := by decide +kernel
theorem dX12_backward_7 : decode cX12_backward 7 = .ok (.iaload, 1) := by decide +kernel
theorem dX12_backward_8 : decode cX12_backward 8 = .ok (.invokevirtual 393, 3) := by decide +kernel
theorem dX12_backward_11 : decode cX12_backward 11 = .ok (.aload_n 0, 1) := by decide +kernel
theorem dX12_backward_12 : decode cX12_backward 12 = .ok (.getfield 84, 3) := by decide +kernel
theorem dX12_backward_15 : decode cX12_backward 15 = .ok (.aload_n 0, 1) := by decide +kernel
theorem dX12_backward_16 : decode cX12_backward 16 = .ok (.getfield 100, 3) := by decide +kernel
theorem dX12_backward_19 : decode cX12_backward 19 = .ok (.iload_n 1, 1) := by decide +kernel
theorem dX12_backward_20 : decode cX12_backward 20 = .ok (.iaload, 1) := by decide +kernel
theorem dX12_backward_21 : decode cX12_backward 21 = .ok (.iload_n 1, 1) := by decide +kernel
theorem dX12_backward_22 : decode cX12_backward 22 = .ok (.invokestatic 390, 3) := by decide +kernel
theorem dX12_backward_25 : decode cX12_backward 25 = .ok (.aload_n 0, 1) := by decide +kernel
theorem dX12_backward_26 : decode cX12_backward 26 = .ok (.getfield 84, 3) := by decide +kernel
theorem dX12_backward_29 : decode cX12_backward 29 = .ok (.iload_n 1, 1) := by decide +kernel
theorem dX12_backward_30 : decode cX12_backward 30 = .ok (.invokestatic 349, 3) := by decide +kernel
theorem dX12_backward_33 : decode cX12_backward 33 = .ok (.ifCond .eq 25, 3) := by decide +kernel
theorem dX12_backward_36 : decode cX12_backward 36 = .ok (.aload_n 0, 1) := by decide +kernel
theorem dX12_backward_37 : decode cX12_backward 37 = .ok (.getfield 84, 3) := by decide +kernel
theorem dX12_backward_40 : decode cX12_backward 40 = .ok (.iload_n 1, 1) := by decide +kernel
theorem dX12_backward_41 : decode cX12_backward 41 = .ok (.invokestatic 244, 3) := by decide +kernel
theorem dX12_backward_44 : decode cX12_backward 44 = .ok (.iload_n 1, 1) := by decide +kernel
theorem dX12_backward_45 : decode cX12_backward 45 = .ok (.if_icmp .ge 13, 3) := by decide +kernel
theorem dX12_backward_48 : decode cX12_backward 48 = .ok (.aload_n 0, 1) := by decide +kernel
theorem dX12_backward_49 : decode cX12_backward 49 = .ok (.aload_n 0, 1) := by decide +kernel
theorem dX12_backward_50 : decode cX12_backward 50 = .ok (.getfield 100, 3) := by decide +kernel
theorem dX12_backward_53 : decode cX12_backward 53 = .ok (.iload_n 1, 1) := by decide +kernel
theorem dX12_backward_54 : decode cX12_backward 54 = .ok (.iaload, 1) := by decide +kernel
theorem dX12_backward_55 : decode cX12_backward 55 = .ok (.invokevirtual 396, 3) := by decide +kernel
theorem dX12_backward_58 : decode cX12_backward 58 = .ok (.return_, 1) := by decide +kernel
theorem dX12_becomesLive_0 : decode cX12_becomesLive 0 = .ok (.iload_n 1, 1) := by decide +kernel
theorem dX12_becomesLive_1 : decode cX12_becomesLive 1 = .ok (.iconst (-1), 1) := by decide +kernel
theorem dX12_becomesLive_2 : decode cX12_becomesLive 2 = .ok (.if_icmp .eq 12, 3) := by decide +kernel
theorem dX12_becomesLive_5 : decode cX12_becomesLive 5 = .ok (.aload_n 0, 1) := by decide +kernel
theorem dX12_becomesLive_6 : decode cX12_becomesLive 6 = .ok (.getfield 93, 3) := by decide +kernel
theorem dX12_becomesLive_9 : decode cX12_becomesLive 9 = .ok (.iload_n 1, 1) := by decide +kernel
theorem dX12_becomesLive_10 : decode cX12_becomesLive 10 = .ok (.baload, 1) := by decide +kernel
theorem dX12_becomesLive_11 : decode cX12_becomesLive 11 = .ok (.ifCond .eq 5, 3) := by decide +kernel
theorem dX12_becomesLive_14 : decode cX12_becomesLive 14 = .ok (.iconst 0, 1) := by decide +kernel
theorem dX12_becomesLive_15 : decode cX12_becomesLive 15 = .ok (.ireturn, 1) := by decide +kernel
theorem dX12_becomesLive_16 : decode cX12_becomesLive 16 = .ok (.aload_n 0, 1) := by decide +kernel
theorem dX12_becomesLive_17 : decode cX12_becomesLive 17 = .ok (.getfield 93, 3) := by decide +kernel
theorem dX12_becomesLive_20 : decode cX12_becomesLive 20 = .ok (.iload_n 1, 1) := by decide +kernel
theorem dX12_becomesLive_21 : decode cX12_becomesLive 21 = .ok (.iconst 1, 1) := by decide +kernel
theorem dX12_becomesLive_22 : decode cX12_becomesLive 22 = .ok (.bastore, 1) := by decide +kernel
theorem dX12_becomesLive_23 : decode cX12_becomesLive 23 = .ok (.iconst 1, 1) := by decide +kernel
theorem dX12_becomesLive_24 : decode cX12_becomesLive 24 = .ok (.ireturn, 1) := by decide +kernel
theorem dX12_begin_0 : decode cX12_begin 0 = .ok (.aload_n 0, 1) := by decide +kernel
theorem dX12_begin_1 : decode cX12_begin 1 = .ok (.invokevirtual 541, 3) := by decide +kernel
theorem dX12_begin_4 : decode cX12_begin 4 = .ok (.ifCond .ne 9, 3) := by decide +kernel
theorem dX12_begin_7 : decode cX12_begin 7 = .ok (.aload_n 0, 1) := by decide +kernel
theorem dX12_begin_8 : decode cX12_begin 8 = .ok (.iconst 3, 1) := by decide +kernel
theorem dX12_begin_9 : decode cX12_begin 9 = .ok (.invokevirtual 168, 3) := by decide +kernel
theorem dX12_begin_12 : decode cX12_begin 12 = .ok (.ireturn, 1) := by decide +kernel
theorem dX12_begin_13 : decode cX12_begin 13 = .ok (.aload_n 0, 1) := by decide +kernel
theorem dX12_begin_14 : decode cX12_begin 14 = .ok (.invokevirtual 544, 3) := by decide +kernel
theorem dX12_begin_17 : decode cX12_begin 17 = .ok (.aload_n 0, 1) := by decide +kernel
theorem dX12_begin_18 : decode cX12_begin 18 = .ok (.getfield 78, 3) := by decide +kernel
theorem dX12_begin_21 : decode cX12_begin 21 = .ok (.iconst 3, 1) := by decide +kernel
theorem dX12_begin_22 : decode cX12_begin 22 = .ok (.iconst 1, 1) := by decide +kernel
theorem dX12_begin_23 : decode cX12_begin 23 = .ok (.iastore, 1) := by decide +kernel
theorem dX12_begin_24 : decode cX12_begin 24 = .ok (.aload_n 0, 1) := by decide +kernel
theorem dX12_begin_25 : decode cX12_begin 25 = .ok (.getfield 78, 3) := by decide +kernel
theorem dX12_begin_28 : decode cX12_begin 28 = .ok (.iconst 4, 1) := by decide +kernel
theorem dX12_begin_29 : decode cX12_begin 29 = .ok (.iconst 0, 1) := by decide +kernel
theorem dX12_begin_30 : decode cX12_begin 30 = .ok (.iastore, 1) := by decide +kernel
theorem dX12_begin_31 : decode cX12_begin 31 = .ok (.aload_n 0, 1) := by decide +kernel
theorem dX12_begin_32 : decode cX12_begin 32 = .ok (.invokevirtual 436, 3) := by decide +kernel
theorem dX12_begin_35 : decode cX12_begin 35 = .ok (.aload_n 0, 1) := by decide +kernel
theorem dX12_begin_36 : decode cX12_begin 36 = .ok (.invokevirtual 526, 3) := by decide +kernel
theorem dX12_begin_39 : decode cX12_begin 39 = .ok (.ireturn, 1) := by decide +kernel
theorem dX12_beginOf_0 : decode cX12_beginOf 0 = .ok (.aload_n 0, 1) := by decide +kernel
theorem dX12_beginOf_1 : decode cX12_beginOf 1 = .ok (.getfield 78, 3) := by decide +kernel
theorem dX12_beginOf_4 : decode cX12_beginOf 4 = .ok (.iconst 1, 1) := by decide +kernel
theorem dX12_beginOf_5 : decode cX12_beginOf 5 = .ok (.iaload, 1) := by decide +kernel
theorem dX12_beginOf_6 : decode cX12_beginOf 6 = .ok (.istore_n 2, 1) := by decide +kernel
theorem dX12_beginOf_7 : decode cX12_beginOf 7 = .ok (.iload_n 2, 1) := by decide +kernel
theorem dX12_beginOf_8 : decode cX12_beginOf 8 = .ok (.aload_n 0, 1) := by decide +kernel
theorem dX12_beginOf_9 : decode cX12_beginOf 9 = .ok (.aload_n 0, 1) := by decide +kernel
theorem dX12_beginOf_10 : decode cX12_beginOf 10 = .ok (.getfield 78, 3) := by decide +kernel
theorem dX12_beginOf_13 : decode cX12_beginOf 13 = .ok (.iload_n 2, 1) := by decide +kernel
theorem dX12_beginOf_14 : decode cX12_beginOf 14 = .ok (.invokestatic 244, 3) := by decide +kernel
theorem dX12_beginOf_17 : decode cX12_beginOf 17 = .ok (.invokevirtual 346, 3) := by decide +kernel
theorem dX12_beginOf_20 : decode cX12_beginOf 20 = .ok (.iadd, 1) := by decide +kernel
theorem dX12_beginOf_21 : decode cX12_beginOf 21 = .ok (.iload_n 1, 1) := by decide +kernel
theorem dX12_beginOf_22 : decode cX12_beginOf 22 = .ok (.if_icmp .gt 21, 3) := by decide +kernel
theorem dX12_beginOf_25 : decode cX12_beginOf 25 = .ok (.iload_n 2, 1) := by decide +kernel
theorem dX12_beginOf_26 : decode cX12_beginOf 26 = .ok (.aload_n 0, 1) := by decide +kernel
theorem dX12_beginOf_27 : decode cX12_beginOf 27 = .ok (.aload_n 0, 1) := by decide +kernel
theorem dX12_beginOf_28 : decode cX12_beginOf 28 = .ok (.getfield 78, 3) := by decide +kernel
theorem dX12_beginOf_31 : decode cX12_beginOf 31 = .ok (.iload_n 2, 1) := by decide +kernel
theorem dX12_beginOf_32 : decode cX12_beginOf 32 = .ok (.invokestatic 244, 3) := by decide +kernel
theorem dX12_beginOf_35 : decode cX12_beginOf 35 = .ok (.invokevirtual 346, 3) := by decide +kernel
theorem dX12_beginOf_38 : decode cX12_beginOf 38 = .ok (.iadd, 1) := by decide +kernel
theorem dX12_beginOf_39 : decode cX12_beginOf 39 = .ok (.istore_n 2, 1) := by decide +kernel
theorem dX12_beginOf_40 : decode cX12_beginOf 40 = .ok (.goto (-33), 3) := by decide +kernel
theorem dX12_beginOf_43 : decode cX12_beginOf 43 = .ok (.iload_n 2, 1) := by decide +kernel
theorem dX12_beginOf_44 : decode cX12_beginOf 44 = .ok (.ireturn, 1) := by decide +kernel
theorem dX12_begins_0 : decode cX12_begins 0 = .ok (.aload_n 0, 1) := by decide +kernel
theorem dX12_begins_1 : decode cX12_begins 1 = .ok (.aload_n 0, 1) := by decide +kernel
theorem dX12_begins_2 : decode cX12_begins 2 = .ok (.getfield 165, 3) := by decide +kernel
theorem dX12_begins_5 : decode cX12_begins 5 = .ok (.putfield 185, 3) := by decide +kernel
theorem dX12_begins_8 : decode cX12_begins 8 = .ok (.aload_n 0, 1) := by decide +kernel
theorem dX12_begins_9 : decode cX12_begins 9 = .ok (.iconst 0, 1) := by decide +kernel
theorem dX12_begins_10 : decode cX12_begins 10 = .ok (.putfield 165, 3) := by decide +kernel
theorem dX12_begins_13 : decode cX12_begins 13 = .ok (.aload_n 0, 1) := by decide +kernel
theorem dX12_begins_14 : decode cX12_begins 14 = .ok (.iconst 0, 1) := by decide +kernel
theorem dX12_begins_15 : decode cX12_begins 15 = .ok (.putfield 188, 3) := by decide +kernel
theorem dX12_begins_18 : decode cX12_begins 18 = .ok (.aload_n 0, 1) := by decide +kernel
theorem dX12_begins_19 : decode cX12_begins 19 = .ok (.iconst (-1), 1) := by decide +kernel
theorem dX12_begins_20 : decode cX12_begins 20 = .ok (.putfield 191, 3) := by decide +kernel
theorem dX12_begins_23 : decode cX12_begins 23 = .ok (.aload_n 0, 1) := by decide +kernel
theorem dX12_begins_24 : decode cX12_begins 24 = .ok (.iconst 0, 1) := by decide +kernel
theorem dX12_begins_25 : decode cX12_begins 25 = .ok (.putfield 194, 3) := by decide +kernel
theorem dX12_begins_28 : decode cX12_begins 28 = .ok (.aload_n 0, 1) := by decide +kernel
theorem dX12_begins_29 : decode cX12_begins 29 = .ok (.iconst (-1), 1) := by decide +kernel
theorem dX12_begins_30 : decode cX12_begins 30 = .ok (.putfield 197, 3) := by decide +kernel
theorem dX12_begins_33 : decode cX12_begins 33 = .ok (.return_, 1) := by decide +kernel
theorem dX12_best_0 : decode cX12_best 0 = .ok (.aload_n 0, 1) := by decide +kernel
theorem dX12_best_1 : decode cX12_best 1 = .ok (.invokevirtual 452, 3) := by decide +kernel
theorem dX12_best_4 : decode cX12_best 4 = .ok (.ifCond .eq 13, 3) := by decide +kernel
theorem dX12_best_7 : decode cX12_best 7 = .ok (.iload_n 1, 1) := by decide +kernel
theorem dX12_best_8 : decode cX12_best 8 = .ok (.i2l, 1) := by decide +kernel
theorem dX12_best_9 : decode cX12_best 9 = .ok (.lconst 0, 1) := by decide +kernel
theorem dX12_best_10 : decode cX12_best 10 = .ok (.lconst 1, 1) := by decide +kernel
theorem dX12_best_11 : decode cX12_best 11 = .ok (.invokestatic 178, 3) := by decide +kernel
theorem dX12_best_14 : decode cX12_best 14 = .ok (.ifCond .ne 5, 3) := by decide +kernel
theorem dX12_best_17 : decode cX12_best 17 = .ok (.iconst (-1), 1) := by decide +kernel
theorem dX12_best_18 : decode cX12_best 18 = .ok (.ireturn, 1) := by decide +kernel
theorem dX12_best_19 : decode cX12_best 19 = .ok (.iconst 0, 1) := by decide +kernel
theorem dX12_best_20 : decode cX12_best 20 = .ok (.istore_n 2, 1) := by decide +kernel
theorem dX12_best_21 : decode cX12_best 21 = .ok (.iconst 1, 1) := by decide +kernel
theorem dX12_best_22 : decode cX12_best 22 = .ok (.istore_n 3, 1) := by decide +kernel
theorem dX12_best_23 : decode cX12_best 23 = .ok (.iload_n 3, 1) := by decide +kernel
theorem dX12_best_24 : decode cX12_best 24 = .ok (.bipush 8, 2) := by decide +kernel
theorem dX12_best_26 : decode cX12_best 26 = .ok (.if_icmp .ge 26, 3) := by decide +kernel
theorem dX12_best_29 : decode cX12_best 29 = .ok (.aload_n 0, 1) := by decide +kernel
theorem dX12_best_30 : decode cX12_best 30 = .ok (.iload_n 3, 1) := by decide +kernel
theorem dX12_best_31 : decode cX12_best 31 = .ok (.iconst (-1), 1) := by decide +kernel
theorem dX12_best_32 : decode cX12_best 32 = .ok (.invokevirtual 481, 3) := by decide +kernel
theorem dX12_best_35 : decode cX12_best 35 = .ok (.aload_n 0, 1) := by decide +kernel
theorem dX12_best_36 : decode cX12_best 36 = .ok (.iload_n 2, 1) := by decide +kernel
theorem dX12_best_37 : decode cX12_best 37 = .ok (.iconst (-1), 1) := by decide +kernel
theorem dX12_best_38 : decode cX12_best 38 = .ok (.invokevirtual 481, 3) := by decide +kernel
theorem dX12_best_41 : decode cX12_best 41 = .ok (.if_icmp .le 5, 3) := by decide +kernel
theorem dX12_best_44 : decode cX12_best 44 = .ok (.iload_n 3, 1) := by decide +kernel
theorem dX12_best_45 : decode cX12_best 45 = .ok (.istore_n 2, 1) := by decide +kernel
theorem dX12_best_46 : decode cX12_best 46 = .ok (.iinc 3 1, 3) := by decide +kernel
theorem dX12_best_49 : decode cX12_best 49 = .ok (.goto (-26), 3) := by decide +kernel
theorem dX12_best_52 : decode cX12_best 52 = .ok (.iload_n 1, 1) := by decide +kernel
theorem dX12_best_53 : decode cX12_best 53 = .ok (.ifCond .ne 7, 3) := by decide +kernel
theorem dX12_best_56 : decode cX12_best 56 = .ok (.iload_n 2, 1) := by decide +kernel
theorem dX12_best_57 : decode cX12_best 57 = .ok (.goto 9, 3) := by decide +kernel
theorem dX12_best_60 : decode cX12_best 60 = .ok (.aload_n 0, 1) := by decide +kernel
theorem dX12_best_61 : decode cX12_best 61 = .ok (.iload_n 2, 1) := by decide +kernel
theorem dX12_best_62 : decode cX12_best 62 = .ok (.iconst (-1), 1) := by decide +kernel
theorem dX12_best_63 : decode cX12_best 63 = .ok (.invokevirtual 481, 3) := by decide +kernel
theorem dX12_best_66 : decode cX12_best 66 = .ok (.ireturn, 1) := by decide +kernel
theorem dX12_block_0 : decode cX12_block 0 = .ok (.aload_n 0, 1) := by decide +kernel
theorem dX12_block_1 : decode cX12_block 1 = .ok (.invokevirtual 452, 3) := by decide +kernel
theorem dX12_block_4 : decode cX12_block 4 = .ok (.ifCond .eq 19, 3) := by decide +kernel
theorem dX12_block_7 : decode cX12_block 7 = .ok (.iload_n 1, 1) := by decide +kernel
theorem dX12_block_8 : decode cX12_block 8 = .ok (.i2l, 1) := by decide +kernel
theorem dX12_block_9 : decode cX12_block 9 = .ok (.lconst 0, 1) := by decide +kernel
theorem dX12_block_10 : decode cX12_block 10 = .ok (.aload_n 0, 1) := by decide +kernel
theorem dX12_block_11 : decode cX12_block 11 = .ok (.getfield 378, 3) := by decide +kernel
theorem dX12_block_14 : decode cX12_block 14 = .ok (.iconst 1, 1) := by decide +kernel
theorem dX12_block_15 : decode cX12_block 15 = .ok (.isub, 1) := by decide +kernel
theorem dX12_block_16 : decode cX12_block 16 = .ok (.i2l, 1) := by decide +kernel
theorem dX12_block_17 : decode cX12_block 17 = .ok (.invokestatic 178, 3) := by decide +kernel
theorem dX12_block_20 : decode cX12_block 20 = .ok (.ifCond .ne 5, 3) := by decide +kernel
theorem dX12_block_23 : decode cX12_block 23 = .ok (.iconst (-1), 1) := by decide +kernel
theorem dX12_block_24 : decode cX12_block 24 = .ok (.ireturn, 1) := by decide +kernel
theorem dX12_block_25 : decode cX12_block 25 = .ok (.iload_n 2, 1) := by decide +kernel
theorem dX12_block_26 : decode cX12_block 26 = .ok (.tableswitch 46 0 2 #[26, 33, 40], 26) := by decide +kernel
theorem dX12_block_52 : decode cX12_block 52 = .ok (.aload_n 0, 1) := by decide +kernel
theorem dX12_block_53 : decode cX12_block 53 = .ok (.getfield 103, 3) := by decide +kernel
theorem dX12_block_56 : decode cX12_block 56 = .ok (.iload_n 1, 1) := by decide +kernel
theorem dX12_block_57 : decode cX12_block 57 = .ok (.iaload, 1) := by decide +kernel
theorem dX12_block_58 : decode cX12_block 58 = .ok (.ireturn, 1) := by decide +kernel
theorem dX12_block_59 : decode cX12_block 59 = .ok (.aload_n 0, 1) := by decide +kernel
theorem dX12_block_60 : decode cX12_block 60 = .ok (.getfield 106, 3) := by decide +kernel
theorem dX12_block_63 : decode cX12_block 63 = .ok (.iload_n 1, 1) := by decide +kernel
theorem dX12_block_64 : decode cX12_block 64 = .ok (.iaload, 1) := by decide +kernel
theorem dX12_block_65 : decode cX12_block 65 = .ok (.ireturn, 1) := by decide +kernel
theorem dX12_block_66 : decode cX12_block 66 = .ok (.aload_n 0, 1) := by decide +kernel
theorem dX12_block_67 : decode cX12_block 67 = .ok (.iload_n 1, 1) := by decide +kernel
theorem dX12_block_68 : decode cX12_block 68 = .ok (.invokevirtual 402, 3) := by decide +kernel
theorem dX12_block_71 : decode cX12_block 71 = .ok (.ireturn, 1) := by decide +kernel
theorem dX12_block_72 : decode cX12_block 72 = .ok (.iconst (-1), 1) := by decide +kernel
theorem dX12_block_73 : decode cX12_block 73 = .ok (.ireturn, 1) := by decide +kernel
theorem dX12_blockGoes_0 : decode cX12_blockGoes 0 = .ok (.aload_n 0, 1) := by decide +kernel
theorem dX12_blockGoes_1 : decode cX12_blockGoes 1 = .ok (.iload_n 1, 1) := by decide +kernel
theorem dX12_blockGoes_2 : decode cX12_blockGoes 2 = .ok (.invokevirtual 402, 3) := by decide +kernel
theorem dX12_blockGoes_5 : decode cX12_blockGoes 5 = .ok (.istore_n 2, 1) := by decide +kernel
theorem dX12_blockGoes_6 : decode cX12_blockGoes 6 = .ok (.iload_n 2, 1) := by decide +kernel
theorem dX12_blockGoes_7 : decode cX12_blockGoes 7 = .ok (.ifCond .ne 4, 3) := by decide +kernel
theorem dX12_blockGoes_10 : decode cX12_blockGoes 10 = .ok (.return_, 1) := by decide +kernel
theorem dX12_blockGoes_11 : decode cX12_blockGoes 11 = .ok (.aload_n 0, 1) := by decide +kernel
theorem dX12_blockGoes_12 : decode cX12_blockGoes 12 = .ok (.getfield 103, 3) := by decide +kernel
theorem dX12_blockGoes_15 : decode cX12_blockGoes 15 = .ok (.iload_n 1, 1) := by decide +kernel
theorem dX12_blockGoes_16 : decode cX12_blockGoes 16 = .ok (.iaload, 1) := by decide +kernel
theorem dX12_blockGoes_17 : decode cX12_blockGoes 17 = .ok (.istore_n 3, 1) := by decide +kernel
theorem dX12_blockGoes_18 : decode cX12_blockGoes 18 = .ok (.aload_n 0, 1) := by decide +kernel
theorem dX12_blockGoes_19 : decode cX12_blockGoes 19 = .ok (.getfield 106, 3) := by decide +kernel
theorem dX12_blockGoes_22 : decode cX12_blockGoes 22 = .ok (.iload_n 1, 1) := by decide +kernel
theorem dX12_blockGoes_23 : decode cX12_blockGoes 23 = .ok (.iaload, 1) := by decide +kernel
theorem dX12_blockGoes_24 : decode cX12_blockGoes 24 = .ok (.iconst 1, 1) := by decide +kernel
theorem dX12_blockGoes_25 : decode cX12_blockGoes 25 = .ok (.isub, 1) := by decide +kernel
theorem dX12_blockGoes_26 : decode cX12_blockGoes 26 = .ok (.istore 4, 2) := by decide +kernel
theorem dX12_blockGoes_28 : decode cX12_blockGoes 28 = .ok (.iload 4, 2) := by decide +kernel
theorem dX12_blockGoes_30 : decode cX12_blockGoes 30 = .ok (.ifCond .lt 26, 3) := by decide +kernel
theorem dX12_blockGoes_33 : decode cX12_blockGoes 33 = .ok (.aload_n 0, 1) := by decide +kernel
theorem dX12_blockGoes_34 : decode cX12_blockGoes 34 = .ok (.getfield 84, 3) := by decide +kernel
theorem dX12_blockGoes_37 : decode cX12_blockGoes 37 = .ok (.iload_n 3, 1) := by decide +kernel
theorem dX12_blockGoes_38 : decode cX12_blockGoes 38 = .ok (.iload 4, 2) := by decide +kernel
theorem dX12_blockGoes_40 : decode cX12_blockGoes 40 = .ok (.iadd, 1) := by decide +kernel
theorem dX12_blockGoes_41 : decode cX12_blockGoes 41 = .ok (.iload_n 2, 1) := by decide +kernel
theorem dX12_blockGoes_42 : decode cX12_blockGoes 42 = .ok (.iadd, 1) := by decide +kernel
theorem dX12_blockGoes_43 : decode cX12_blockGoes 43 = .ok (.iload_n 3, 1) := by decide +kernel
theorem dX12_blockGoes_44 : decode cX12_blockGoes 44 = .ok (.iload 4, 2) := by decide +kernel
theorem dX12_blockGoes_46 : decode cX12_blockGoes 46 = .ok (.iadd, 1) := by decide +kernel
theorem dX12_blockGoes_47 : decode cX12_blockGoes 47 = .ok (.invokestatic 390, 3) := by decide +kernel
theorem dX12_blockGoes_50 : decode cX12_blockGoes 50 = .ok (.iinc 4 (-1), 3) := by decide +kernel
theorem dX12_blockGoes_53 : decode cX12_blockGoes 53 = .ok (.goto (-25), 3) := by decide +kernel
theorem dX12_blockGoes_56 : decode cX12_blockGoes 56 = .ok (.iload_n 3, 1) := by decide +kernel
theorem dX12_blockGoes_57 : decode cX12_blockGoes 57 = .ok (.istore 4, 2) := by decide +kernel
theorem dX12_blockGoes_59 : decode cX12_blockGoes 59 = .ok (.iload_n 1, 1) := by decide +kernel
theorem dX12_blockGoes_60 : decode cX12_blockGoes 60 = .ok (.istore 5, 2) := by decide +kernel
theorem dX12_blockGoes_62 : decode cX12_blockGoes 62 = .ok (.iload 5, 2) := by decide +kernel
theorem dX12_blockGoes_64 : decode cX12_blockGoes 64 = .ok (.aload_n 0, 1) := by decide +kernel
theorem dX12_blockGoes_65 : decode cX12_blockGoes 65 = .ok (.getfield 378, 3) := by decide +kernel
theorem dX12_blockGoes_68 : decode cX12_blockGoes 68 = .ok (.if_icmp .ge 59, 3) := by decide +kernel
theorem dX12_blockGoes_71 : decode cX12_blockGoes 71 = .ok (.aload_n 0, 1) := by decide +kernel
theorem dX12_blockGoes_72 : decode cX12_blockGoes 72 = .ok (.iload 5, 2) := by decide +kernel
theorem dX12_blockGoes_74 : decode cX12_blockGoes 74 = .ok (.invokevirtual 402, 3) := by decide +kernel
theorem dX12_blockGoes_77 : decode cX12_blockGoes 77 = .ok (.ifCond .ne 6, 3) := by decide +kernel
theorem dX12_blockGoes_80 : decode cX12_blockGoes 80 = .ok (.goto 41, 3) := by decide +kernel
theorem dX12_blockGoes_83 : decode cX12_blockGoes 83 = .ok (.aload_n 0, 1) := by decide +kernel
theorem dX12_blockGoes_84 : decode cX12_blockGoes 84 = .ok (.getfield 84, 3) := by decide +kernel
theorem dX12_blockGoes_87 : decode cX12_blockGoes 87 = .ok (.iload 4, 2) := by decide +kernel
theorem dX12_blockGoes_89 : decode cX12_blockGoes 89 = .ok (.iconst 0, 1) := by decide +kernel
theorem dX12_blockGoes_90 : decode cX12_blockGoes 90 = .ok (.aload_n 0, 1) := by decide +kernel
theorem dX12_blockGoes_91 : decode cX12_blockGoes 91 = .ok (.getfield 103, 3) := by decide +kernel
theorem dX12_blockGoes_94 : decode cX12_blockGoes 94 = .ok (.iload 5, 2) := by decide +kernel
theorem dX12_blockGoes_96 : decode cX12_blockGoes 96 = .ok (.iaload, 1) := by decide +kernel
theorem dX12_blockGoes_97 : decode cX12_blockGoes 97 = .ok (.invokestatic 247, 3) := by decide +kernel
theorem dX12_blockGoes_100 : decode cX12_blockGoes 100 = .ok (.aload_n 0, 1) := by decide +kernel
theorem dX12_blockGoes_101 : decode cX12_blockGoes 101 = .ok (.getfield 84, 3) := by decide +kernel
theorem dX12_blockGoes_104 : decode cX12_blockGoes 104 = .ok (.iload 4, 2) := by decide +kernel
theorem dX12_blockGoes_106 : decode cX12_blockGoes 106 = .ok (.iconst 1, 1) := by decide +kernel
theorem dX12_blockGoes_107 : decode cX12_blockGoes 107 = .ok (.iadd, 1) := by decide +kernel
theorem dX12_blockGoes_108 : decode cX12_blockGoes 108 = .ok (.iconst 0, 1) := by decide +kernel
theorem dX12_blockGoes_109 : decode cX12_blockGoes 109 = .ok (.aload_n 0, 1) := by decide +kernel
theorem dX12_blockGoes_110 : decode cX12_blockGoes 110 = .ok (.iload 5, 2) := by decide +kernel
theorem dX12_blockGoes_112 : decode cX12_blockGoes 112 = .ok (.invokevirtual 402, 3) := by decide +kernel
theorem dX12_blockGoes_115 : decode cX12_blockGoes 115 = .ok (.invokestatic 247, 3) := by decide +kernel
theorem dX12_blockGoes_118 : decode cX12_blockGoes 118 = .ok (.iinc 4 2, 3) := by decide +kernel
theorem dX12_blockGoes_121 : decode cX12_blockGoes 121 = .ok (.iinc 5 1, 3) := by decide +kernel
theorem dX12_blockGoes_124 : decode cX12_blockGoes 124 = .ok (.goto (-62), 3) := by decide +kernel
theorem dX12_blockGoes_127 : decode cX12_blockGoes 127 = .ok (.iload 4, 2) := by decide +kernel
theorem dX12_blockGoes_129 : decode cX12_blockGoes 129 = .ok (.iload_n 3, 1) := by decide +kernel
theorem dX12_blockGoes_130 : decode cX12_blockGoes 130 = .ok (.iload_n 2, 1) := by decide +kernel
theorem dX12_blockGoes_131 : decode cX12_blockGoes 131 = .ok (.iadd, 1) := by decide +kernel
theorem dX12_blockGoes_132 : decode cX12_blockGoes 132 = .ok (.if_icmp .ge 20, 3) := by decide +kernel
theorem dX12_blockGoes_135 : decode cX12_blockGoes 135 = .ok (.aload_n 0, 1) := by decide +kernel
theorem dX12_blockGoes_136 : decode cX12_blockGoes 136 = .ok (.getfield 84, 3) := by decide +kernel
theorem dX12_blockGoes_139 : decode cX12_blockGoes 139 = .ok (.iload 4, 2) := by decide +kernel
theorem dX12_blockGoes_141 : decode cX12_blockGoes 141 = .ok (.iconst 0, 1) := by decide +kernel
theorem dX12_blockGoes_142 : decode cX12_blockGoes 142 = .ok (.iconst 0, 1) := by decide +kernel
theorem dX12_blockGoes_143 : decode cX12_blockGoes 143 = .ok (.invokestatic 247, 3) := by decide +kernel
theorem dX12_blockGoes_146 : decode cX12_blockGoes 146 = .ok (.iinc 4 1, 3) := by decide +kernel
theorem dX12_blockGoes_149 : decode cX12_blockGoes 149 = .ok (.goto (-22), 3) := by decide +kernel
theorem dX12_blockGoes_152 : decode cX12_blockGoes 152 = .ok (.return_, 1) := by decide +kernel
theorem dX12_canHold_0 : decode cX12_canHold 0 = .ok (.iload_n 1, 1) := by decide +kernel
theorem dX12_canHold_1 : decode cX12_canHold 1 = .ok (.tableswitch 89 0 3 #[31, 43, 59, 73], 31) := by decide +kernel
theorem dX12_canHold_32 : decode cX12_canHold 32 = .ok (.iload_n 2, 1) := by decide +kernel
theorem dX12_canHold_33 : decode cX12_canHold 33 = .ok (.i2l, 1) := by decide +kernel
theorem dX12_canHold_34 : decode cX12_canHold 34 = .ok (.ldc2_w 508, 3) := by decide +kernel
theorem dX12_canHold_37 : decode cX12_canHold 37 = .ok (.ldc2_w 510, 3) := by decide +kernel
theorem dX12_canHold_40 : decode cX12_canHold 40 = .ok (.invokestatic 178, 3) := by decide +kernel
theorem dX12_canHold_43 : decode cX12_canHold 43 = .ok (.ireturn, 1) := by decide +kernel
theorem dX12_canHold_44 : decode cX12_canHold 44 = .ok (.iload_n 2, 1) := by decide +kernel
theorem dX12_canHold_45 : decode cX12_canHold 45 = .ok (.i2l, 1) := by decide +kernel
theorem dX12_canHold_46 : decode cX12_canHold 46 = .ok (.ldc2_w 512, 3) := by decide +kernel
theorem dX12_canHold_49 : decode cX12_canHold 49 = .ok (.aload_n 0, 1) := by decide +kernel
theorem dX12_canHold_50 : decode cX12_canHold 50 = .ok (.getfield 325, 3) := by decide +kernel
theorem dX12_canHold_53 : decode cX12_canHold 53 = .ok (.iconst 1, 1) := by decide +kernel
theorem dX12_canHold_54 : decode cX12_canHold 54 = .ok (.isub, 1) := by decide +kernel
theorem dX12_canHold_55 : decode cX12_canHold 55 = .ok (.i2l, 1) := by decide +kernel
theorem dX12_canHold_56 : decode cX12_canHold 56 = .ok (.invokestatic 178, 3) := by decide +kernel
theorem dX12_canHold_59 : decode cX12_canHold 59 = .ok (.ireturn, 1) := by decide +kernel
theorem dX12_canHold_60 : decode cX12_canHold 60 = .ok (.iload_n 2, 1) := by decide +kernel
theorem dX12_canHold_61 : decode cX12_canHold 61 = .ok (.i2l, 1) := by decide +kernel
theorem dX12_canHold_62 : decode cX12_canHold 62 = .ok (.lconst 0, 1) := by decide +kernel
theorem dX12_canHold_63 : decode cX12_canHold 63 = .ok (.aload_n 0, 1) := by decide +kernel
theorem dX12_canHold_64 : decode cX12_canHold 64 = .ok (.getfield 328, 3) := by decide +kernel
theorem dX12_canHold_67 : decode cX12_canHold 67 = .ok (.iconst 1, 1) := by decide +kernel
theorem dX12_canHold_68 : decode cX12_canHold 68 = .ok (.isub, 1) := by decide +kernel
theorem dX12_canHold_69 : decode cX12_canHold 69 = .ok (.i2l, 1) := by decide +kernel
theorem dX12_canHold_70 : decode cX12_canHold 70 = .ok (.invokestatic 178, 3) := by decide +kernel
theorem dX12_canHold_73 : decode cX12_canHold 73 = .ok (.ireturn, 1) := by decide +kernel
theorem dX12_canHold_74 : decode cX12_canHold 74 = .ok (.iload_n 2, 1) := by decide +kernel
theorem dX12_canHold_75 : decode cX12_canHold 75 = .ok (.i2l, 1) := by decide +kernel
theorem dX12_canHold_76 : decode cX12_canHold 76 = .ok (.ldc2_w 448, 3) := by decide +kernel
theorem dX12_canHold_79 : decode cX12_canHold 79 = .ok (.aload_n 0, 1) := by decide +kernel
theorem dX12_canHold_80 : decode cX12_canHold 80 = .ok (.getfield 325, 3) := by decide +kernel
theorem dX12_canHold_83 : decode cX12_canHold 83 = .ok (.iconst 1, 1) := by decide +kernel
theorem dX12_canHold_84 : decode cX12_canHold 84 = .ok (.isub, 1) := by decide +kernel
theorem dX12_canHold_85 : decode cX12_canHold 85 = .ok (.i2l, 1) := by decide +kernel
theorem dX12_canHold_86 : decode cX12_canHold 86 = .ok (.invokestatic 178, 3) := by decide +kernel
theorem dX12_canHold_89 : decode cX12_canHold 89 = .ok (.ireturn, 1) := by decide +kernel
theorem dX12_canHold_90 : decode cX12_canHold 90 = .ok (.iconst 0, 1) := by decide +kernel
theorem dX12_canHold_91 : decode cX12_canHold 91 = .ok (.ireturn, 1) := by decide +kernel
theorem dX12_cell_0 : decode cX12_cell 0 = .ok (.aload_n 0, 1) := by decide +kernel
theorem dX12_cell_1 : decode cX12_cell 1 = .ok (.invokevirtual 452, 3) := by decide +kernel
theorem dX12_cell_4 : decode cX12_cell 4 = .ok (.ifCond .eq 19, 3) := by decide +kernel
theorem dX12_cell_7 : decode cX12_cell 7 = .ok (.iload_n 1, 1) := by decide +kernel
theorem dX12_cell_8 : decode cX12_cell 8 = .ok (.i2l, 1) := by decide +kernel
theorem dX12_cell_9 : decode cX12_cell 9 = .ok (.lconst 0, 1) := by decide +kernel
theorem dX12_cell_10 : decode cX12_cell 10 = .ok (.aload_n 0, 1) := by decide +kernel
theorem dX12_cell_11 : decode cX12_cell 11 = .ok (.getfield 343, 3) := by decide +kernel
theorem dX12_cell_14 : decode cX12_cell 14 = .ok (.iconst 1, 1) := by decide +kernel
theorem dX12_cell_15 : decode cX12_cell 15 = .ok (.isub, 1) := by decide +kernel
theorem dX12_cell_16 : decode cX12_cell 16 = .ok (.i2l, 1) := by decide +kernel
theorem dX12_cell_17 : decode cX12_cell 17 = .ok (.invokestatic 178, 3) := by decide +kernel
theorem dX12_cell_20 : decode cX12_cell 20 = .ok (.ifCond .ne 5, 3) := by decide +kernel
theorem dX12_cell_23 : decode cX12_cell 23 = .ok (.iconst (-1), 1) := by decide +kernel
theorem dX12_cell_24 : decode cX12_cell 24 = .ok (.ireturn, 1) := by decide +kernel
theorem dX12_cell_25 : decode cX12_cell 25 = .ok (.iload_n 2, 1) := by decide +kernel
theorem dX12_cell_26 : decode cX12_cell 26 = .ok (.tableswitch 68 0 3 #[30, 37, 43, 53], 30) := by decide +kernel
theorem dX12_cell_56 : decode cX12_cell 56 = .ok (.aload_n 0, 1) := by decide +kernel
theorem dX12_cell_57 : decode cX12_cell 57 = .ok (.getfield 87, 3) := by decide +kernel
theorem dX12_cell_60 : decode cX12_cell 60 = .ok (.iload_n 1, 1) := by decide +kernel
theorem dX12_cell_61 : decode cX12_cell 61 = .ok (.iaload, 1) := by decide +kernel
theorem dX12_cell_62 : decode cX12_cell 62 = .ok (.ireturn, 1) := by decide +kernel
theorem dX12_cell_63 : decode cX12_cell 63 = .ok (.aload_n 0, 1) := by decide +kernel
theorem dX12_cell_64 : decode cX12_cell 64 = .ok (.iload_n 1, 1) := by decide +kernel
theorem dX12_cell_65 : decode cX12_cell 65 = .ok (.invokevirtual 353, 3) := by decide +kernel
theorem dX12_cell_68 : decode cX12_cell 68 = .ok (.ireturn, 1) := by decide +kernel
theorem dX12_cell_69 : decode cX12_cell 69 = .ok (.aload_n 0, 1) := by decide +kernel
theorem dX12_cell_70 : decode cX12_cell 70 = .ok (.aload_n 0, 1) := by decide +kernel
theorem dX12_cell_71 : decode cX12_cell 71 = .ok (.iload_n 1, 1) := by decide +kernel
theorem dX12_cell_72 : decode cX12_cell 72 = .ok (.invokevirtual 353, 3) := by decide +kernel
theorem dX12_cell_75 : decode cX12_cell 75 = .ok (.invokevirtual 346, 3) := by decide +kernel
theorem dX12_cell_78 : decode cX12_cell 78 = .ok (.ireturn, 1) := by decide +kernel
theorem dX12_cell_79 : decode cX12_cell 79 = .ok (.aload_n 0, 1) := by decide +kernel
theorem dX12_cell_80 : decode cX12_cell 80 = .ok (.getfield 93, 3) := by decide +kernel
theorem dX12_cell_83 : decode cX12_cell 83 = .ok (.iload_n 1, 1) := by decide +kernel
theorem dX12_cell_84 : decode cX12_cell 84 = .ok (.baload, 1) := by decide +kernel
theorem dX12_cell_85 : decode cX12_cell 85 = .ok (.ifCond .eq 7, 3) := by decide +kernel
theorem dX12_cell_88 : decode cX12_cell 88 = .ok (.iconst 1, 1) := by decide +kernel
theorem dX12_cell_89 : decode cX12_cell 89 = .ok (.goto 4, 3) := by decide +kernel
theorem dX12_cell_92 : decode cX12_cell 92 = .ok (.iconst 0, 1) := by decide +kernel
theorem dX12_cell_93 : decode cX12_cell 93 = .ok (.ireturn, 1) := by decide +kernel
theorem dX12_cell_94 : decode cX12_cell 94 = .ok (.iconst (-1), 1) := by decide +kernel
theorem dX12_cell_95 : decode cX12_cell 95 = .ok (.ireturn, 1) := by decide +kernel
theorem dX12_cellAt_0 : decode cX12_cellAt 0 = .ok (.bipush 86, 2) := by decide +kernel
theorem dX12_cellAt_2 : decode cX12_cellAt 2 = .ok (.iconst 2, 1) := by decide +kernel
theorem dX12_cellAt_3 : decode cX12_cellAt 3 = .ok (.iload_n 0, 1) := by decide +kernel
theorem dX12_cellAt_4 : decode cX12_cellAt 4 = .ok (.bipush 8, 2) := by decide +kernel
theorem dX12_cellAt_6 : decode cX12_cellAt 6 = .ok (.iadd, 1) := by decide +kernel
theorem dX12_cellAt_7 : decode cX12_cellAt 7 = .ok (.imul, 1) := by decide +kernel
theorem dX12_cellAt_8 : decode cX12_cellAt 8 = .ok (.iadd, 1) := by decide +kernel
theorem dX12_cellAt_9 : decode cX12_cellAt 9 = .ok (.ireturn, 1) := by decide +kernel
theorem dX12_cellBy_0 : decode cX12_cellBy 0 = .ok (.aload_n 0, 1) := by decide +kernel
theorem dX12_cellBy_1 : decode cX12_cellBy 1 = .ok (.aload_n 0, 1) := by decide +kernel
theorem dX12_cellBy_2 : decode cX12_cellBy 2 = .ok (.iload_n 1, 1) := by decide +kernel
theorem dX12_cellBy_3 : decode cX12_cellBy 3 = .ok (.invokevirtual 353, 3) := by decide +kernel
theorem dX12_cellBy_6 : decode cX12_cellBy 6 = .ok (.iload_n 2, 1) := by decide +kernel
theorem dX12_cellBy_7 : decode cX12_cellBy 7 = .ok (.invokevirtual 356, 3) := by decide +kernel
theorem dX12_cellBy_10 : decode cX12_cellBy 10 = .ok (.iconst 1, 1) := by decide +kernel
theorem dX12_cellBy_11 : decode cX12_cellBy 11 = .ok (.if_icmp .ne 20, 3) := by decide +kernel
theorem dX12_cellBy_14 : decode cX12_cellBy 14 = .ok (.aload_n 0, 1) := by decide +kernel
theorem dX12_cellBy_15 : decode cX12_cellBy 15 = .ok (.aload_n 0, 1) := by decide +kernel
theorem dX12_cellBy_16 : decode cX12_cellBy 16 = .ok (.getfield 87, 3) := by decide +kernel
theorem dX12_cellBy_19 : decode cX12_cellBy 19 = .ok (.iload_n 1, 1) := by decide +kernel
theorem dX12_cellBy_20 : decode cX12_cellBy 20 = .ok (.iaload, 1) := by decide +kernel
theorem dX12_cellBy_21 : decode cX12_cellBy 21 = .ok (.iconst 1, 1) := by decide +kernel
theorem dX12_cellBy_22 : decode cX12_cellBy 22 = .ok (.iadd, 1) := by decide +kernel
theorem dX12_cellBy_23 : decode cX12_cellBy 23 = .ok (.iload_n 2, 1) := by decide +kernel
theorem dX12_cellBy_24 : decode cX12_cellBy 24 = .ok (.iadd, 1) := by decide +kernel
theorem dX12_cellBy_25 : decode cX12_cellBy 25 = .ok (.invokevirtual 359, 3) := by decide +kernel
theorem dX12_cellBy_28 : decode cX12_cellBy 28 = .ok (.goto 4, 3) := by decide +kernel
theorem dX12_cellBy_31 : decode cX12_cellBy 31 = .ok (.iconst (-1), 1) := by decide +kernel
theorem dX12_cellBy_32 : decode cX12_cellBy 32 = .ok (.ireturn, 1) := by decide +kernel
theorem dX12_cellFrom_0 : decode cX12_cellFrom 0 = .ok (.aload_n 0, 1) := by decide +kernel
theorem dX12_cellFrom_1 : decode cX12_cellFrom 1 = .ok (.getfield 78, 3) := by decide +kernel
theorem dX12_cellFrom_4 : decode cX12_cellFrom 4 = .ok (.iload_n 1, 1) := by decide +kernel
theorem dX12_cellFrom_5 : decode cX12_cellFrom 5 = .ok (.invokestatic 349, 3) := by decide +kernel
theorem dX12_cellFrom_8 : decode cX12_cellFrom 8 = .ok (.ifCond .eq 19, 3) := by decide +kernel
theorem dX12_cellFrom_11 : decode cX12_cellFrom 11 = .ok (.aload_n 0, 1) := by decide +kernel
theorem dX12_cellFrom_12 : decode cX12_cellFrom 12 = .ok (.getfield 90, 3) := by decide +kernel
theorem dX12_cellFrom_15 : decode cX12_cellFrom 15 = .ok (.aload_n 0, 1) := by decide +kernel
theorem dX12_cellFrom_16 : decode cX12_cellFrom 16 = .ok (.getfield 78, 3) := by decide +kernel
theorem dX12_cellFrom_19 : decode cX12_cellFrom 19 = .ok (.iload_n 1, 1) := by decide +kernel
theorem dX12_cellFrom_20 : decode cX12_cellFrom 20 = .ok (.invokestatic 244, 3) := by decide +kernel
theorem dX12_cellFrom_23 : decode cX12_cellFrom 23 = .ok (.iaload, 1) := by decide +kernel
theorem dX12_cellFrom_24 : decode cX12_cellFrom 24 = .ok (.goto 4, 3) := by decide +kernel
theorem dX12_cellFrom_27 : decode cX12_cellFrom 27 = .ok (.iconst (-1), 1) := by decide +kernel
theorem dX12_cellFrom_28 : decode cX12_cellFrom 28 = .ok (.ireturn, 1) := by decide +kernel
theorem dX12_cellNew_0 : decode cX12_cellNew 0 = .ok (.aload_n 0, 1) := by decide +kernel
theorem dX12_cellNew_1 : decode cX12_cellNew 1 = .ok (.invokevirtual 266, 3) := by decide +kernel
theorem dX12_cellNew_4 : decode cX12_cellNew 4 = .ok (.istore_n 1, 1) := by decide +kernel
theorem dX12_cellNew_5 : decode cX12_cellNew 5 = .ok (.aload_n 0, 1) := by decide +kernel
theorem dX12_cellNew_6 : decode cX12_cellNew 6 = .ok (.invokevirtual 283, 3) := by decide +kernel
theorem dX12_cellNew_9 : decode cX12_cellNew 9 = .ok (.istore_n 2, 1) := by decide +kernel
theorem dX12_cellNew_10 : decode cX12_cellNew 10 = .ok (.aload_n 0, 1) := by decide +kernel
theorem dX12_cellNew_11 : decode cX12_cellNew 11 = .ok (.getfield 194, 3) := by decide +kernel
theorem dX12_cellNew_14 : decode cX12_cellNew 14 = .ok (.ifCond .ne 29, 3) := by decide +kernel
theorem dX12_cellNew_17 : decode cX12_cellNew 17 = .ok (.iconst 1, 1) := by decide +kernel
theorem dX12_cellNew_18 : decode cX12_cellNew 18 = .ok (.aload_n 0, 1) := by decide +kernel
theorem dX12_cellNew_19 : decode cX12_cellNew 19 = .ok (.getfield 63, 3) := by decide +kernel
theorem dX12_cellNew_22 : decode cX12_cellNew 22 = .ok (.iload_n 2, 1) := by decide +kernel
theorem dX12_cellNew_23 : decode cX12_cellNew 23 = .ok (.iaload, 1) := by decide +kernel
theorem dX12_cellNew_24 : decode cX12_cellNew 24 = .ok (.iadd, 1) := by decide +kernel
theorem dX12_cellNew_25 : decode cX12_cellNew 25 = .ok (.aload_n 0, 1) := by decide +kernel
theorem dX12_cellNew_26 : decode cX12_cellNew 26 = .ok (.getfield 81, 3) := by decide +kernel
theorem dX12_cellNew_29 : decode cX12_cellNew 29 = .ok (.iconst 1, 1) := by decide +kernel
theorem dX12_cellNew_30 : decode cX12_cellNew 30 = .ok (.iaload, 1) := by decide +kernel
theorem dX12_cellNew_31 : decode cX12_cellNew 31 = .ok (.if_icmp .le 12, 3) := by decide +kernel
theorem dX12_cellNew_34 : decode cX12_cellNew 34 = .ok (.aload_n 0, 1) := by decide +kernel
theorem dX12_cellNew_35 : decode cX12_cellNew 35 = .ok (.iconst 4, 1) := by decide +kernel
theorem dX12_cellNew_36 : decode cX12_cellNew 36 = .ok (.aload_n 0, 1) := by decide +kernel
theorem dX12_cellNew_37 : decode cX12_cellNew 37 = .ok (.getfield 231, 3) := by decide +kernel
theorem dX12_cellNew_40 : decode cX12_cellNew 40 = .ok (.invokevirtual 214, 3) := by decide +kernel
theorem dX12_cellNew_43 : decode cX12_cellNew 43 = .ok (.aload_n 0, 1) := by decide +kernel
theorem dX12_cellNew_44 : decode cX12_cellNew 44 = .ok (.getfield 194, 3) := by decide +kernel
theorem dX12_cellNew_47 : decode cX12_cellNew 47 = .ok (.ifCond .eq 4, 3) := by decide +kernel
theorem dX12_cellNew_50 : decode cX12_cellNew 50 = .ok (.return_, 1) := by decide +kernel
theorem dX12_cellNew_51 : decode cX12_cellNew 51 = .ok (.aload_n 0, 1) := by decide +kernel
theorem dX12_cellNew_52 : decode cX12_cellNew 52 = .ok (.getfield 81, 3) := by decide +kernel
theorem dX12_cellNew_55 : decode cX12_cellNew 55 = .ok (.iconst 1, 1) := by decide +kernel
theorem dX12_cellNew_56 : decode cX12_cellNew 56 = .ok (.dup2, 1) := by decide +kernel
theorem dX12_cellNew_57 : decode cX12_cellNew 57 = .ok (.iaload, 1) := by decide +kernel
theorem dX12_cellNew_58 : decode cX12_cellNew 58 = .ok (.iconst 1, 1) := by decide +kernel
theorem dX12_cellNew_59 : decode cX12_cellNew 59 = .ok (.aload_n 0, 1) := by decide +kernel
theorem dX12_cellNew_60 : decode cX12_cellNew 60 = .ok (.getfield 63, 3) := by decide +kernel
theorem dX12_cellNew_63 : decode cX12_cellNew 63 = .ok (.iload_n 2, 1) := by decide +kernel
theorem dX12_cellNew_64 : decode cX12_cellNew 64 = .ok (.iaload, 1) := by decide +kernel
theorem dX12_cellNew_65 : decode cX12_cellNew 65 = .ok (.iadd, 1) := by decide +kernel
theorem dX12_cellNew_66 : decode cX12_cellNew 66 = .ok (.isub, 1) := by decide +kernel
theorem dX12_cellNew_67 : decode cX12_cellNew 67 = .ok (.iastore, 1) := by decide +kernel
theorem dX12_cellNew_68 : decode cX12_cellNew 68 = .ok (.aload_n 0, 1) := by decide +kernel
theorem dX12_cellNew_69 : decode cX12_cellNew 69 = .ok (.getfield 81, 3) := by decide +kernel
theorem dX12_cellNew_72 : decode cX12_cellNew 72 = .ok (.iconst 1, 1) := by decide +kernel
theorem dX12_cellNew_73 : decode cX12_cellNew 73 = .ok (.iaload, 1) := by decide +kernel
theorem dX12_cellNew_74 : decode cX12_cellNew 74 = .ok (.istore_n 3, 1) := by decide +kernel
theorem dX12_cellNew_75 : decode cX12_cellNew 75 = .ok (.aload_n 0, 1) := by decide +kernel
theorem dX12_cellNew_76 : decode cX12_cellNew 76 = .ok (.getfield 81, 3) := by decide +kernel
theorem dX12_cellNew_79 : decode cX12_cellNew 79 = .ok (.iload_n 3, 1) := by decide +kernel
theorem dX12_cellNew_80 : decode cX12_cellNew 80 = .ok (.iconst 2, 1) := by decide +kernel
theorem dX12_cellNew_81 : decode cX12_cellNew 81 = .ok (.iload_n 2, 1) := by decide +kernel
theorem dX12_cellNew_82 : decode cX12_cellNew 82 = .ok (.invokestatic 247, 3) := by decide +kernel
theorem dX12_cellNew_85 : decode cX12_cellNew 85 = .ok (.iconst 0, 1) := by decide +kernel
theorem dX12_cellNew_86 : decode cX12_cellNew 86 = .ok (.istore 4, 2) := by decide +kernel
theorem dX12_cellNew_88 : decode cX12_cellNew 88 = .ok (.iload 4, 2) := by decide +kernel
theorem dX12_cellNew_90 : decode cX12_cellNew 90 = .ok (.aload_n 0, 1) := by decide +kernel
theorem dX12_cellNew_91 : decode cX12_cellNew 91 = .ok (.getfield 63, 3) := by decide +kernel
theorem dX12_cellNew_94 : decode cX12_cellNew 94 = .ok (.iload_n 2, 1) := by decide +kernel
theorem dX12_cellNew_95 : decode cX12_cellNew 95 = .ok (.iaload, 1) := by decide +kernel
theorem dX12_cellNew_96 : decode cX12_cellNew 96 = .ok (.if_icmp .ge 34, 3) := by decide +kernel
theorem dX12_cellNew_99 : decode cX12_cellNew 99 = .ok (.aload_n 0, 1) := by decide +kernel
theorem dX12_cellNew_100 : decode cX12_cellNew 100 = .ok (.getfield 81, 3) := by decide +kernel
theorem dX12_cellNew_103 : decode cX12_cellNew 103 = .ok (.iload_n 3, 1) := by decide +kernel
theorem dX12_cellNew_104 : decode cX12_cellNew 104 = .ok (.iconst 1, 1) := by decide +kernel
theorem dX12_cellNew_105 : decode cX12_cellNew 105 = .ok (.iadd, 1) := by decide +kernel
theorem dX12_cellNew_106 : decode cX12_cellNew 106 = .ok (.iload 4, 2) := by decide +kernel
theorem dX12_cellNew_108 : decode cX12_cellNew 108 = .ok (.iadd, 1) := by decide +kernel
theorem dX12_cellNew_109 : decode cX12_cellNew 109 = .ok (.aload_n 0, 1) := by decide +kernel
theorem dX12_cellNew_110 : decode cX12_cellNew 110 = .ok (.getfield 66, 3) := by decide +kernel
theorem dX12_cellNew_113 : decode cX12_cellNew 113 = .ok (.bipush 6, 2) := by decide +kernel
theorem dX12_cellNew_115 : decode cX12_cellNew 115 = .ok (.iload_n 2, 1) := by decide +kernel
theorem dX12_cellNew_116 : decode cX12_cellNew 116 = .ok (.imul, 1) := by decide +kernel
theorem dX12_cellNew_117 : decode cX12_cellNew 117 = .ok (.iload 4, 2) := by decide +kernel
theorem dX12_cellNew_119 : decode cX12_cellNew 119 = .ok (.iadd, 1) := by decide +kernel
theorem dX12_cellNew_120 : decode cX12_cellNew 120 = .ok (.iaload, 1) := by decide +kernel
theorem dX12_cellNew_121 : decode cX12_cellNew 121 = .ok (.invokestatic 286, 3) := by decide +kernel
theorem dX12_cellNew_124 : decode cX12_cellNew 124 = .ok (.iinc 4 1, 3) := by decide +kernel
theorem dX12_cellNew_127 : decode cX12_cellNew 127 = .ok (.goto (-39), 3) := by decide +kernel
theorem dX12_cellNew_130 : decode cX12_cellNew 130 = .ok (.aload_n 0, 1) := by decide +kernel
theorem dX12_cellNew_131 : decode cX12_cellNew 131 = .ok (.getfield 72, 3) := by decide +kernel
theorem dX12_cellNew_134 : decode cX12_cellNew 134 = .ok (.aload_n 0, 1) := by decide +kernel
theorem dX12_cellNew_135 : decode cX12_cellNew 135 = .ok (.getfield 254, 3) := by decide +kernel
theorem dX12_cellNew_138 : decode cX12_cellNew 138 = .ok (.iload_n 1, 1) := by decide +kernel
theorem dX12_cellNew_139 : decode cX12_cellNew 139 = .ok (.iastore, 1) := by decide +kernel
theorem dX12_cellNew_140 : decode cX12_cellNew 140 = .ok (.aload_n 0, 1) := by decide +kernel
theorem dX12_cellNew_141 : decode cX12_cellNew 141 = .ok (.getfield 75, 3) := by decide +kernel
theorem dX12_cellNew_144 : decode cX12_cellNew 144 = .ok (.aload_n 0, 1) := by decide +kernel
theorem dX12_cellNew_145 : decode cX12_cellNew 145 = .ok (.getfield 254, 3) := by decide +kernel
theorem dX12_cellNew_148 : decode cX12_cellNew 148 = .ok (.iload_n 3, 1) := by decide +kernel
theorem dX12_cellNew_149 : decode cX12_cellNew 149 = .ok (.iastore, 1) := by decide +kernel
theorem dX12_cellNew_150 : decode cX12_cellNew 150 = .ok (.aload_n 0, 1) := by decide +kernel
theorem dX12_cellNew_151 : decode cX12_cellNew 151 = .ok (.dup, 1) := by decide +kernel
theorem dX12_cellNew_152 : decode cX12_cellNew 152 = .ok (.getfield 254, 3) := by decide +kernel
theorem dX12_cellNew_155 : decode cX12_cellNew 155 = .ok (.iconst 1, 1) := by decide +kernel
theorem dX12_cellNew_156 : decode cX12_cellNew 156 = .ok (.iadd, 1) := by decide +kernel
theorem dX12_cellNew_157 : decode cX12_cellNew 157 = .ok (.putfield 254, 3) := by decide +kernel
theorem dX12_cellNew_160 : decode cX12_cellNew 160 = .ok (.iconst 0, 1) := by decide +kernel
theorem dX12_cellNew_161 : decode cX12_cellNew 161 = .ok (.istore 4, 2) := by decide +kernel
theorem dX12_cellNew_163 : decode cX12_cellNew 163 = .ok (.iload 4, 2) := by decide +kernel
theorem dX12_cellNew_165 : decode cX12_cellNew 165 = .ok (.aload_n 0, 1) := by decide +kernel
theorem dX12_cellNew_166 : decode cX12_cellNew 166 = .ok (.getfield 63, 3) := by decide +kernel
theorem dX12_cellNew_169 : decode cX12_cellNew 169 = .ok (.iload_n 2, 1) := by decide +kernel
theorem dX12_cellNew_170 : decode cX12_cellNew 170 = .ok (.iaload, 1) := by decide +kernel
theorem dX12_cellNew_171 : decode cX12_cellNew 171 = .ok (.if_icmp .ge 49, 3) := by decide +kernel
theorem dX12_cellNew_174 : decode cX12_cellNew 174 = .ok (.iload 4, 2) := by decide +kernel
theorem dX12_cellNew_176 : decode cX12_cellNew 176 = .ok (.ifCond .le 9, 3) := by decide +kernel
theorem dX12_cellNew_179 : decode cX12_cellNew 179 = .ok (.aload_n 0, 1) := by decide +kernel
theorem dX12_cellNew_180 : decode cX12_cellNew 180 = .ok (.bipush 44, 2) := by decide +kernel
theorem dX12_cellNew_182 : decode cX12_cellNew 182 = .ok (.invokevirtual 290, 3) := by decide +kernel
theorem dX12_cellNew_185 : decode cX12_cellNew 185 = .ok (.aload_n 0, 1) := by decide +kernel
theorem dX12_cellNew_186 : decode cX12_cellNew 186 = .ok (.getfield 194, 3) := by decide +kernel
theorem dX12_cellNew_189 : decode cX12_cellNew 189 = .ok (.ifCond .ne 25, 3) := by decide +kernel
theorem dX12_cellNew_192 : decode cX12_cellNew 192 = .ok (.aload_n 0, 1) := by decide +kernel
theorem dX12_cellNew_193 : decode cX12_cellNew 193 = .ok (.aload_n 0, 1) := by decide +kernel
theorem dX12_cellNew_194 : decode cX12_cellNew 194 = .ok (.getfield 66, 3) := by decide +kernel
theorem dX12_cellNew_197 : decode cX12_cellNew 197 = .ok (.bipush 6, 2) := by decide +kernel
theorem dX12_cellNew_199 : decode cX12_cellNew 199 = .ok (.iload_n 2, 1) := by decide +kernel
theorem dX12_cellNew_200 : decode cX12_cellNew 200 = .ok (.imul, 1) := by decide +kernel
theorem dX12_cellNew_201 : decode cX12_cellNew 201 = .ok (.iload 4, 2) := by decide +kernel
theorem dX12_cellNew_203 : decode cX12_cellNew 203 = .ok (.iadd, 1) := by decide +kernel
theorem dX12_cellNew_204 : decode cX12_cellNew 204 = .ok (.iaload, 1) := by decide +kernel
theorem dX12_cellNew_205 : decode cX12_cellNew 205 = .ok (.iload_n 3, 1) := by decide +kernel
theorem dX12_cellNew_206 : decode cX12_cellNew 206 = .ok (.iconst 1, 1) := by decide +kernel
theorem dX12_cellNew_207 : decode cX12_cellNew 207 = .ok (.iadd, 1) := by decide +kernel
theorem dX12_cellNew_208 : decode cX12_cellNew 208 = .ok (.iload 4, 2) := by decide +kernel
theorem dX12_cellNew_210 : decode cX12_cellNew 210 = .ok (.iadd, 1) := by decide +kernel
theorem dX12_cellNew_211 : decode cX12_cellNew 211 = .ok (.invokevirtual 294, 3) := by decide +kernel
theorem dX12_cellNew_214 : decode cX12_cellNew 214 = .ok (.iinc 4 1, 3) := by decide +kernel
theorem dX12_cellNew_217 : decode cX12_cellNew 217 = .ok (.goto (-54), 3) := by decide +kernel
theorem dX12_cellNew_220 : decode cX12_cellNew 220 = .ok (.return_, 1) := by decide +kernel
theorem dX12_cellOf_0 : decode cX12_cellOf 0 = .ok (.aload_n 0, 1) := by decide +kernel
theorem dX12_cellOf_1 : decode cX12_cellOf 1 = .ok (.iload_n 1, 1) := by decide +kernel
theorem dX12_cellOf_2 : decode cX12_cellOf 2 = .ok (.invokevirtual 455, 3) := by decide +kernel
theorem dX12_cellOf_5 : decode cX12_cellOf 5 = .ok (.ifCond .eq 27, 3) := by decide +kernel
theorem dX12_cellOf_8 : decode cX12_cellOf 8 = .ok (.aload_n 0, 1) := by decide +kernel
theorem dX12_cellOf_9 : decode cX12_cellOf 9 = .ok (.getfield 90, 3) := by decide +kernel
theorem dX12_cellOf_12 : decode cX12_cellOf 12 = .ok (.iload_n 1, 1) := by decide +kernel
theorem dX12_cellOf_13 : decode cX12_cellOf 13 = .ok (.iaload, 1) := by decide +kernel
theorem dX12_cellOf_14 : decode cX12_cellOf 14 = .ok (.iconst (-1), 1) := by decide +kernel
theorem dX12_cellOf_15 : decode cX12_cellOf 15 = .ok (.if_icmp .eq 17, 3) := by decide +kernel
theorem dX12_cellOf_18 : decode cX12_cellOf 18 = .ok (.aload_n 0, 1) := by decide +kernel
theorem dX12_cellOf_19 : decode cX12_cellOf 19 = .ok (.getfield 87, 3) := by decide +kernel
theorem dX12_cellOf_22 : decode cX12_cellOf 22 = .ok (.aload_n 0, 1) := by decide +kernel
theorem dX12_cellOf_23 : decode cX12_cellOf 23 = .ok (.getfield 90, 3) := by decide +kernel
theorem dX12_cellOf_26 : decode cX12_cellOf 26 = .ok (.iload_n 1, 1) := by decide +kernel
theorem dX12_cellOf_27 : decode cX12_cellOf 27 = .ok (.iaload, 1) := by decide +kernel
theorem dX12_cellOf_28 : decode cX12_cellOf 28 = .ok (.iaload, 1) := by decide +kernel
theorem dX12_cellOf_29 : decode cX12_cellOf 29 = .ok (.goto 4, 3) := by decide +kernel
theorem dX12_cellOf_32 : decode cX12_cellOf 32 = .ok (.iconst (-1), 1) := by decide +kernel
theorem dX12_cellOf_33 : decode cX12_cellOf 33 = .ok (.ireturn, 1) := by decide +kernel
theorem dX12_cellTold_0 : decode cX12_cellTold 0 = .ok (.aload_n 0, 1) := by decide +kernel
theorem dX12_cellTold_1 : decode cX12_cellTold 1 = .ok (.aload_n 0, 1) := by decide +kernel
theorem dX12_cellTold_2 : decode cX12_cellTold 2 = .ok (.invokevirtual 257, 3) := by decide +kernel
theorem dX12_cellTold_5 : decode cX12_cellTold 5 = .ok (.invokevirtual 263, 3) := by decide +kernel
theorem dX12_cellTold_8 : decode cX12_cellTold 8 = .ok (.istore_n 1, 1) := by decide +kernel
theorem dX12_cellTold_9 : decode cX12_cellTold 9 = .ok (.aload_n 0, 1) := by decide +kernel
theorem dX12_cellTold_10 : decode cX12_cellTold 10 = .ok (.getfield 194, 3) := by decide +kernel
theorem dX12_cellTold_13 : decode cX12_cellTold 13 = .ok (.ifCond .ne 17, 3) := by decide +kernel
theorem dX12_cellTold_16 : decode cX12_cellTold 16 = .ok (.iload_n 1, 1) := by decide +kernel
theorem dX12_cellTold_17 : decode cX12_cellTold 17 = .ok (.iconst (-1), 1) := by decide +kernel
theorem dX12_cellTold_18 : decode cX12_cellTold 18 = .ok (.if_icmp .ne 12, 3) := by decide +kernel
theorem dX12_cellTold_21 : decode cX12_cellTold 21 = .ok (.aload_n 0, 1) := by decide +kernel
theorem dX12_cellTold_22 : decode cX12_cellTold 22 = .ok (.iconst 3, 1) := by decide +kernel
theorem dX12_cellTold_23 : decode cX12_cellTold 23 = .ok (.aload_n 0, 1) := by decide +kernel
theorem dX12_cellTold_24 : decode cX12_cellTold 24 = .ok (.getfield 231, 3) := by decide +kernel
theorem dX12_cellTold_27 : decode cX12_cellTold 27 = .ok (.invokevirtual 214, 3) := by decide +kernel
theorem dX12_cellTold_30 : decode cX12_cellTold 30 = .ok (.iload_n 1, 1) := by decide +kernel
theorem dX12_cellTold_31 : decode cX12_cellTold 31 = .ok (.ireturn, 1) := by decide +kernel
theorem dX12_chain_0 : decode cX12_chain 0 = .ok (.aload_n 0, 1) := by decide +kernel
theorem dX12_chain_1 : decode cX12_chain 1 = .ok (.iload_n 1, 1) := by decide +kernel
theorem dX12_chain_2 : decode cX12_chain 2 = .ok (.invokevirtual 455, 3) := by decide +kernel
theorem dX12_chain_5 : decode cX12_chain 5 = .ok (.ifCond .eq 30, 3) := by decide +kernel
theorem dX12_chain_8 : decode cX12_chain 8 = .ok (.iload_n 2, 1) := by decide +kernel
theorem dX12_chain_9 : decode cX12_chain 9 = .ok (.i2l, 1) := by decide +kernel
theorem dX12_chain_10 : decode cX12_chain 10 = .ok (.lconst 0, 1) := by decide +kernel
theorem dX12_chain_11 : decode cX12_chain 11 = .ok (.lconst 1, 1) := by decide +kernel
theorem dX12_chain_12 : decode cX12_chain 12 = .ok (.invokestatic 178, 3) := by decide +kernel
theorem dX12_chain_15 : decode cX12_chain 15 = .ok (.ifCond .eq 20, 3) := by decide +kernel
theorem dX12_chain_18 : decode cX12_chain 18 = .ok (.aload_n 0, 1) := by decide +kernel
theorem dX12_chain_19 : decode cX12_chain 19 = .ok (.iload_n 1, 1) := by decide +kernel
theorem dX12_chain_20 : decode cX12_chain 20 = .ok (.invokevirtual 375, 3) := by decide +kernel
theorem dX12_chain_23 : decode cX12_chain 23 = .ok (.ifCond .eq 12, 3) := by decide +kernel
theorem dX12_chain_26 : decode cX12_chain 26 = .ok (.aload_n 0, 1) := by decide +kernel
theorem dX12_chain_27 : decode cX12_chain 27 = .ok (.iload_n 1, 1) := by decide +kernel
theorem dX12_chain_28 : decode cX12_chain 28 = .ok (.iload_n 2, 1) := by decide +kernel
theorem dX12_chain_29 : decode cX12_chain 29 = .ok (.invokevirtual 458, 3) := by decide +kernel
theorem dX12_chain_32 : decode cX12_chain 32 = .ok (.goto 4, 3) := by decide +kernel
theorem dX12_chain_35 : decode cX12_chain 35 = .ok (.iconst (-1), 1) := by decide +kernel
theorem dX12_chain_36 : decode cX12_chain 36 = .ok (.ireturn, 1) := by decide +kernel
theorem dX12_chained_0 : decode cX12_chained 0 = .ok (.iconst 0, 1) := by decide +kernel
theorem dX12_chained_1 : decode cX12_chained 1 = .ok (.istore_n 3, 1) := by decide +kernel
theorem dX12_chained_2 : decode cX12_chained 2 = .ok (.bipush (-8), 2) := by decide +kernel
theorem dX12_chained_4 : decode cX12_chained 4 = .ok (.istore 4, 2) := by decide +kernel
theorem dX12_chained_6 : decode cX12_chained 6 = .ok (.iload 4, 2) := by decide +kernel
theorem dX12_chained_8 : decode cX12_chained 8 = .ok (.ifCond .ge 41, 3) := by decide +kernel
theorem dX12_chained_11 : decode cX12_chained 11 = .ok (.iload_n 2, 1) := by decide +kernel
theorem dX12_chained_12 : decode cX12_chained 12 = .ok (.ifCond .ne 37, 3) := by decide +kernel
theorem dX12_chained_15 : decode cX12_chained 15 = .ok (.aload_n 0, 1) := by decide +kernel
theorem dX12_chained_16 : decode cX12_chained 16 = .ok (.getfield 78, 3) := by decide +kernel
theorem dX12_chained_19 : decode cX12_chained 19 = .ok (.iload 4, 2) := by decide +kernel
theorem dX12_chained_21 : decode cX12_chained 21 = .ok (.invokestatic 349, 3) := by decide +kernel
theorem dX12_chained_24 : decode cX12_chained 24 = .ok (.ifCond .eq 19, 3) := by decide +kernel
theorem dX12_chained_27 : decode cX12_chained 27 = .ok (.aload_n 0, 1) := by decide +kernel
theorem dX12_chained_28 : decode cX12_chained 28 = .ok (.getfield 78, 3) := by decide +kernel
theorem dX12_chained_31 : decode cX12_chained 31 = .ok (.iload 4, 2) := by decide +kernel
theorem dX12_chained_33 : decode cX12_chained 33 = .ok (.invokestatic 244, 3) := by decide +kernel
theorem dX12_chained_36 : decode cX12_chained 36 = .ok (.iload_n 1, 1) := by decide +kernel
theorem dX12_chained_37 : decode cX12_chained 37 = .ok (.if_icmp .ne 6, 3) := by decide +kernel
theorem dX12_chained_40 : decode cX12_chained 40 = .ok (.iinc 3 1, 3) := by decide +kernel
theorem dX12_chained_43 : decode cX12_chained 43 = .ok (.iinc 4 1, 3) := by decide +kernel
theorem dX12_chained_46 : decode cX12_chained 46 = .ok (.goto (-40), 3) := by decide +kernel
theorem dX12_chained_49 : decode cX12_chained 49 = .ok (.iconst 0, 1) := by decide +kernel
theorem dX12_chained_50 : decode cX12_chained 50 = .ok (.istore 4, 2) := by decide +kernel
theorem dX12_chained_52 : decode cX12_chained 52 = .ok (.iload 4, 2) := by decide +kernel
theorem dX12_chained_54 : decode cX12_chained 54 = .ok (.aload_n 0, 1) := by decide +kernel
theorem dX12_chained_55 : decode cX12_chained 55 = .ok (.getfield 372, 3) := by decide +kernel
theorem dX12_chained_58 : decode cX12_chained 58 = .ok (.if_icmp .ge 65, 3) := by decide +kernel
theorem dX12_chained_61 : decode cX12_chained 61 = .ok (.aload_n 0, 1) := by decide +kernel
theorem dX12_chained_62 : decode cX12_chained 62 = .ok (.getfield 97, 3) := by decide +kernel
theorem dX12_chained_65 : decode cX12_chained 65 = .ok (.iload 4, 2) := by decide +kernel
theorem dX12_chained_67 : decode cX12_chained 67 = .ok (.iaload, 1) := by decide +kernel
theorem dX12_chained_68 : decode cX12_chained 68 = .ok (.istore 5, 2) := by decide +kernel
theorem dX12_chained_70 : decode cX12_chained 70 = .ok (.iload_n 2, 1) := by decide +kernel
theorem dX12_chained_71 : decode cX12_chained 71 = .ok (.ifCond .ne 12, 3) := by decide +kernel
theorem dX12_chained_74 : decode cX12_chained 74 = .ok (.iload 5, 2) := by decide +kernel
theorem dX12_chained_76 : decode cX12_chained 76 = .ok (.iload_n 1, 1) := by decide +kernel
theorem dX12_chained_77 : decode cX12_chained 77 = .ok (.if_icmp .ge 40, 3) := by decide +kernel
theorem dX12_chained_80 : decode cX12_chained 80 = .ok (.goto 9, 3) := by decide +kernel
theorem dX12_chained_83 : decode cX12_chained 83 = .ok (.iload 5, 2) := by decide +kernel
theorem dX12_chained_85 : decode cX12_chained 85 = .ok (.iload_n 1, 1) := by decide +kernel
theorem dX12_chained_86 : decode cX12_chained 86 = .ok (.if_icmp .le 31, 3) := by decide +kernel
theorem dX12_chained_89 : decode cX12_chained 89 = .ok (.aload_n 0, 1) := by decide +kernel
theorem dX12_chained_90 : decode cX12_chained 90 = .ok (.getfield 78, 3) := by decide +kernel
theorem dX12_chained_93 : decode cX12_chained 93 = .ok (.iload 5, 2) := by decide +kernel
theorem dX12_chained_95 : decode cX12_chained 95 = .ok (.invokestatic 349, 3) := by decide +kernel
theorem dX12_chained_98 : decode cX12_chained 98 = .ok (.ifCond .eq 19, 3) := by decide +kernel
theorem dX12_chained_101 : decode cX12_chained 101 = .ok (.aload_n 0, 1) := by decide +kernel
theorem dX12_chained_102 : decode cX12_chained 102 = .ok (.getfield 78, 3) := by decide +kernel
theorem dX12_chained_105 : decode cX12_chained 105 = .ok (.iload 5, 2) := by decide +kernel
theorem dX12_chained_107 : decode cX12_chained 107 = .ok (.invokestatic 244, 3) := by decide +kernel
theorem dX12_chained_110 : decode cX12_chained 110 = .ok (.iload_n 1, 1) := by decide +kernel
theorem dX12_chained_111 : decode cX12_chained 111 = .ok (.if_icmp .ne 6, 3) := by decide +kernel
theorem dX12_chained_114 : decode cX12_chained 114 = .ok (.iinc 3 1, 3) := by decide +kernel
theorem dX12_chained_117 : decode cX12_chained 117 = .ok (.iinc 4 1, 3) := by decide +kernel
theorem dX12_chained_120 : decode cX12_chained 120 = .ok (.goto (-68), 3) := by decide +kernel
theorem dX12_chained_123 : decode cX12_chained 123 = .ok (.iload_n 3, 1) := by decide +kernel
theorem dX12_chained_124 : decode cX12_chained 124 = .ok (.ireturn, 1) := by decide +kernel
theorem dX12_chance_0 : decode cX12_chance 0 = .ok (.aload_n 0, 1) := by decide +kernel
theorem dX12_chance_1 : decode cX12_chance 1 = .ok (.invokevirtual 541, 3) := by decide +kernel
theorem dX12_chance_4 : decode cX12_chance 4 = .ok (.ifCond .eq 22, 3) := by decide +kernel
theorem dX12_chance_7 : decode cX12_chance 7 = .ok (.aload_n 0, 1) := by decide +kernel
theorem dX12_chance_8 : decode cX12_chance 8 = .ok (.getfield 328, 3) := by decide +kernel
theorem dX12_chance_11 : decode cX12_chance 11 = .ok (.ifCond .eq 15, 3) := by decide +kernel
theorem dX12_chance_14 : decode cX12_chance 14 = .ok (.iload_n 1, 1) := by decide +kernel
theorem dX12_chance_15 : decode cX12_chance 15 = .ok (.i2l, 1) := by decide +kernel
theorem dX12_chance_16 : decode cX12_chance 16 = .ok (.lconst 1, 1) := by decide +kernel
theorem dX12_chance_17 : decode cX12_chance 17 = .ok (.ldc2_w 572, 3) := by decide +kernel
theorem dX12_chance_20 : decode cX12_chance 20 = .ok (.invokestatic 178, 3) := by decide +kernel
theorem dX12_chance_23 : decode cX12_chance 23 = .ok (.ifCond .ne 9, 3) := by decide +kernel
theorem dX12_chance_26 : decode cX12_chance 26 = .ok (.aload_n 0, 1) := by decide +kernel
theorem dX12_chance_27 : decode cX12_chance 27 = .ok (.iconst 4, 1) := by decide +kernel
theorem dX12_chance_28 : decode cX12_chance 28 = .ok (.invokevirtual 168, 3) := by decide +kernel
theorem dX12_chance_31 : decode cX12_chance 31 = .ok (.ireturn, 1) := by decide +kernel
theorem dX12_chance_32 : decode cX12_chance 32 = .ok (.aload_n 0, 1) := by decide +kernel
theorem dX12_chance_33 : decode cX12_chance 33 = .ok (.invokevirtual 544, 3) := by decide +kernel
theorem dX12_chance_36 : decode cX12_chance 36 = .ok (.aload_n 0, 1) := by decide +kernel
theorem dX12_chance_37 : decode cX12_chance 37 = .ok (.getfield 78, 3) := by decide +kernel
theorem dX12_chance_40 : decode cX12_chance 40 = .ok (.iconst 2, 1) := by decide +kernel
theorem dX12_chance_41 : decode cX12_chance 41 = .ok (.iaload, 1) := by decide +kernel
theorem dX12_chance_42 : decode cX12_chance 42 = .ok (.istore_n 2, 1) := by decide +kernel
theorem dX12_chance_43 : decode cX12_chance 43 = .ok (.iconst 0, 1) := by decide +kernel
theorem dX12_chance_44 : decode cX12_chance 44 = .ok (.istore_n 3, 1) := by decide +kernel
theorem dX12_chance_45 : decode cX12_chance 45 = .ok (.iload_n 3, 1) := by decide +kernel
theorem dX12_chance_46 : decode cX12_chance 46 = .ok (.iload_n 1, 1) := by decide +kernel
theorem dX12_chance_47 : decode cX12_chance 47 = .ok (.if_icmp .ge 13, 3) := by decide +kernel
theorem dX12_chance_50 : decode cX12_chance 50 = .ok (.aload_n 0, 1) := by decide +kernel
theorem dX12_chance_51 : decode cX12_chance 51 = .ok (.invokevirtual 574, 3) := by decide +kernel
theorem dX12_chance_54 : decode cX12_chance 54 = .ok (.iinc 3 1, 3) := by decide +kernel
theorem dX12_chance_57 : decode cX12_chance 57 = .ok (.goto (-12), 3) := by decide +kernel
theorem dX12_chance_60 : decode cX12_chance 60 = .ok (.aload_n 0, 1) := by decide +kernel
theorem dX12_chance_61 : decode cX12_chance 61 = .ok (.getfield 78, 3) := by decide +kernel
theorem dX12_chance_64 : decode cX12_chance 64 = .ok (.iconst 2, 1) := by decide +kernel
theorem dX12_chance_65 : decode cX12_chance 65 = .ok (.iaload, 1) := by decide +kernel
theorem dX12_chance_66 : decode cX12_chance 66 = .ok (.iload_n 2, 1) := by decide +kernel
theorem dX12_chance_67 : decode cX12_chance 67 = .ok (.isub, 1) := by decide +kernel
theorem dX12_chance_68 : decode cX12_chance 68 = .ok (.ireturn, 1) := by decide +kernel
theorem dX12_changes_0 : decode cX12_changes 0 = .ok (.aload_n 0, 1) := by decide +kernel
theorem dX12_changes_1 : decode cX12_changes 1 = .ok (.bipush 8, 2) := by decide +kernel
theorem dX12_changes_3 : decode cX12_changes 3 = .ok (.invokevirtual 560, 3) := by decide +kernel
theorem dX12_changes_6 : decode cX12_changes 6 = .ok (.bipush 8, 2) := by decide +kernel
theorem dX12_changes_8 : decode cX12_changes 8 = .ok (.isub, 1) := by decide +kernel
theorem dX12_changes_9 : decode cX12_changes 9 = .ok (.istore_n 1, 1) := by decide +kernel
theorem dX12_changes_10 : decode cX12_changes 10 = .ok (.aload_n 0, 1) := by decide +kernel
theorem dX12_changes_11 : decode cX12_changes 11 = .ok (.iconst 4, 1) := by decide +kernel
theorem dX12_changes_12 : decode cX12_changes 12 = .ok (.invokevirtual 560, 3) := by decide +kernel
theorem dX12_changes_15 : decode cX12_changes 15 = .ok (.istore_n 2, 1) := by decide +kernel
theorem dX12_changes_16 : decode cX12_changes 16 = .ok (.iload_n 2, 1) := by decide +kernel
theorem dX12_changes_17 : decode cX12_changes 17 = .ok (.ifCond .ne 34, 3) := by decide +kernel
theorem dX12_changes_20 : decode cX12_changes 20 = .ok (.aload_n 0, 1) := by decide +kernel
theorem dX12_changes_21 : decode cX12_changes 21 = .ok (.aload_n 0, 1) := by decide +kernel
theorem dX12_changes_22 : decode cX12_changes 22 = .ok (.aload_n 0, 1) := by decide +kernel
theorem dX12_changes_23 : decode cX12_changes 23 = .ok (.getfield 328, 3) := by decide +kernel
theorem dX12_changes_26 : decode cX12_changes 26 = .ok (.invokevirtual 560, 3) := by decide +kernel
theorem dX12_changes_29 : decode cX12_changes 29 = .ok (.invokevirtual 566, 3) := by decide +kernel
theorem dX12_changes_32 : decode cX12_changes 32 = .ok (.istore_n 3, 1) := by decide +kernel
theorem dX12_changes_33 : decode cX12_changes 33 = .ok (.iload_n 3, 1) := by decide +kernel
theorem dX12_changes_34 : decode cX12_changes 34 = .ok (.iconst (-1), 1) := by decide +kernel
theorem dX12_changes_35 : decode cX12_changes 35 = .ok (.if_icmp .eq 13, 3) := by decide +kernel
theorem dX12_changes_38 : decode cX12_changes 38 = .ok (.aload_n 0, 1) := by decide +kernel
theorem dX12_changes_39 : decode cX12_changes 39 = .ok (.getfield 78, 3) := by decide +kernel
theorem dX12_changes_42 : decode cX12_changes 42 = .ok (.iload_n 1, 1) := by decide +kernel
theorem dX12_changes_43 : decode cX12_changes 43 = .ok (.iconst 1, 1) := by decide +kernel
theorem dX12_changes_44 : decode cX12_changes 44 = .ok (.iload_n 3, 1) := by decide +kernel
theorem dX12_changes_45 : decode cX12_changes 45 = .ok (.invokestatic 247, 3) := by decide +kernel
theorem dX12_changes_48 : decode cX12_changes 48 = .ok (.goto 81, 3) := by decide +kernel
theorem dX12_changes_51 : decode cX12_changes 51 = .ok (.iload_n 2, 1) := by decide +kernel
theorem dX12_changes_52 : decode cX12_changes 52 = .ok (.iconst 3, 1) := by decide +kernel
theorem dX12_changes_53 : decode cX12_changes 53 = .ok (.if_icmp .ge 12, 3) := by decide +kernel
theorem dX12_changes_56 : decode cX12_changes 56 = .ok (.aload_n 0, 1) := by decide +kernel
theorem dX12_changes_57 : decode cX12_changes 57 = .ok (.iload_n 2, 1) := by decide +kernel
theorem dX12_changes_58 : decode cX12_changes 58 = .ok (.iload_n 1, 1) := by decide +kernel
theorem dX12_changes_59 : decode cX12_changes 59 = .ok (.invokevirtual 569, 3) := by decide +kernel
theorem dX12_changes_62 : decode cX12_changes 62 = .ok (.goto 67, 3) := by decide +kernel
theorem dX12_changes_65 : decode cX12_changes 65 = .ok (.aload_n 0, 1) := by decide +kernel
theorem dX12_changes_66 : decode cX12_changes 66 = .ok (.getfield 78, 3) := by decide +kernel
theorem dX12_changes_69 : decode cX12_changes 69 = .ok (.iload_n 1, 1) := by decide +kernel
theorem dX12_changes_70 : decode cX12_changes 70 = .ok (.invokestatic 349, 3) := by decide +kernel
theorem dX12_changes_73 : decode cX12_changes 73 = .ok (.ifCond .eq 46, 3) := by decide +kernel
theorem dX12_changes_76 : decode cX12_changes 76 = .ok (.aload_n 0, 1) := by decide +kernel
theorem dX12_changes_77 : decode cX12_changes 77 = .ok (.aload_n 0, 1) := by decide +kernel
theorem dX12_changes_78 : decode cX12_changes 78 = .ok (.getfield 78, 3) := by decide +kernel
theorem dX12_changes_81 : decode cX12_changes 81 = .ok (.iload_n 1, 1) := by decide +kernel
theorem dX12_changes_82 : decode cX12_changes 82 = .ok (.invokestatic 244, 3) := by decide +kernel
theorem dX12_changes_85 : decode cX12_changes 85 = .ok (.invokevirtual 563, 3) := by decide +kernel
theorem dX12_changes_88 : decode cX12_changes 88 = .ok (.istore_n 3, 1) := by decide +kernel
theorem dX12_changes_89 : decode cX12_changes 89 = .ok (.aload_n 0, 1) := by decide +kernel
theorem dX12_changes_90 : decode cX12_changes 90 = .ok (.getfield 78, 3) := by decide +kernel
theorem dX12_changes_93 : decode cX12_changes 93 = .ok (.iload_n 1, 1) := by decide +kernel
theorem dX12_changes_94 : decode cX12_changes 94 = .ok (.iconst 1, 1) := by decide +kernel
theorem dX12_changes_95 : decode cX12_changes 95 = .ok (.iload_n 3, 1) := by decide +kernel
theorem dX12_changes_96 : decode cX12_changes 96 = .ok (.aload_n 0, 1) := by decide +kernel
theorem dX12_changes_97 : decode cX12_changes 97 = .ok (.aload_n 0, 1) := by decide +kernel
theorem dX12_changes_98 : decode cX12_changes 98 = .ok (.aload_n 0, 1) := by decide +kernel
theorem dX12_changes_99 : decode cX12_changes 99 = .ok (.getfield 78, 3) := by decide +kernel
theorem dX12_changes_102 : decode cX12_changes 102 = .ok (.iload_n 3, 1) := by decide +kernel
theorem dX12_changes_103 : decode cX12_changes 103 = .ok (.invokestatic 244, 3) := by decide +kernel
theorem dX12_changes_106 : decode cX12_changes 106 = .ok (.invokevirtual 346, 3) := by decide +kernel
theorem dX12_changes_109 : decode cX12_changes 109 = .ok (.invokevirtual 560, 3) := by decide +kernel
theorem dX12_changes_112 : decode cX12_changes 112 = .ok (.iadd, 1) := by decide +kernel
theorem dX12_changes_113 : decode cX12_changes 113 = .ok (.invokestatic 247, 3) := by decide +kernel
theorem dX12_changes_116 : decode cX12_changes 116 = .ok (.goto 13, 3) := by decide +kernel
theorem dX12_changes_119 : decode cX12_changes 119 = .ok (.aload_n 0, 1) := by decide +kernel
theorem dX12_changes_120 : decode cX12_changes 120 = .ok (.getfield 78, 3) := by decide +kernel
theorem dX12_changes_123 : decode cX12_changes 123 = .ok (.iload_n 1, 1) := by decide +kernel
theorem dX12_changes_124 : decode cX12_changes 124 = .ok (.iconst 1, 1) := by decide +kernel
theorem dX12_changes_125 : decode cX12_changes 125 = .ok (.iconst (-1), 1) := by decide +kernel
theorem dX12_changes_126 : decode cX12_changes 126 = .ok (.invokestatic 247, 3) := by decide +kernel
theorem dX12_changes_129 : decode cX12_changes 129 = .ok (.return_, 1) := by decide +kernel
theorem dX12_checked_0 : decode cX12_checked 0 = .ok (.sipush 173, 3) := by decide +kernel
theorem dX12_checked_3 : decode cX12_checked 3 = .ok (.istore_n 2, 1) := by decide +kernel
theorem dX12_checked_4 : decode cX12_checked 4 = .ok (.iconst 0, 1) := by decide +kernel
theorem dX12_checked_5 : decode cX12_checked 5 = .ok (.istore_n 3, 1) := by decide +kernel
theorem dX12_checked_6 : decode cX12_checked 6 = .ok (.iload_n 3, 1) := by decide +kernel
theorem dX12_checked_7 : decode cX12_checked 7 = .ok (.iload_n 1, 1) := by decide +kernel
theorem dX12_checked_8 : decode cX12_checked 8 = .ok (.if_icmp .ge 21, 3) := by decide +kernel
theorem dX12_checked_11 : decode cX12_checked 11 = .ok (.iconst 3, 1) := by decide +kernel
theorem dX12_checked_12 : decode cX12_checked 12 = .ok (.iload_n 2, 1) := by decide +kernel
theorem dX12_checked_13 : decode cX12_checked 13 = .ok (.imul, 1) := by decide +kernel
theorem dX12_checked_14 : decode cX12_checked 14 = .ok (.aload_n 0, 1) := by decide +kernel
theorem dX12_checked_15 : decode cX12_checked 15 = .ok (.iload_n 3, 1) := by decide +kernel
theorem dX12_checked_16 : decode cX12_checked 16 = .ok (.iaload, 1) := by decide +kernel
theorem dX12_checked_17 : decode cX12_checked 17 = .ok (.iadd, 1) := by decide +kernel
theorem dX12_checked_18 : decode cX12_checked 18 = .ok (.sipush 251, 3) := by decide +kernel
theorem dX12_checked_21 : decode cX12_checked 21 = .ok (.irem, 1) := by decide +kernel
theorem dX12_checked_22 : decode cX12_checked 22 = .ok (.istore_n 2, 1) := by decide +kernel
theorem dX12_checked_23 : decode cX12_checked 23 = .ok (.iinc 3 1, 3) := by decide +kernel
theorem dX12_checked_26 : decode cX12_checked 26 = .ok (.goto (-20), 3) := by decide +kernel
theorem dX12_checked_29 : decode cX12_checked 29 = .ok (.iload_n 2, 1) := by decide +kernel
theorem dX12_checked_30 : decode cX12_checked 30 = .ok (.ireturn, 1) := by decide +kernel
theorem dX12_collect_0 : decode cX12_collect 0 = .ok (.aload_n 0, 1) := by decide +kernel
theorem dX12_collect_1 : decode cX12_collect 1 = .ok (.invokevirtual 541, 3) := by decide +kernel
theorem dX12_collect_4 : decode cX12_collect 4 = .ok (.ifCond .ne 9, 3) := by decide +kernel
theorem dX12_collect_7 : decode cX12_collect 7 = .ok (.aload_n 0, 1) := by decide +kernel
theorem dX12_collect_8 : decode cX12_collect 8 = .ok (.iconst 3, 1) := by decide +kernel
theorem dX12_collect_9 : decode cX12_collect 9 = .ok (.invokevirtual 168, 3) := by decide +kernel
theorem dX12_collect_12 : decode cX12_collect 12 = .ok (.ireturn, 1) := by decide +kernel
theorem dX12_collect_13 : decode cX12_collect 13 = .ok (.aload_n 0, 1) := by decide +kernel
theorem dX12_collect_14 : decode cX12_collect 14 = .ok (.invokevirtual 544, 3) := by decide +kernel
theorem dX12_collect_17 : decode cX12_collect 17 = .ok (.aload_n 0, 1) := by decide +kernel
theorem dX12_collect_18 : decode cX12_collect 18 = .ok (.invokevirtual 547, 3) := by decide +kernel
theorem dX12_collect_21 : decode cX12_collect 21 = .ok (.aload_n 0, 1) := by decide +kernel
theorem dX12_collect_22 : decode cX12_collect 22 = .ok (.getfield 78, 3) := by decide +kernel
theorem dX12_collect_25 : decode cX12_collect 25 = .ok (.iconst 1, 1) := by decide +kernel
theorem dX12_collect_26 : decode cX12_collect 26 = .ok (.iaload, 1) := by decide +kernel
theorem dX12_collect_27 : decode cX12_collect 27 = .ok (.ireturn, 1) := by decide +kernel
theorem dX12_collects_0 : decode cX12_collects 0 = .ok (.aload_n 0, 1) := by decide +kernel
theorem dX12_collects_1 : decode cX12_collects 1 = .ok (.invokevirtual 436, 3) := by decide +kernel
theorem dX12_collects_4 : decode cX12_collects 4 = .ok (.aload_n 0, 1) := by decide +kernel
theorem dX12_collects_5 : decode cX12_collects 5 = .ok (.invokevirtual 445, 3) := by decide +kernel
theorem dX12_collects_8 : decode cX12_collects 8 = .ok (.return_, 1) := by decide +kernel
theorem dX12_comes_0 : decode cX12_comes 0 = .ok (.aload_n 0, 1) := by decide +kernel
theorem dX12_comes_1 : decode cX12_comes 1 = .ok (.iload_n 1, 1) := by decide +kernel
theorem dX12_comes_2 : decode cX12_comes 2 = .ok (.invokevirtual 455, 3) := by decide +kernel
theorem dX12_comes_5 : decode cX12_comes 5 = .ok (.ifCond .ne 5, 3) := by decide +kernel
theorem dX12_comes_8 : decode cX12_comes 8 = .ok (.iconst (-1), 1) := by decide +kernel
theorem dX12_comes_9 : decode cX12_comes 9 = .ok (.ireturn, 1) := by decide +kernel
theorem dX12_comes_10 : decode cX12_comes 10 = .ok (.iconst 0, 1) := by decide +kernel
theorem dX12_comes_11 : decode cX12_comes 11 = .ok (.istore_n 2, 1) := by decide +kernel
theorem dX12_comes_12 : decode cX12_comes 12 = .ok (.iload_n 2, 1) := by decide +kernel
theorem dX12_comes_13 : decode cX12_comes 13 = .ok (.aload_n 0, 1) := by decide +kernel
theorem dX12_comes_14 : decode cX12_comes 14 = .ok (.getfield 372, 3) := by decide +kernel
theorem dX12_comes_17 : decode cX12_comes 17 = .ok (.if_icmp .ge 31, 3) := by decide +kernel
theorem dX12_comes_20 : decode cX12_comes 20 = .ok (.aload_n 0, 1) := by decide +kernel
theorem dX12_comes_21 : decode cX12_comes 21 = .ok (.getfield 100, 3) := by decide +kernel
theorem dX12_comes_24 : decode cX12_comes 24 = .ok (.aload_n 0, 1) := by decide +kernel
theorem dX12_comes_25 : decode cX12_comes 25 = .ok (.getfield 97, 3) := by decide +kernel
theorem dX12_comes_28 : decode cX12_comes 28 = .ok (.iload_n 2, 1) := by decide +kernel
theorem dX12_comes_29 : decode cX12_comes 29 = .ok (.iaload, 1) := by decide +kernel
theorem dX12_comes_30 : decode cX12_comes 30 = .ok (.iaload, 1) := by decide +kernel
theorem dX12_comes_31 : decode cX12_comes 31 = .ok (.iload_n 1, 1) := by decide +kernel
theorem dX12_comes_32 : decode cX12_comes 32 = .ok (.if_icmp .ne 10, 3) := by decide +kernel
theorem dX12_comes_35 : decode cX12_comes 35 = .ok (.aload_n 0, 1) := by decide +kernel
theorem dX12_comes_36 : decode cX12_comes 36 = .ok (.getfield 97, 3) := by decide +kernel
theorem dX12_comes_39 : decode cX12_comes 39 = .ok (.iload_n 2, 1) := by decide +kernel
theorem dX12_comes_40 : decode cX12_comes 40 = .ok (.iaload, 1) := by decide +kernel
theorem dX12_comes_41 : decode cX12_comes 41 = .ok (.ireturn, 1) := by decide +kernel
theorem dX12_comes_42 : decode cX12_comes 42 = .ok (.iinc 2 1, 3) := by decide +kernel
theorem dX12_comes_45 : decode cX12_comes 45 = .ok (.goto (-33), 3) := by decide +kernel
theorem dX12_comes_48 : decode cX12_comes 48 = .ok (.iconst (-1), 1) := by decide +kernel
theorem dX12_comes_49 : decode cX12_comes 49 = .ok (.ireturn, 1) := by decide +kernel
theorem dX12_doesPoint_0 : decode cX12_doesPoint 0 = .ok (.aload_n 0, 1) := by decide +kernel
theorem dX12_doesPoint_1 : decode cX12_doesPoint 1 = .ok (.iload_n 1, 1) := by decide +kernel
theorem dX12_doesPoint_2 : decode cX12_doesPoint 2 = .ok (.invokestatic 240, 3) := by decide +kernel
theorem dX12_doesPoint_5 : decode cX12_doesPoint 5 = .ok (.iconst 1, 1) := by decide +kernel
theorem dX12_doesPoint_6 : decode cX12_doesPoint 6 = .ok (.if_icmp .ne 16, 3) := by decide +kernel
theorem dX12_doesPoint_9 : decode cX12_doesPoint 9 = .ok (.aload_n 0, 1) := by decide +kernel
theorem dX12_doesPoint_10 : decode cX12_doesPoint 10 = .ok (.iload_n 1, 1) := by decide +kernel
theorem dX12_doesPoint_11 : decode cX12_doesPoint 11 = .ok (.invokestatic 244, 3) := by decide +kernel
theorem dX12_doesPoint_14 : decode cX12_doesPoint 14 = .ok (.iconst (-1), 1) := by decide +kernel
theorem dX12_doesPoint_15 : decode cX12_doesPoint 15 = .ok (.if_icmp .eq 7, 3) := by decide +kernel
theorem dX12_doesPoint_18 : decode cX12_doesPoint 18 = .ok (.iconst 1, 1) := by decide +kernel
theorem dX12_doesPoint_19 : decode cX12_doesPoint 19 = .ok (.goto 4, 3) := by decide +kernel
theorem dX12_doesPoint_22 : decode cX12_doesPoint 22 = .ok (.iconst 0, 1) := by decide +kernel
theorem dX12_doesPoint_23 : decode cX12_doesPoint 23 = .ok (.ireturn, 1) := by decide +kernel
theorem dX12_drawOf_0 : decode cX12_drawOf 0 = .ok (.aload_n 0, 1) := by decide +kernel
theorem dX12_drawOf_1 : decode cX12_drawOf 1 = .ok (.ldc2_w 552, 3) := by decide +kernel
theorem dX12_drawOf_4 : decode cX12_drawOf 4 = .ok (.aload_n 0, 1) := by decide +kernel
theorem dX12_drawOf_5 : decode cX12_drawOf 5 = .ok (.getfield 143, 3) := by decide +kernel
theorem dX12_drawOf_8 : decode cX12_drawOf 8 = .ok (.lmul, 1) := by decide +kernel
theorem dX12_drawOf_9 : decode cX12_drawOf 9 = .ok (.ldc2_w 554, 3) := by decide +kernel
theorem dX12_drawOf_12 : decode cX12_drawOf 12 = .ok (.ladd, 1) := by decide +kernel
theorem dX12_drawOf_13 : decode cX12_drawOf 13 = .ok (.ldc2_w 556, 3) := by decide +kernel
theorem dX12_drawOf_16 : decode cX12_drawOf 16 = .ok (.lrem, 1) := by decide +kernel
theorem dX12_drawOf_17 : decode cX12_drawOf 17 = .ok (.putfield 143, 3) := by decide +kernel
theorem dX12_drawOf_20 : decode cX12_drawOf 20 = .ok (.aload_n 0, 1) := by decide +kernel
theorem dX12_drawOf_21 : decode cX12_drawOf 21 = .ok (.getfield 143, 3) := by decide +kernel
theorem dX12_drawOf_24 : decode cX12_drawOf 24 = .ok (.ldc2_w 558, 3) := by decide +kernel
theorem dX12_drawOf_27 : decode cX12_drawOf 27 = .ok (.ldiv, 1) := by decide +kernel
theorem dX12_drawOf_28 : decode cX12_drawOf 28 = .ok (.iload_n 1, 1) := by decide +kernel
theorem dX12_drawOf_29 : decode cX12_drawOf 29 = .ok (.i2l, 1) := by decide +kernel
theorem dX12_drawOf_30 : decode cX12_drawOf 30 = .ok (.lrem, 1) := by decide +kernel
theorem dX12_drawOf_31 : decode cX12_drawOf 31 = .ok (.l2i, 1) := by decide +kernel
theorem dX12_drawOf_32 : decode cX12_drawOf 32 = .ok (.ireturn, 1) := by decide +kernel
theorem dX12_drawsField_0 : decode cX12_drawsField 0 = .ok (.aload_n 0, 1) := by decide +kernel
theorem dX12_drawsField_1 : decode cX12_drawsField 1 = .ok (.bipush 8, 2) := by decide +kernel
theorem dX12_drawsField_3 : decode cX12_drawsField 3 = .ok (.invokevirtual 560, 3) := by decide +kernel
theorem dX12_drawsField_6 : decode cX12_drawsField 6 = .ok (.bipush 8, 2) := by decide +kernel
theorem dX12_drawsField_8 : decode cX12_drawsField 8 = .ok (.isub, 1) := by decide +kernel
theorem dX12_drawsField_9 : decode cX12_drawsField 9 = .ok (.istore_n 3, 1) := by decide +kernel
theorem dX12_drawsField_10 : decode cX12_drawsField 10 = .ok (.aload_n 0, 1) := by decide +kernel
theorem dX12_drawsField_11 : decode cX12_drawsField 11 = .ok (.getfield 78, 3) := by decide +kernel
theorem dX12_drawsField_14 : decode cX12_drawsField 14 = .ok (.iload_n 3, 1) := by decide +kernel
theorem dX12_drawsField_15 : decode cX12_drawsField 15 = .ok (.invokestatic 349, 3) := by decide +kernel
theorem dX12_drawsField_18 : decode cX12_drawsField 18 = .ok (.ifCond .ne 4, 3) := by decide +kernel
theorem dX12_drawsField_21 : decode cX12_drawsField 21 = .ok (.return_, 1) := by decide +kernel
theorem dX12_drawsField_22 : decode cX12_drawsField 22 = .ok (.aload_n 0, 1) := by decide +kernel
theorem dX12_drawsField_23 : decode cX12_drawsField 23 = .ok (.aload_n 0, 1) := by decide +kernel
theorem dX12_drawsField_24 : decode cX12_drawsField 24 = .ok (.getfield 78, 3) := by decide +kernel
theorem dX12_drawsField_27 : decode cX12_drawsField 27 = .ok (.iload_n 3, 1) := by decide +kernel
theorem dX12_drawsField_28 : decode cX12_drawsField 28 = .ok (.invokestatic 244, 3) := by decide +kernel
theorem dX12_drawsField_31 : decode cX12_drawsField 31 = .ok (.invokevirtual 563, 3) := by decide +kernel
theorem dX12_drawsField_34 : decode cX12_drawsField 34 = .ok (.istore 4, 2) := by decide +kernel
theorem dX12_drawsField_36 : decode cX12_drawsField 36 = .ok (.aload_n 0, 1) := by decide +kernel
theorem dX12_drawsField_37 : decode cX12_drawsField 37 = .ok (.getfield 78, 3) := by decide +kernel
theorem dX12_drawsField_40 : decode cX12_drawsField 40 = .ok (.iload 4, 2) := by decide +kernel
theorem dX12_drawsField_42 : decode cX12_drawsField 42 = .ok (.invokestatic 244, 3) := by decide +kernel
theorem dX12_drawsField_45 : decode cX12_drawsField 45 = .ok (.istore 5, 2) := by decide +kernel
theorem dX12_drawsField_47 : decode cX12_drawsField 47 = .ok (.aload_n 0, 1) := by decide +kernel
theorem dX12_drawsField_48 : decode cX12_drawsField 48 = .ok (.aload_n 0, 1) := by decide +kernel
theorem dX12_drawsField_49 : decode cX12_drawsField 49 = .ok (.iload 5, 2) := by decide +kernel
theorem dX12_drawsField_51 : decode cX12_drawsField 51 = .ok (.invokevirtual 234, 3) := by decide +kernel
theorem dX12_drawsField_54 : decode cX12_drawsField 54 = .ok (.invokevirtual 560, 3) := by decide +kernel
theorem dX12_drawsField_57 : decode cX12_drawsField 57 = .ok (.istore 6, 2) := by decide +kernel
theorem dX12_drawsField_59 : decode cX12_drawsField 59 = .ok (.iload_n 1, 1) := by decide +kernel
theorem dX12_drawsField_60 : decode cX12_drawsField 60 = .ok (.iconst 2, 1) := by decide +kernel
theorem dX12_drawsField_61 : decode cX12_drawsField 61 = .ok (.if_icmp .ne 21, 3) := by decide +kernel
theorem dX12_drawsField_64 : decode cX12_drawsField 64 = .ok (.aload_n 0, 1) := by decide +kernel
theorem dX12_drawsField_65 : decode cX12_drawsField 65 = .ok (.getfield 78, 3) := by decide +kernel
theorem dX12_drawsField_68 : decode cX12_drawsField 68 = .ok (.iload_n 2, 1) := by decide +kernel
theorem dX12_drawsField_69 : decode cX12_drawsField 69 = .ok (.iload 4, 2) := by decide +kernel
theorem dX12_drawsField_71 : decode cX12_drawsField 71 = .ok (.iconst 1, 1) := by decide +kernel
theorem dX12_drawsField_72 : decode cX12_drawsField 72 = .ok (.iadd, 1) := by decide +kernel
theorem dX12_drawsField_73 : decode cX12_drawsField 73 = .ok (.iload 6, 2) := by decide +kernel
theorem dX12_drawsField_75 : decode cX12_drawsField 75 = .ok (.iadd, 1) := by decide +kernel
theorem dX12_drawsField_76 : decode cX12_drawsField 76 = .ok (.invokestatic 390, 3) := by decide +kernel
theorem dX12_drawsField_79 : decode cX12_drawsField 79 = .ok (.goto 66, 3) := by decide +kernel
theorem dX12_drawsField_82 : decode cX12_drawsField 82 = .ok (.aload_n 0, 1) := by decide +kernel
theorem dX12_drawsField_83 : decode cX12_drawsField 83 = .ok (.iload 5, 2) := by decide +kernel
theorem dX12_drawsField_85 : decode cX12_drawsField 85 = .ok (.iload 6, 2) := by decide +kernel
theorem dX12_drawsField_87 : decode cX12_drawsField 87 = .ok (.invokevirtual 356, 3) := by decide +kernel
theorem dX12_drawsField_90 : decode cX12_drawsField 90 = .ok (.ifCond .ne 28, 3) := by decide +kernel
theorem dX12_drawsField_93 : decode cX12_drawsField 93 = .ok (.aload_n 0, 1) := by decide +kernel
theorem dX12_drawsField_94 : decode cX12_drawsField 94 = .ok (.getfield 78, 3) := by decide +kernel
theorem dX12_drawsField_97 : decode cX12_drawsField 97 = .ok (.iload 4, 2) := by decide +kernel
theorem dX12_drawsField_99 : decode cX12_drawsField 99 = .ok (.iconst 1, 1) := by decide +kernel
theorem dX12_drawsField_100 : decode cX12_drawsField 100 = .ok (.iadd, 1) := by decide +kernel
theorem dX12_drawsField_101 : decode cX12_drawsField 101 = .ok (.iload 6, 2) := by decide +kernel
theorem dX12_drawsField_103 : decode cX12_drawsField 103 = .ok (.iadd, 1) := by decide +kernel
theorem dX12_drawsField_104 : decode cX12_drawsField 104 = .ok (.iconst 0, 1) := by decide +kernel
theorem dX12_drawsField_105 : decode cX12_drawsField 105 = .ok (.aload_n 0, 1) := by decide +kernel
theorem dX12_drawsField_106 : decode cX12_drawsField 106 = .ok (.sipush 1000, 3) := by decide +kernel
theorem dX12_drawsField_109 : decode cX12_drawsField 109 = .ok (.invokevirtual 560, 3) := by decide +kernel
theorem dX12_drawsField_112 : decode cX12_drawsField 112 = .ok (.invokestatic 247, 3) := by decide +kernel
theorem dX12_drawsField_115 : decode cX12_drawsField 115 = .ok (.goto 30, 3) := by decide +kernel
theorem dX12_drawsField_118 : decode cX12_drawsField 118 = .ok (.aload_n 0, 1) := by decide +kernel
theorem dX12_drawsField_119 : decode cX12_drawsField 119 = .ok (.getfield 78, 3) := by decide +kernel
theorem dX12_drawsField_122 : decode cX12_drawsField 122 = .ok (.iload_n 2, 1) := by decide +kernel
theorem dX12_drawsField_123 : decode cX12_drawsField 123 = .ok (.invokestatic 240, 3) := by decide +kernel
theorem dX12_drawsField_126 : decode cX12_drawsField 126 = .ok (.iconst 1, 1) := by decide +kernel
theorem dX12_drawsField_127 : decode cX12_drawsField 127 = .ok (.if_icmp .ne 18, 3) := by decide +kernel
theorem dX12_drawsField_130 : decode cX12_drawsField 130 = .ok (.aload_n 0, 1) := by decide +kernel
theorem dX12_drawsField_131 : decode cX12_drawsField 131 = .ok (.getfield 78, 3) := by decide +kernel
theorem dX12_drawsField_134 : decode cX12_drawsField 134 = .ok (.iload 4, 2) := by decide +kernel
theorem dX12_drawsField_136 : decode cX12_drawsField 136 = .ok (.iconst 1, 1) := by decide +kernel
theorem dX12_drawsField_137 : decode cX12_drawsField 137 = .ok (.iadd, 1) := by decide +kernel
theorem dX12_drawsField_138 : decode cX12_drawsField 138 = .ok (.iload 6, 2) := by decide +kernel
theorem dX12_drawsField_140 : decode cX12_drawsField 140 = .ok (.iadd, 1) := by decide +kernel
theorem dX12_drawsField_141 : decode cX12_drawsField 141 = .ok (.iload_n 2, 1) := by decide +kernel
theorem dX12_drawsField_142 : decode cX12_drawsField 142 = .ok (.invokestatic 390, 3) := by decide +kernel
theorem dX12_drawsField_145 : decode cX12_drawsField 145 = .ok (.return_, 1) := by decide +kernel
theorem dX12_empties_0 : decode cX12_empties 0 = .ok (.aload_n 0, 1) := by decide +kernel
theorem dX12_empties_1 : decode cX12_empties 1 = .ok (.iload_n 1, 1) := by decide +kernel
theorem dX12_empties_2 : decode cX12_empties 2 = .ok (.iload_n 2, 1) := by decide +kernel
theorem dX12_empties_3 : decode cX12_empties 3 = .ok (.ifCond .ne 7, 3) := by decide +kernel
theorem dX12_empties_6 : decode cX12_empties 6 = .ok (.iconst 0, 1) := by decide +kernel
theorem dX12_empties_7 : decode cX12_empties 7 = .ok (.goto 4, 3) := by decide +kernel
theorem dX12_empties_10 : decode cX12_empties 10 = .ok (.iconst 1, 1) := by decide +kernel
theorem dX12_empties_11 : decode cX12_empties 11 = .ok (.iload_n 2, 1) := by decide +kernel
theorem dX12_empties_12 : decode cX12_empties 12 = .ok (.ifCond .ne 7, 3) := by decide +kernel
theorem dX12_empties_15 : decode cX12_empties 15 = .ok (.iconst 0, 1) := by decide +kernel
theorem dX12_empties_16 : decode cX12_empties 16 = .ok (.goto 4, 3) := by decide +kernel
theorem dX12_empties_19 : decode cX12_empties 19 = .ok (.iconst (-1), 1) := by decide +kernel
theorem dX12_empties_20 : decode cX12_empties 20 = .ok (.invokestatic 247, 3) := by decide +kernel
theorem dX12_empties_23 : decode cX12_empties 23 = .ok (.return_, 1) := by decide +kernel
theorem dX12_end_0 : decode cX12_end 0 = .ok (.iload_n 1, 1) := by decide +kernel
theorem dX12_end_1 : decode cX12_end 1 = .ok (.ifCond .lt 11, 3) := by decide +kernel
theorem dX12_end_4 : decode cX12_end 4 = .ok (.iload_n 1, 1) := by decide +kernel
theorem dX12_end_5 : decode cX12_end 5 = .ok (.aload_n 0, 1) := by decide +kernel
theorem dX12_end_6 : decode cX12_end 6 = .ok (.getfield 165, 3) := by decide +kernel
theorem dX12_end_9 : decode cX12_end 9 = .ok (.if_icmp .le 9, 3) := by decide +kernel
theorem dX12_end_12 : decode cX12_end 12 = .ok (.aload_n 0, 1) := by decide +kernel
theorem dX12_end_13 : decode cX12_end 13 = .ok (.iconst 0, 1) := by decide +kernel
theorem dX12_end_14 : decode cX12_end 14 = .ok (.invokevirtual 172, 3) := by decide +kernel
theorem dX12_end_17 : decode cX12_end 17 = .ok (.ireturn, 1) := by decide +kernel
theorem dX12_end_18 : decode cX12_end 18 = .ok (.aload_n 0, 1) := by decide +kernel
theorem dX12_end_19 : decode cX12_end 19 = .ok (.iload_n 1, 1) := by decide +kernel
theorem dX12_end_20 : decode cX12_end 20 = .ok (.putfield 165, 3) := by decide +kernel
theorem dX12_end_23 : decode cX12_end 23 = .ok (.iconst 1, 1) := by decide +kernel
theorem dX12_end_24 : decode cX12_end 24 = .ok (.ireturn, 1) := by decide +kernel
theorem dX12_ends_0 : decode cX12_ends 0 = .ok (.aload_n 0, 1) := by decide +kernel
theorem dX12_ends_1 : decode cX12_ends 1 = .ok (.aload_n 0, 1) := by decide +kernel
theorem dX12_ends_2 : decode cX12_ends 2 = .ok (.aload_n 0, 1) := by decide +kernel
theorem dX12_ends_3 : decode cX12_ends 3 = .ok (.getfield 78, 3) := by decide +kernel
theorem dX12_ends_6 : decode cX12_ends 6 = .ok (.iconst 0, 1) := by decide +kernel
theorem dX12_ends_7 : decode cX12_ends 7 = .ok (.iaload, 1) := by decide +kernel
theorem dX12_ends_8 : decode cX12_ends 8 = .ok (.invokevirtual 408, 3) := by decide +kernel
theorem dX12_ends_11 : decode cX12_ends 11 = .ok (.invokevirtual 442, 3) := by decide +kernel
theorem dX12_ends_14 : decode cX12_ends 14 = .ok (.aload_n 0, 1) := by decide +kernel
theorem dX12_ends_15 : decode cX12_ends 15 = .ok (.getfield 325, 3) := by decide +kernel
theorem dX12_ends_18 : decode cX12_ends 18 = .ok (.aload_n 0, 1) := by decide +kernel
theorem dX12_ends_19 : decode cX12_ends 19 = .ok (.getfield 78, 3) := by decide +kernel
theorem dX12_ends_22 : decode cX12_ends 22 = .ok (.iconst 1, 1) := by decide +kernel
theorem dX12_ends_23 : decode cX12_ends 23 = .ok (.iaload, 1) := by decide +kernel
theorem dX12_ends_24 : decode cX12_ends 24 = .ok (.isub, 1) := by decide +kernel
theorem dX12_ends_25 : decode cX12_ends 25 = .ok (.aload_n 0, 1) := by decide +kernel
theorem dX12_ends_26 : decode cX12_ends 26 = .ok (.getfield 372, 3) := by decide +kernel
theorem dX12_ends_29 : decode cX12_ends 29 = .ok (.isub, 1) := by decide +kernel
theorem dX12_ends_30 : decode cX12_ends 30 = .ok (.istore_n 1, 1) := by decide +kernel
theorem dX12_ends_31 : decode cX12_ends 31 = .ok (.bipush 86, 2) := by decide +kernel
theorem dX12_ends_33 : decode cX12_ends 33 = .ok (.istore_n 2, 1) := by decide +kernel
theorem dX12_ends_34 : decode cX12_ends 34 = .ok (.iload_n 2, 1) := by decide +kernel
theorem dX12_ends_35 : decode cX12_ends 35 = .ok (.sipush 422, 3) := by decide +kernel
theorem dX12_ends_38 : decode cX12_ends 38 = .ok (.if_icmp .ge 21, 3) := by decide +kernel
theorem dX12_ends_41 : decode cX12_ends 41 = .ok (.aload_n 0, 1) := by decide +kernel
theorem dX12_ends_42 : decode cX12_ends 42 = .ok (.getfield 78, 3) := by decide +kernel
theorem dX12_ends_45 : decode cX12_ends 45 = .ok (.iload_n 2, 1) := by decide +kernel
theorem dX12_ends_46 : decode cX12_ends 46 = .ok (.aload_n 0, 1) := by decide +kernel
theorem dX12_ends_47 : decode cX12_ends 47 = .ok (.getfield 84, 3) := by decide +kernel
theorem dX12_ends_50 : decode cX12_ends 50 = .ok (.iload_n 2, 1) := by decide +kernel
theorem dX12_ends_51 : decode cX12_ends 51 = .ok (.iaload, 1) := by decide +kernel
theorem dX12_ends_52 : decode cX12_ends 52 = .ok (.iastore, 1) := by decide +kernel
theorem dX12_ends_53 : decode cX12_ends 53 = .ok (.iinc 2 1, 3) := by decide +kernel
theorem dX12_ends_56 : decode cX12_ends 56 = .ok (.goto (-22), 3) := by decide +kernel
theorem dX12_ends_59 : decode cX12_ends 59 = .ok (.aload_n 0, 1) := by decide +kernel
theorem dX12_ends_60 : decode cX12_ends 60 = .ok (.getfield 78, 3) := by decide +kernel
theorem dX12_ends_63 : decode cX12_ends 63 = .ok (.iconst 1, 1) := by decide +kernel
theorem dX12_ends_64 : decode cX12_ends 64 = .ok (.aload_n 0, 1) := by decide +kernel
theorem dX12_ends_65 : decode cX12_ends 65 = .ok (.getfield 84, 3) := by decide +kernel
theorem dX12_ends_68 : decode cX12_ends 68 = .ok (.iconst 1, 1) := by decide +kernel
theorem dX12_ends_69 : decode cX12_ends 69 = .ok (.iaload, 1) := by decide +kernel
theorem dX12_ends_70 : decode cX12_ends 70 = .ok (.iastore, 1) := by decide +kernel
theorem dX12_ends_71 : decode cX12_ends 71 = .ok (.aload_n 0, 1) := by decide +kernel
theorem dX12_ends_72 : decode cX12_ends 72 = .ok (.getfield 78, 3) := by decide +kernel
theorem dX12_ends_75 : decode cX12_ends 75 = .ok (.iconst 3, 1) := by decide +kernel
theorem dX12_ends_76 : decode cX12_ends 76 = .ok (.iconst 0, 1) := by decide +kernel
theorem dX12_ends_77 : decode cX12_ends 77 = .ok (.iastore, 1) := by decide +kernel
theorem dX12_ends_78 : decode cX12_ends 78 = .ok (.aload_n 0, 1) := by decide +kernel
theorem dX12_ends_79 : decode cX12_ends 79 = .ok (.getfield 78, 3) := by decide +kernel
theorem dX12_ends_82 : decode cX12_ends 82 = .ok (.iconst 4, 1) := by decide +kernel
theorem dX12_ends_83 : decode cX12_ends 83 = .ok (.iconst 0, 1) := by decide +kernel
theorem dX12_ends_84 : decode cX12_ends 84 = .ok (.iastore, 1) := by decide +kernel
theorem dX12_ends_85 : decode cX12_ends 85 = .ok (.aload_n 0, 1) := by decide +kernel
theorem dX12_ends_86 : decode cX12_ends 86 = .ok (.getfield 78, 3) := by decide +kernel
theorem dX12_ends_89 : decode cX12_ends 89 = .ok (.iconst 2, 1) := by decide +kernel
theorem dX12_ends_90 : decode cX12_ends 90 = .ok (.dup2, 1) := by decide +kernel
theorem dX12_ends_91 : decode cX12_ends 91 = .ok (.iaload, 1) := by decide +kernel
theorem dX12_ends_92 : decode cX12_ends 92 = .ok (.iconst 1, 1) := by decide +kernel
theorem dX12_ends_93 : decode cX12_ends 93 = .ok (.iadd, 1) := by decide +kernel
theorem dX12_ends_94 : decode cX12_ends 94 = .ok (.iastore, 1) := by decide +kernel
theorem dX12_ends_95 : decode cX12_ends 95 = .ok (.aload_n 0, 1) := by decide +kernel
theorem dX12_ends_96 : decode cX12_ends 96 = .ok (.getfield 78, 3) := by decide +kernel
theorem dX12_ends_99 : decode cX12_ends 99 = .ok (.iconst 5, 1) := by decide +kernel
theorem dX12_ends_100 : decode cX12_ends 100 = .ok (.iaload, 1) := by decide +kernel
theorem dX12_ends_101 : decode cX12_ends 101 = .ok (.bipush 20, 2) := by decide +kernel
theorem dX12_ends_103 : decode cX12_ends 103 = .ok (.if_icmp .ne 35, 3) := by decide +kernel
theorem dX12_ends_106 : decode cX12_ends 106 = .ok (.bipush 6, 2) := by decide +kernel
theorem dX12_ends_108 : decode cX12_ends 108 = .ok (.istore_n 2, 1) := by decide +kernel
theorem dX12_ends_109 : decode cX12_ends 109 = .ok (.iload_n 2, 1) := by decide +kernel
theorem dX12_ends_110 : decode cX12_ends 110 = .ok (.bipush 82, 2) := by decide +kernel
theorem dX12_ends_112 : decode cX12_ends 112 = .ok (.if_icmp .ge 23, 3) := by decide +kernel
theorem dX12_ends_115 : decode cX12_ends 115 = .ok (.aload_n 0, 1) := by decide +kernel
theorem dX12_ends_116 : decode cX12_ends 116 = .ok (.getfield 78, 3) := by decide +kernel
theorem dX12_ends_119 : decode cX12_ends 119 = .ok (.iload_n 2, 1) := by decide +kernel
theorem dX12_ends_120 : decode cX12_ends 120 = .ok (.aload_n 0, 1) := by decide +kernel
theorem dX12_ends_121 : decode cX12_ends 121 = .ok (.getfield 78, 3) := by decide +kernel
theorem dX12_ends_124 : decode cX12_ends 124 = .ok (.iload_n 2, 1) := by decide +kernel
theorem dX12_ends_125 : decode cX12_ends 125 = .ok (.iconst 4, 1) := by decide +kernel
theorem dX12_ends_126 : decode cX12_ends 126 = .ok (.iadd, 1) := by decide +kernel
theorem dX12_ends_127 : decode cX12_ends 127 = .ok (.iaload, 1) := by decide +kernel
theorem dX12_ends_128 : decode cX12_ends 128 = .ok (.iastore, 1) := by decide +kernel
theorem dX12_ends_129 : decode cX12_ends 129 = .ok (.iinc 2 1, 3) := by decide +kernel
theorem dX12_ends_132 : decode cX12_ends 132 = .ok (.goto (-23), 3) := by decide +kernel
theorem dX12_ends_135 : decode cX12_ends 135 = .ok (.goto 13, 3) := by decide +kernel
theorem dX12_ends_138 : decode cX12_ends 138 = .ok (.aload_n 0, 1) := by decide +kernel
theorem dX12_ends_139 : decode cX12_ends 139 = .ok (.getfield 78, 3) := by decide +kernel
theorem dX12_ends_142 : decode cX12_ends 142 = .ok (.iconst 5, 1) := by decide +kernel
theorem dX12_ends_143 : decode cX12_ends 143 = .ok (.dup2, 1) := by decide +kernel
theorem dX12_ends_144 : decode cX12_ends 144 = .ok (.iaload, 1) := by decide +kernel
theorem dX12_ends_145 : decode cX12_ends 145 = .ok (.iconst 1, 1) := by decide +kernel
theorem dX12_ends_146 : decode cX12_ends 146 = .ok (.iadd, 1) := by decide +kernel
theorem dX12_ends_147 : decode cX12_ends 147 = .ok (.iastore, 1) := by decide +kernel
theorem dX12_ends_148 : decode cX12_ends 148 = .ok (.bipush 6, 2) := by decide +kernel
theorem dX12_ends_150 : decode cX12_ends 150 = .ok (.iconst 4, 1) := by decide +kernel
theorem dX12_ends_151 : decode cX12_ends 151 = .ok (.aload_n 0, 1) := by decide +kernel
theorem dX12_ends_152 : decode cX12_ends 152 = .ok (.getfield 78, 3) := by decide +kernel
theorem dX12_ends_155 : decode cX12_ends 155 = .ok (.iconst 5, 1) := by decide +kernel
theorem dX12_ends_156 : decode cX12_ends 156 = .ok (.iaload, 1) := by decide +kernel
theorem dX12_ends_157 : decode cX12_ends 157 = .ok (.imul, 1) := by decide +kernel
theorem dX12_ends_158 : decode cX12_ends 158 = .ok (.iadd, 1) := by decide +kernel
theorem dX12_ends_159 : decode cX12_ends 159 = .ok (.iconst 4, 1) := by decide +kernel
theorem dX12_ends_160 : decode cX12_ends 160 = .ok (.isub, 1) := by decide +kernel
theorem dX12_ends_161 : decode cX12_ends 161 = .ok (.istore_n 2, 1) := by decide +kernel
theorem dX12_ends_162 : decode cX12_ends 162 = .ok (.aload_n 0, 1) := by decide +kernel
theorem dX12_ends_163 : decode cX12_ends 163 = .ok (.getfield 78, 3) := by decide +kernel
theorem dX12_ends_166 : decode cX12_ends 166 = .ok (.iload_n 2, 1) := by decide +kernel
theorem dX12_ends_167 : decode cX12_ends 167 = .ok (.aload_n 0, 1) := by decide +kernel
theorem dX12_ends_168 : decode cX12_ends 168 = .ok (.getfield 372, 3) := by decide +kernel
theorem dX12_ends_171 : decode cX12_ends 171 = .ok (.iastore, 1) := by decide +kernel
theorem dX12_ends_172 : decode cX12_ends 172 = .ok (.aload_n 0, 1) := by decide +kernel
theorem dX12_ends_173 : decode cX12_ends 173 = .ok (.getfield 78, 3) := by decide +kernel
theorem dX12_ends_176 : decode cX12_ends 176 = .ok (.iload_n 2, 1) := by decide +kernel
theorem dX12_ends_177 : decode cX12_ends 177 = .ok (.iconst 1, 1) := by decide +kernel
theorem dX12_ends_178 : decode cX12_ends 178 = .ok (.iadd, 1) := by decide +kernel
theorem dX12_ends_179 : decode cX12_ends 179 = .ok (.iload_n 1, 1) := by decide +kernel
theorem dX12_ends_180 : decode cX12_ends 180 = .ok (.iastore, 1) := by decide +kernel
theorem dX12_ends_181 : decode cX12_ends 181 = .ok (.aload_n 0, 1) := by decide +kernel
theorem dX12_ends_182 : decode cX12_ends 182 = .ok (.getfield 78, 3) := by decide +kernel
theorem dX12_ends_185 : decode cX12_ends 185 = .ok (.iload_n 2, 1) := by decide +kernel
theorem dX12_ends_186 : decode cX12_ends 186 = .ok (.iconst 2, 1) := by decide +kernel
theorem dX12_ends_187 : decode cX12_ends 187 = .ok (.iadd, 1) := by decide +kernel
theorem dX12_ends_188 : decode cX12_ends 188 = .ok (.aload_n 0, 1) := by decide +kernel
theorem dX12_ends_189 : decode cX12_ends 189 = .ok (.getfield 78, 3) := by decide +kernel
theorem dX12_ends_192 : decode cX12_ends 192 = .ok (.iconst 0, 1) := by decide +kernel
theorem dX12_ends_193 : decode cX12_ends 193 = .ok (.iaload, 1) := by decide +kernel
theorem dX12_ends_194 : decode cX12_ends 194 = .ok (.iastore, 1) := by decide +kernel
theorem dX12_ends_195 : decode cX12_ends 195 = .ok (.aload_n 0, 1) := by decide +kernel
theorem dX12_ends_196 : decode cX12_ends 196 = .ok (.getfield 78, 3) := by decide +kernel
theorem dX12_ends_199 : decode cX12_ends 199 = .ok (.iload_n 2, 1) := by decide +kernel
theorem dX12_ends_200 : decode cX12_ends 200 = .ok (.iconst 3, 1) := by decide +kernel
theorem dX12_ends_201 : decode cX12_ends 201 = .ok (.iadd, 1) := by decide +kernel
theorem dX12_ends_202 : decode cX12_ends 202 = .ok (.aload_n 0, 1) := by decide +kernel
theorem dX12_ends_203 : decode cX12_ends 203 = .ok (.getfield 399, 3) := by decide +kernel
theorem dX12_ends_206 : decode cX12_ends 206 = .ok (.iastore, 1) := by decide +kernel
theorem dX12_ends_207 : decode cX12_ends 207 = .ok (.return_, 1) := by decide +kernel
theorem dX12_entersFrame_0 : decode cX12_entersFrame 0 = .ok (.aload_n 0, 1) := by decide +kernel
theorem dX12_entersFrame_1 : decode cX12_entersFrame 1 = .ok (.getfield 153, 3) := by decide +kernel
theorem dX12_entersFrame_4 : decode cX12_entersFrame 4 = .ok (.aload_n 0, 1) := by decide +kernel
theorem dX12_entersFrame_5 : decode cX12_entersFrame 5 = .ok (.getfield 601, 3) := by decide +kernel
theorem dX12_entersFrame_8 : decode cX12_entersFrame 8 = .ok (.iload_n 1, 1) := by decide +kernel
theorem dX12_entersFrame_9 : decode cX12_entersFrame 9 = .ok (.iastore, 1) := by decide +kernel
theorem dX12_entersFrame_10 : decode cX12_entersFrame 10 = .ok (.aload_n 0, 1) := by decide +kernel
theorem dX12_entersFrame_11 : decode cX12_entersFrame 11 = .ok (.getfield 156, 3) := by decide +kernel
theorem dX12_entersFrame_14 : decode cX12_entersFrame 14 = .ok (.aload_n 0, 1) := by decide +kernel
theorem dX12_entersFrame_15 : decode cX12_entersFrame 15 = .ok (.getfield 601, 3) := by decide +kernel
theorem dX12_entersFrame_18 : decode cX12_entersFrame 18 = .ok (.aload_n 0, 1) := by decide +kernel
theorem dX12_entersFrame_19 : decode cX12_entersFrame 19 = .ok (.getfield 188, 3) := by decide +kernel
theorem dX12_entersFrame_22 : decode cX12_entersFrame 22 = .ok (.iastore, 1) := by decide +kernel
theorem dX12_entersFrame_23 : decode cX12_entersFrame 23 = .ok (.aload_n 0, 1) := by decide +kernel
theorem dX12_entersFrame_24 : decode cX12_entersFrame 24 = .ok (.getfield 159, 3) := by decide +kernel
theorem dX12_entersFrame_27 : decode cX12_entersFrame 27 = .ok (.aload_n 0, 1) := by decide +kernel
theorem dX12_entersFrame_28 : decode cX12_entersFrame 28 = .ok (.getfield 601, 3) := by decide +kernel
theorem dX12_entersFrame_31 : decode cX12_entersFrame 31 = .ok (.iload_n 2, 1) := by decide +kernel
theorem dX12_entersFrame_32 : decode cX12_entersFrame 32 = .ok (.iastore, 1) := by decide +kernel
theorem dX12_entersFrame_33 : decode cX12_entersFrame 33 = .ok (.aload_n 0, 1) := by decide +kernel
theorem dX12_entersFrame_34 : decode cX12_entersFrame 34 = .ok (.dup, 1) := by decide +kernel
theorem dX12_entersFrame_35 : decode cX12_entersFrame 35 = .ok (.getfield 601, 3) := by decide +kernel
theorem dX12_entersFrame_38 : decode cX12_entersFrame 38 = .ok (.iconst 1, 1) := by decide +kernel
theorem dX12_entersFrame_39 : decode cX12_entersFrame 39 = .ok (.iadd, 1) := by decide +kernel
theorem dX12_entersFrame_40 : decode cX12_entersFrame 40 = .ok (.putfield 601, 3) := by decide +kernel
theorem dX12_entersFrame_43 : decode cX12_entersFrame 43 = .ok (.return_, 1) := by decide +kernel
theorem dX12_fail_0 : decode cX12_fail 0 = .ok (.aload_n 0, 1) := by decide +kernel
theorem dX12_fail_1 : decode cX12_fail 1 = .ok (.getfield 194, 3) := by decide +kernel
theorem dX12_fail_4 : decode cX12_fail 4 = .ok (.ifCond .eq 4, 3) := by decide +kernel
theorem dX12_fail_7 : decode cX12_fail 7 = .ok (.return_, 1) := by decide +kernel
theorem dX12_fail_8 : decode cX12_fail 8 = .ok (.aload_n 0, 1) := by decide +kernel
theorem dX12_fail_9 : decode cX12_fail 9 = .ok (.iload_n 1, 1) := by decide +kernel
theorem dX12_fail_10 : decode cX12_fail 10 = .ok (.putfield 194, 3) := by decide +kernel
