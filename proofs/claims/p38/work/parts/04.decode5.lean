theorem dX1_takesNewName_11 : decode cX1_takesNewName 11 = .ok (.getfield 29, 3) := by decide +kernel
theorem dX1_takesNewName_14 : decode cX1_takesNewName 14 = .ok (.invokevirtual 128, 3) := by decide +kernel
theorem dX1_takesNewName_17 : decode cX1_takesNewName 17 = .ok (.ifCond .ne 5, 3) := by decide +kernel
theorem dX1_takesNewName_20 : decode cX1_takesNewName 20 = .ok (.iconst 0, 1) := by decide +kernel
theorem dX1_takesNewName_21 : decode cX1_takesNewName 21 = .ok (.ireturn, 1) := by decide +kernel
theorem dX1_takesNewName_22 : decode cX1_takesNewName 22 = .ok (.aload_n 0, 1) := by decide +kernel
theorem dX1_takesNewName_23 : decode cX1_takesNewName 23 = .ok (.getfield 33, 3) := by decide +kernel
theorem dX1_takesNewName_26 : decode cX1_takesNewName 26 = .ok (.aload_n 0, 1) := by decide +kernel
theorem dX1_takesNewName_27 : decode cX1_takesNewName 27 = .ok (.getfield 29, 3) := by decide +kernel
theorem dX1_takesNewName_30 : decode cX1_takesNewName 30 = .ok (.getfield 115, 3) := by decide +kernel
theorem dX1_takesNewName_33 : decode cX1_takesNewName 33 = .ok (.invokevirtual 131, 3) := by decide +kernel
theorem dX1_takesNewName_36 : decode cX1_takesNewName 36 = .ok (.iconst (-1), 1) := by decide +kernel
theorem dX1_takesNewName_37 : decode cX1_takesNewName 37 = .ok (.if_icmp .ne 18, 3) := by decide +kernel
theorem dX1_takesNewName_40 : decode cX1_takesNewName 40 = .ok (.aload_n 0, 1) := by decide +kernel
theorem dX1_takesNewName_41 : decode cX1_takesNewName 41 = .ok (.aload_n 0, 1) := by decide +kernel
theorem dX1_takesNewName_42 : decode cX1_takesNewName 42 = .ok (.getfield 29, 3) := by decide +kernel
theorem dX1_takesNewName_45 : decode cX1_takesNewName 45 = .ok (.getfield 115, 3) := by decide +kernel
theorem dX1_takesNewName_48 : decode cX1_takesNewName 48 = .ok (.invokevirtual 153, 3) := by decide +kernel
theorem dX1_takesNewName_51 : decode cX1_takesNewName 51 = .ok (.iconst (-1), 1) := by decide +kernel
theorem dX1_takesNewName_52 : decode cX1_takesNewName 52 = .ok (.if_icmp .eq 7, 3) := by decide +kernel
theorem dX1_takesNewName_55 : decode cX1_takesNewName 55 = .ok (.iconst 1, 1) := by decide +kernel
theorem dX1_takesNewName_56 : decode cX1_takesNewName 56 = .ok (.goto 4, 3) := by decide +kernel
theorem dX1_takesNewName_59 : decode cX1_takesNewName 59 = .ok (.iconst 0, 1) := by decide +kernel
theorem dX1_takesNewName_60 : decode cX1_takesNewName 60 = .ok (.istore_n 1, 1) := by decide +kernel
theorem dX1_takesNewName_61 : decode cX1_takesNewName 61 = .ok (.iload_n 1, 1) := by decide +kernel
theorem dX1_takesNewName_62 : decode cX1_takesNewName 62 = .ok (.ifCond .eq 21, 3) := by decide +kernel
theorem dX1_takesNewName_65 : decode cX1_takesNewName 65 = .ok (.aload_n 0, 1) := by decide +kernel
theorem dX1_takesNewName_66 : decode cX1_takesNewName 66 = .ok (.getfield 29, 3) := by decide +kernel
theorem dX1_takesNewName_69 : decode cX1_takesNewName 69 = .ok (.iconst 3, 1) := by decide +kernel
theorem dX1_takesNewName_70 : decode cX1_takesNewName 70 = .ok (.aload_n 0, 1) := by decide +kernel
theorem dX1_takesNewName_71 : decode cX1_takesNewName 71 = .ok (.getfield 29, 3) := by decide +kernel
theorem dX1_takesNewName_74 : decode cX1_takesNewName 74 = .ok (.getfield 82, 3) := by decide +kernel
theorem dX1_takesNewName_77 : decode cX1_takesNewName 77 = .ok (.invokevirtual 64, 3) := by decide +kernel
theorem dX1_takesNewName_80 : decode cX1_takesNewName 80 = .ok (.ifCond .eq 7, 3) := by decide +kernel
theorem dX1_takesNewName_83 : decode cX1_takesNewName 83 = .ok (.iconst 1, 1) := by decide +kernel
theorem dX1_takesNewName_84 : decode cX1_takesNewName 84 = .ok (.goto 4, 3) := by decide +kernel
theorem dX1_takesNewName_87 : decode cX1_takesNewName 87 = .ok (.iconst 0, 1) := by decide +kernel
theorem dX1_takesNewName_88 : decode cX1_takesNewName 88 = .ok (.ireturn, 1) := by decide +kernel
theorem dX1_takesPointer_0 : decode cX1_takesPointer 0 = .ok (.aload_n 0, 1) := by decide +kernel
theorem dX1_takesPointer_1 : decode cX1_takesPointer 1 = .ok (.aload_n 0, 1) := by decide +kernel
theorem dX1_takesPointer_2 : decode cX1_takesPointer 2 = .ok (.getfield 29, 3) := by decide +kernel
theorem dX1_takesPointer_5 : decode cX1_takesPointer 5 = .ok (.getfield 115, 3) := by decide +kernel
theorem dX1_takesPointer_8 : decode cX1_takesPointer 8 = .ok (.invokevirtual 153, 3) := by decide +kernel
theorem dX1_takesPointer_11 : decode cX1_takesPointer 11 = .ok (.istore_n 1, 1) := by decide +kernel
theorem dX1_takesPointer_12 : decode cX1_takesPointer 12 = .ok (.iload_n 1, 1) := by decide +kernel
theorem dX1_takesPointer_13 : decode cX1_takesPointer 13 = .ok (.iconst (-1), 1) := by decide +kernel
theorem dX1_takesPointer_14 : decode cX1_takesPointer 14 = .ok (.if_icmp .ne 19, 3) := by decide +kernel
theorem dX1_takesPointer_17 : decode cX1_takesPointer 17 = .ok (.aload_n 0, 1) := by decide +kernel
theorem dX1_takesPointer_18 : decode cX1_takesPointer 18 = .ok (.getfield 29, 3) := by decide +kernel
theorem dX1_takesPointer_21 : decode cX1_takesPointer 21 = .ok (.iconst 3, 1) := by decide +kernel
theorem dX1_takesPointer_22 : decode cX1_takesPointer 22 = .ok (.aload_n 0, 1) := by decide +kernel
theorem dX1_takesPointer_23 : decode cX1_takesPointer 23 = .ok (.getfield 29, 3) := by decide +kernel
theorem dX1_takesPointer_26 : decode cX1_takesPointer 26 = .ok (.getfield 82, 3) := by decide +kernel
theorem dX1_takesPointer_29 : decode cX1_takesPointer 29 = .ok (.invokevirtual 64, 3) := by decide +kernel
theorem dX1_takesPointer_32 : decode cX1_takesPointer 32 = .ok (.ireturn, 1) := by decide +kernel
theorem dX1_takesPointer_33 : decode cX1_takesPointer 33 = .ok (.aload_n 0, 1) := by decide +kernel
theorem dX1_takesPointer_34 : decode cX1_takesPointer 34 = .ok (.sipush 3048, 3) := by decide +kernel
theorem dX1_takesPointer_37 : decode cX1_takesPointer 37 = .ok (.iload_n 1, 1) := by decide +kernel
theorem dX1_takesPointer_38 : decode cX1_takesPointer 38 = .ok (.iadd, 1) := by decide +kernel
theorem dX1_takesPointer_39 : decode cX1_takesPointer 39 = .ok (.putfield 26, 3) := by decide +kernel
theorem dX1_takesPointer_42 : decode cX1_takesPointer 42 = .ok (.aload_n 0, 1) := by decide +kernel
theorem dX1_takesPointer_43 : decode cX1_takesPointer 43 = .ok (.getfield 29, 3) := by decide +kernel
theorem dX1_takesPointer_46 : decode cX1_takesPointer 46 = .ok (.bipush 43, 2) := by decide +kernel
theorem dX1_takesPointer_48 : decode cX1_takesPointer 48 = .ok (.invokevirtual 122, 3) := by decide +kernel
theorem dX1_takesPointer_51 : decode cX1_takesPointer 51 = .ok (.ifCond .eq 49, 3) := by decide +kernel
theorem dX1_takesPointer_54 : decode cX1_takesPointer 54 = .ok (.aload_n 0, 1) := by decide +kernel
theorem dX1_takesPointer_55 : decode cX1_takesPointer 55 = .ok (.getfield 29, 3) := by decide +kernel
theorem dX1_takesPointer_58 : decode cX1_takesPointer 58 = .ok (.iconst 0, 1) := by decide +kernel
theorem dX1_takesPointer_59 : decode cX1_takesPointer 59 = .ok (.aload_n 0, 1) := by decide +kernel
theorem dX1_takesPointer_60 : decode cX1_takesPointer 60 = .ok (.getfield 33, 3) := by decide +kernel
theorem dX1_takesPointer_63 : decode cX1_takesPointer 63 = .ok (.aload_n 0, 1) := by decide +kernel
theorem dX1_takesPointer_64 : decode cX1_takesPointer 64 = .ok (.getfield 37, 3) := by decide +kernel
theorem dX1_takesPointer_67 : decode cX1_takesPointer 67 = .ok (.iload_n 1, 1) := by decide +kernel
theorem dX1_takesPointer_68 : decode cX1_takesPointer 68 = .ok (.invokevirtual 156, 3) := by decide +kernel
theorem dX1_takesPointer_71 : decode cX1_takesPointer 71 = .ok (.invokevirtual 168, 3) := by decide +kernel
theorem dX1_takesPointer_74 : decode cX1_takesPointer 74 = .ok (.iconst 1, 1) := by decide +kernel
theorem dX1_takesPointer_75 : decode cX1_takesPointer 75 = .ok (.isub, 1) := by decide +kernel
theorem dX1_takesPointer_76 : decode cX1_takesPointer 76 = .ok (.invokevirtual 103, 3) := by decide +kernel
theorem dX1_takesPointer_79 : decode cX1_takesPointer 79 = .ok (.ifCond .ne 5, 3) := by decide +kernel
theorem dX1_takesPointer_82 : decode cX1_takesPointer 82 = .ok (.iconst 0, 1) := by decide +kernel
theorem dX1_takesPointer_83 : decode cX1_takesPointer 83 = .ok (.ireturn, 1) := by decide +kernel
theorem dX1_takesPointer_84 : decode cX1_takesPointer 84 = .ok (.aload_n 0, 1) := by decide +kernel
theorem dX1_takesPointer_85 : decode cX1_takesPointer 85 = .ok (.dup, 1) := by decide +kernel
theorem dX1_takesPointer_86 : decode cX1_takesPointer 86 = .ok (.getfield 26, 3) := by decide +kernel
theorem dX1_takesPointer_89 : decode cX1_takesPointer 89 = .ok (.aload_n 0, 1) := by decide +kernel
theorem dX1_takesPointer_90 : decode cX1_takesPointer 90 = .ok (.getfield 29, 3) := by decide +kernel
theorem dX1_takesPointer_93 : decode cX1_takesPointer 93 = .ok (.getfield 106, 3) := by decide +kernel
theorem dX1_takesPointer_96 : decode cX1_takesPointer 96 = .ok (.iadd, 1) := by decide +kernel
theorem dX1_takesPointer_97 : decode cX1_takesPointer 97 = .ok (.putfield 26, 3) := by decide +kernel
theorem dX1_takesPointer_100 : decode cX1_takesPointer 100 = .ok (.iconst 1, 1) := by decide +kernel
theorem dX1_takesPointer_101 : decode cX1_takesPointer 101 = .ok (.ireturn, 1) := by decide +kernel
theorem dX2_cellAt_0 : decode cX2_cellAt 0 = .ok (.iconst 0, 1) := by decide +kernel
theorem dX2_cellAt_1 : decode cX2_cellAt 1 = .ok (.istore_n 3, 1) := by decide +kernel
theorem dX2_cellAt_2 : decode cX2_cellAt 2 = .ok (.aload_n 1, 1) := by decide +kernel
theorem dX2_cellAt_3 : decode cX2_cellAt 3 = .ok (.getfield 32, 3) := by decide +kernel
theorem dX2_cellAt_6 : decode cX2_cellAt 6 = .ok (.istore 4, 2) := by decide +kernel
theorem dX2_cellAt_8 : decode cX2_cellAt 8 = .ok (.iload 4, 2) := by decide +kernel
theorem dX2_cellAt_10 : decode cX2_cellAt 10 = .ok (.aload_n 1, 1) := by decide +kernel
theorem dX2_cellAt_11 : decode cX2_cellAt 11 = .ok (.getfield 37, 3) := by decide +kernel
theorem dX2_cellAt_14 : decode cX2_cellAt 14 = .ok (.if_icmp .ge 32, 3) := by decide +kernel
theorem dX2_cellAt_17 : decode cX2_cellAt 17 = .ok (.iload_n 3, 1) := by decide +kernel
theorem dX2_cellAt_18 : decode cX2_cellAt 18 = .ok (.iload_n 2, 1) := by decide +kernel
theorem dX2_cellAt_19 : decode cX2_cellAt 19 = .ok (.if_icmp .ne 6, 3) := by decide +kernel
theorem dX2_cellAt_22 : decode cX2_cellAt 22 = .ok (.iload 4, 2) := by decide +kernel
theorem dX2_cellAt_24 : decode cX2_cellAt 24 = .ok (.ireturn, 1) := by decide +kernel
theorem dX2_cellAt_25 : decode cX2_cellAt 25 = .ok (.iinc 3 1, 3) := by decide +kernel
theorem dX2_cellAt_28 : decode cX2_cellAt 28 = .ok (.iload 4, 2) := by decide +kernel
theorem dX2_cellAt_30 : decode cX2_cellAt 30 = .ok (.aload_n 0, 1) := by decide +kernel
theorem dX2_cellAt_31 : decode cX2_cellAt 31 = .ok (.aload_n 1, 1) := by decide +kernel
theorem dX2_cellAt_32 : decode cX2_cellAt 32 = .ok (.iload 4, 2) := by decide +kernel
theorem dX2_cellAt_34 : decode cX2_cellAt 34 = .ok (.invokevirtual 40, 3) := by decide +kernel
theorem dX2_cellAt_37 : decode cX2_cellAt 37 = .ok (.invokevirtual 44, 3) := by decide +kernel
theorem dX2_cellAt_40 : decode cX2_cellAt 40 = .ok (.iadd, 1) := by decide +kernel
theorem dX2_cellAt_41 : decode cX2_cellAt 41 = .ok (.istore 4, 2) := by decide +kernel
theorem dX2_cellAt_43 : decode cX2_cellAt 43 = .ok (.goto (-35), 3) := by decide +kernel
theorem dX2_cellAt_46 : decode cX2_cellAt 46 = .ok (.iconst (-1), 1) := by decide +kernel
theorem dX2_cellAt_47 : decode cX2_cellAt 47 = .ok (.ireturn, 1) := by decide +kernel
theorem dX2_copyFrom_0 : decode cX2_copyFrom 0 = .ok (.aload_n 0, 1) := by decide +kernel
theorem dX2_copyFrom_1 : decode cX2_copyFrom 1 = .ok (.aload_n 1, 1) := by decide +kernel
theorem dX2_copyFrom_2 : decode cX2_copyFrom 2 = .ok (.getfield 9, 3) := by decide +kernel
theorem dX2_copyFrom_5 : decode cX2_copyFrom 5 = .ok (.putfield 9, 3) := by decide +kernel
theorem dX2_copyFrom_8 : decode cX2_copyFrom 8 = .ok (.aload_n 1, 1) := by decide +kernel
theorem dX2_copyFrom_9 : decode cX2_copyFrom 9 = .ok (.getfield 15, 3) := by decide +kernel
theorem dX2_copyFrom_12 : decode cX2_copyFrom 12 = .ok (.iconst 0, 1) := by decide +kernel
theorem dX2_copyFrom_13 : decode cX2_copyFrom 13 = .ok (.aload_n 0, 1) := by decide +kernel
theorem dX2_copyFrom_14 : decode cX2_copyFrom 14 = .ok (.getfield 15, 3) := by decide +kernel
theorem dX2_copyFrom_17 : decode cX2_copyFrom 17 = .ok (.iconst 0, 1) := by decide +kernel
theorem dX2_copyFrom_18 : decode cX2_copyFrom 18 = .ok (.aload_n 0, 1) := by decide +kernel
theorem dX2_copyFrom_19 : decode cX2_copyFrom 19 = .ok (.getfield 15, 3) := by decide +kernel
theorem dX2_copyFrom_22 : decode cX2_copyFrom 22 = .ok (.arraylength, 1) := by decide +kernel
theorem dX2_copyFrom_23 : decode cX2_copyFrom 23 = .ok (.invokestatic 26, 3) := by decide +kernel
theorem dX2_copyFrom_26 : decode cX2_copyFrom 26 = .ok (.aload_n 1, 1) := by decide +kernel
theorem dX2_copyFrom_27 : decode cX2_copyFrom 27 = .ok (.getfield 19, 3) := by decide +kernel
theorem dX2_copyFrom_30 : decode cX2_copyFrom 30 = .ok (.iconst 0, 1) := by decide +kernel
theorem dX2_copyFrom_31 : decode cX2_copyFrom 31 = .ok (.aload_n 0, 1) := by decide +kernel
theorem dX2_copyFrom_32 : decode cX2_copyFrom 32 = .ok (.getfield 19, 3) := by decide +kernel
theorem dX2_copyFrom_35 : decode cX2_copyFrom 35 = .ok (.iconst 0, 1) := by decide +kernel
theorem dX2_copyFrom_36 : decode cX2_copyFrom 36 = .ok (.aload_n 0, 1) := by decide +kernel
theorem dX2_copyFrom_37 : decode cX2_copyFrom 37 = .ok (.getfield 19, 3) := by decide +kernel
theorem dX2_copyFrom_40 : decode cX2_copyFrom 40 = .ok (.arraylength, 1) := by decide +kernel
theorem dX2_copyFrom_41 : decode cX2_copyFrom 41 = .ok (.invokestatic 26, 3) := by decide +kernel
theorem dX2_copyFrom_44 : decode cX2_copyFrom 44 = .ok (.aload_n 1, 1) := by decide +kernel
theorem dX2_copyFrom_45 : decode cX2_copyFrom 45 = .ok (.getfield 23, 3) := by decide +kernel
theorem dX2_copyFrom_48 : decode cX2_copyFrom 48 = .ok (.iconst 0, 1) := by decide +kernel
theorem dX2_copyFrom_49 : decode cX2_copyFrom 49 = .ok (.aload_n 0, 1) := by decide +kernel
theorem dX2_copyFrom_50 : decode cX2_copyFrom 50 = .ok (.getfield 23, 3) := by decide +kernel
theorem dX2_copyFrom_53 : decode cX2_copyFrom 53 = .ok (.iconst 0, 1) := by decide +kernel
theorem dX2_copyFrom_54 : decode cX2_copyFrom 54 = .ok (.aload_n 0, 1) := by decide +kernel
theorem dX2_copyFrom_55 : decode cX2_copyFrom 55 = .ok (.getfield 23, 3) := by decide +kernel
theorem dX2_copyFrom_58 : decode cX2_copyFrom 58 = .ok (.arraylength, 1) := by decide +kernel
theorem dX2_copyFrom_59 : decode cX2_copyFrom 59 = .ok (.invokestatic 26, 3) := by decide +kernel
theorem dX2_copyFrom_62 : decode cX2_copyFrom 62 = .ok (.return_, 1) := by decide +kernel
theorem dX2_countCells_0 : decode cX2_countCells 0 = .ok (.iconst 0, 1) := by decide +kernel
theorem dX2_countCells_1 : decode cX2_countCells 1 = .ok (.istore_n 2, 1) := by decide +kernel
theorem dX2_countCells_2 : decode cX2_countCells 2 = .ok (.aload_n 1, 1) := by decide +kernel
theorem dX2_countCells_3 : decode cX2_countCells 3 = .ok (.getfield 32, 3) := by decide +kernel
theorem dX2_countCells_6 : decode cX2_countCells 6 = .ok (.istore_n 3, 1) := by decide +kernel
theorem dX2_countCells_7 : decode cX2_countCells 7 = .ok (.iload_n 3, 1) := by decide +kernel
theorem dX2_countCells_8 : decode cX2_countCells 8 = .ok (.aload_n 1, 1) := by decide +kernel
theorem dX2_countCells_9 : decode cX2_countCells 9 = .ok (.getfield 37, 3) := by decide +kernel
theorem dX2_countCells_12 : decode cX2_countCells 12 = .ok (.if_icmp .ge 21, 3) := by decide +kernel
theorem dX2_countCells_15 : decode cX2_countCells 15 = .ok (.iinc 2 1, 3) := by decide +kernel
theorem dX2_countCells_18 : decode cX2_countCells 18 = .ok (.iload_n 3, 1) := by decide +kernel
theorem dX2_countCells_19 : decode cX2_countCells 19 = .ok (.aload_n 0, 1) := by decide +kernel
theorem dX2_countCells_20 : decode cX2_countCells 20 = .ok (.aload_n 1, 1) := by decide +kernel
theorem dX2_countCells_21 : decode cX2_countCells 21 = .ok (.iload_n 3, 1) := by decide +kernel
theorem dX2_countCells_22 : decode cX2_countCells 22 = .ok (.invokevirtual 40, 3) := by decide +kernel
theorem dX2_countCells_25 : decode cX2_countCells 25 = .ok (.invokevirtual 44, 3) := by decide +kernel
theorem dX2_countCells_28 : decode cX2_countCells 28 = .ok (.iadd, 1) := by decide +kernel
theorem dX2_countCells_29 : decode cX2_countCells 29 = .ok (.istore_n 3, 1) := by decide +kernel
theorem dX2_countCells_30 : decode cX2_countCells 30 = .ok (.goto (-23), 3) := by decide +kernel
theorem dX2_countCells_33 : decode cX2_countCells 33 = .ok (.iload_n 2, 1) := by decide +kernel
theorem dX2_countCells_34 : decode cX2_countCells 34 = .ok (.ireturn, 1) := by decide +kernel
theorem dX2_init_0 : decode cX2_init 0 = .ok (.aload_n 0, 1) := by decide +kernel
theorem dX2_init_1 : decode cX2_init 1 = .ok (.invokespecial 3, 3) := by decide +kernel
theorem dX2_init_4 : decode cX2_init 4 = .ok (.aload_n 0, 1) := by decide +kernel
theorem dX2_init_5 : decode cX2_init 5 = .ok (.iconst 0, 1) := by decide +kernel
theorem dX2_init_6 : decode cX2_init 6 = .ok (.putfield 9, 3) := by decide +kernel
theorem dX2_init_9 : decode cX2_init 9 = .ok (.aload_n 0, 1) := by decide +kernel
theorem dX2_init_10 : decode cX2_init 10 = .ok (.bipush 6, 2) := by decide +kernel
theorem dX2_init_12 : decode cX2_init 12 = .ok (.newarray .long, 2) := by decide +kernel
theorem dX2_init_14 : decode cX2_init 14 = .ok (.putfield 15, 3) := by decide +kernel
theorem dX2_init_17 : decode cX2_init 17 = .ok (.aload_n 0, 1) := by decide +kernel
theorem dX2_init_18 : decode cX2_init 18 = .ok (.bipush 6, 2) := by decide +kernel
theorem dX2_init_20 : decode cX2_init 20 = .ok (.newarray .int, 2) := by decide +kernel
theorem dX2_init_22 : decode cX2_init 22 = .ok (.putfield 19, 3) := by decide +kernel
theorem dX2_init_25 : decode cX2_init 25 = .ok (.aload_n 0, 1) := by decide +kernel
theorem dX2_init_26 : decode cX2_init 26 = .ok (.bipush 36, 2) := by decide +kernel
theorem dX2_init_28 : decode cX2_init 28 = .ok (.newarray .int, 2) := by decide +kernel
theorem dX2_init_30 : decode cX2_init 30 = .ok (.putfield 23, 3) := by decide +kernel
theorem dX2_init_33 : decode cX2_init 33 = .ok (.return_, 1) := by decide +kernel
theorem dX2_named_0 : decode cX2_named 0 = .ok (.iconst 0, 1) := by decide +kernel
theorem dX2_named_1 : decode cX2_named 1 = .ok (.istore_n 3, 1) := by decide +kernel
theorem dX2_named_2 : decode cX2_named 2 = .ok (.iload_n 3, 1) := by decide +kernel
theorem dX2_named_3 : decode cX2_named 3 = .ok (.aload_n 0, 1) := by decide +kernel
theorem dX2_named_4 : decode cX2_named 4 = .ok (.getfield 9, 3) := by decide +kernel
theorem dX2_named_7 : decode cX2_named 7 = .ok (.if_icmp .ge 22, 3) := by decide +kernel
theorem dX2_named_10 : decode cX2_named 10 = .ok (.aload_n 0, 1) := by decide +kernel
theorem dX2_named_11 : decode cX2_named 11 = .ok (.getfield 15, 3) := by decide +kernel
theorem dX2_named_14 : decode cX2_named 14 = .ok (.iload_n 3, 1) := by decide +kernel
theorem dX2_named_15 : decode cX2_named 15 = .ok (.laload, 1) := by decide +kernel
theorem dX2_named_16 : decode cX2_named 16 = .ok (.lload_n 1, 1) := by decide +kernel
theorem dX2_named_17 : decode cX2_named 17 = .ok (.lcmp, 1) := by decide +kernel
theorem dX2_named_18 : decode cX2_named 18 = .ok (.ifCond .ne 5, 3) := by decide +kernel
theorem dX2_named_21 : decode cX2_named 21 = .ok (.iload_n 3, 1) := by decide +kernel
theorem dX2_named_22 : decode cX2_named 22 = .ok (.ireturn, 1) := by decide +kernel
theorem dX2_named_23 : decode cX2_named 23 = .ok (.iinc 3 1, 3) := by decide +kernel
theorem dX2_named_26 : decode cX2_named 26 = .ok (.goto (-24), 3) := by decide +kernel
theorem dX2_named_29 : decode cX2_named 29 = .ok (.iconst (-1), 1) := by decide +kernel
theorem dX2_named_30 : decode cX2_named 30 = .ok (.ireturn, 1) := by decide +kernel
theorem dX2_sortOfField_0 : decode cX2_sortOfField 0 = .ok (.aload_n 0, 1) := by decide +kernel
theorem dX2_sortOfField_1 : decode cX2_sortOfField 1 = .ok (.getfield 23, 3) := by decide +kernel
theorem dX2_sortOfField_4 : decode cX2_sortOfField 4 = .ok (.iload_n 1, 1) := by decide +kernel
theorem dX2_sortOfField_5 : decode cX2_sortOfField 5 = .ok (.bipush 6, 2) := by decide +kernel
theorem dX2_sortOfField_7 : decode cX2_sortOfField 7 = .ok (.imul, 1) := by decide +kernel
theorem dX2_sortOfField_8 : decode cX2_sortOfField 8 = .ok (.iload_n 2, 1) := by decide +kernel
theorem dX2_sortOfField_9 : decode cX2_sortOfField 9 = .ok (.iadd, 1) := by decide +kernel
theorem dX2_sortOfField_10 : decode cX2_sortOfField 10 = .ok (.iaload, 1) := by decide +kernel
theorem dX2_sortOfField_11 : decode cX2_sortOfField 11 = .ok (.ireturn, 1) := by decide +kernel
theorem dX2_wordsOf_0 : decode cX2_wordsOf 0 = .ok (.iload_n 1, 1) := by decide +kernel
theorem dX2_wordsOf_1 : decode cX2_wordsOf 1 = .ok (.sipush 5096, 3) := by decide +kernel
theorem dX2_wordsOf_4 : decode cX2_wordsOf 4 = .ok (.isub, 1) := by decide +kernel
theorem dX2_wordsOf_5 : decode cX2_wordsOf 5 = .ok (.istore_n 2, 1) := by decide +kernel
theorem dX2_wordsOf_6 : decode cX2_wordsOf 6 = .ok (.iload_n 2, 1) := by decide +kernel
theorem dX2_wordsOf_7 : decode cX2_wordsOf 7 = .ok (.ifCond .lt 11, 3) := by decide +kernel
theorem dX2_wordsOf_10 : decode cX2_wordsOf 10 = .ok (.iload_n 2, 1) := by decide +kernel
theorem dX2_wordsOf_11 : decode cX2_wordsOf 11 = .ok (.aload_n 0, 1) := by decide +kernel
theorem dX2_wordsOf_12 : decode cX2_wordsOf 12 = .ok (.getfield 9, 3) := by decide +kernel
theorem dX2_wordsOf_15 : decode cX2_wordsOf 15 = .ok (.if_icmp .lt 7, 3) := by decide +kernel
theorem dX2_wordsOf_18 : decode cX2_wordsOf 18 = .ok (.iconst 1, 1) := by decide +kernel
theorem dX2_wordsOf_19 : decode cX2_wordsOf 19 = .ok (.goto 11, 3) := by decide +kernel
theorem dX2_wordsOf_22 : decode cX2_wordsOf 22 = .ok (.aload_n 0, 1) := by decide +kernel
theorem dX2_wordsOf_23 : decode cX2_wordsOf 23 = .ok (.getfield 19, 3) := by decide +kernel
theorem dX2_wordsOf_26 : decode cX2_wordsOf 26 = .ok (.iload_n 2, 1) := by decide +kernel
theorem dX2_wordsOf_27 : decode cX2_wordsOf 27 = .ok (.iaload, 1) := by decide +kernel
theorem dX2_wordsOf_28 : decode cX2_wordsOf 28 = .ok (.iconst 1, 1) := by decide +kernel
theorem dX2_wordsOf_29 : decode cX2_wordsOf 29 = .ok (.iadd, 1) := by decide +kernel
theorem dX2_wordsOf_30 : decode cX2_wordsOf 30 = .ok (.ireturn, 1) := by decide +kernel
theorem dX3_heldAt_0 : decode cX3_heldAt 0 = .ok (.aload_n 0, 1) := by decide +kernel
theorem dX3_heldAt_1 : decode cX3_heldAt 1 = .ok (.iload_n 1, 1) := by decide +kernel
theorem dX3_heldAt_2 : decode cX3_heldAt 2 = .ok (.iconst 1, 1) := by decide +kernel
theorem dX3_heldAt_3 : decode cX3_heldAt 3 = .ok (.iadd, 1) := by decide +kernel
theorem dX3_heldAt_4 : decode cX3_heldAt 4 = .ok (.iaload, 1) := by decide +kernel
theorem dX3_heldAt_5 : decode cX3_heldAt 5 = .ok (.sipush 256, 3) := by decide +kernel
theorem dX3_heldAt_8 : decode cX3_heldAt 8 = .ok (.imul, 1) := by decide +kernel
theorem dX3_heldAt_9 : decode cX3_heldAt 9 = .ok (.aload_n 0, 1) := by decide +kernel
theorem dX3_heldAt_10 : decode cX3_heldAt 10 = .ok (.iload_n 1, 1) := by decide +kernel
theorem dX3_heldAt_11 : decode cX3_heldAt 11 = .ok (.iconst 2, 1) := by decide +kernel
theorem dX3_heldAt_12 : decode cX3_heldAt 12 = .ok (.iadd, 1) := by decide +kernel
theorem dX3_heldAt_13 : decode cX3_heldAt 13 = .ok (.iaload, 1) := by decide +kernel
theorem dX3_heldAt_14 : decode cX3_heldAt 14 = .ok (.iadd, 1) := by decide +kernel
theorem dX3_heldAt_15 : decode cX3_heldAt 15 = .ok (.istore_n 2, 1) := by decide +kernel
theorem dX3_heldAt_16 : decode cX3_heldAt 16 = .ok (.aload_n 0, 1) := by decide +kernel
theorem dX3_heldAt_17 : decode cX3_heldAt 17 = .ok (.iload_n 1, 1) := by decide +kernel
theorem dX3_heldAt_18 : decode cX3_heldAt 18 = .ok (.iaload, 1) := by decide +kernel
theorem dX3_heldAt_19 : decode cX3_heldAt 19 = .ok (.iconst 2, 1) := by decide +kernel
theorem dX3_heldAt_20 : decode cX3_heldAt 20 = .ok (.if_icmp .gt 10, 3) := by decide +kernel
theorem dX3_heldAt_23 : decode cX3_heldAt 23 = .ok (.iload_n 2, 1) := by decide +kernel
theorem dX3_heldAt_24 : decode cX3_heldAt 24 = .ok (.sipush 2047, 3) := by decide +kernel
theorem dX3_heldAt_27 : decode cX3_heldAt 27 = .ok (.if_icmp .le 7, 3) := by decide +kernel
theorem dX3_heldAt_30 : decode cX3_heldAt 30 = .ok (.iconst (-1), 1) := by decide +kernel
theorem dX3_heldAt_31 : decode cX3_heldAt 31 = .ok (.goto 11, 3) := by decide +kernel
theorem dX3_heldAt_34 : decode cX3_heldAt 34 = .ok (.aload_n 0, 1) := by decide +kernel
theorem dX3_heldAt_35 : decode cX3_heldAt 35 = .ok (.iload_n 1, 1) := by decide +kernel
theorem dX3_heldAt_36 : decode cX3_heldAt 36 = .ok (.iaload, 1) := by decide +kernel
theorem dX3_heldAt_37 : decode cX3_heldAt 37 = .ok (.bipush 11, 2) := by decide +kernel
theorem dX3_heldAt_39 : decode cX3_heldAt 39 = .ok (.ishl, 1) := by decide +kernel
theorem dX3_heldAt_40 : decode cX3_heldAt 40 = .ok (.iload_n 2, 1) := by decide +kernel
theorem dX3_heldAt_41 : decode cX3_heldAt 41 = .ok (.iadd, 1) := by decide +kernel
theorem dX3_heldAt_42 : decode cX3_heldAt 42 = .ok (.ireturn, 1) := by decide +kernel
theorem dX3_init_0 : decode cX3_init 0 = .ok (.aload_n 0, 1) := by decide +kernel
theorem dX3_init_1 : decode cX3_init 1 = .ok (.invokespecial 3, 3) := by decide +kernel
theorem dX3_init_4 : decode cX3_init 4 = .ok (.aload_n 0, 1) := by decide +kernel
theorem dX3_init_5 : decode cX3_init 5 = .ok (.sipush 507, 3) := by decide +kernel
theorem dX3_init_8 : decode cX3_init 8 = .ok (.newarray .int, 2) := by decide +kernel
theorem dX3_init_10 : decode cX3_init 10 = .ok (.putfield 11, 3) := by decide +kernel
theorem dX3_init_13 : decode cX3_init 13 = .ok (.aload_n 0, 1) := by decide +kernel
theorem dX3_init_14 : decode cX3_init 14 = .ok (.iconst 0, 1) := by decide +kernel
theorem dX3_init_15 : decode cX3_init 15 = .ok (.putfield 15, 3) := by decide +kernel
theorem dX3_init_18 : decode cX3_init 18 = .ok (.aload_n 0, 1) := by decide +kernel
theorem dX3_init_19 : decode cX3_init 19 = .ok (.aload_n 1, 1) := by decide +kernel
theorem dX3_init_20 : decode cX3_init 20 = .ok (.putfield 19, 3) := by decide +kernel
theorem dX3_init_23 : decode cX3_init 23 = .ok (.return_, 1) := by decide +kernel
theorem dX3_isNumber_0 : decode cX3_isNumber 0 = .ok (.iload_n 0, 1) := by decide +kernel
theorem dX3_isNumber_1 : decode cX3_isNumber 1 = .ok (.iconst 1, 1) := by decide +kernel
theorem dX3_isNumber_2 : decode cX3_isNumber 2 = .ok (.if_icmp .lt 14, 3) := by decide +kernel
theorem dX3_isNumber_5 : decode cX3_isNumber 5 = .ok (.iload_n 0, 1) := by decide +kernel
theorem dX3_isNumber_6 : decode cX3_isNumber 6 = .ok (.sipush 1999, 3) := by decide +kernel
theorem dX3_isNumber_9 : decode cX3_isNumber 9 = .ok (.if_icmp .gt 7, 3) := by decide +kernel
theorem dX3_isNumber_12 : decode cX3_isNumber 12 = .ok (.iconst 1, 1) := by decide +kernel
theorem dX3_isNumber_13 : decode cX3_isNumber 13 = .ok (.goto 4, 3) := by decide +kernel
theorem dX3_isNumber_16 : decode cX3_isNumber 16 = .ok (.iconst 0, 1) := by decide +kernel
theorem dX3_isNumber_17 : decode cX3_isNumber 17 = .ok (.ireturn, 1) := by decide +kernel
theorem dX3_isOfCells_0 : decode cX3_isOfCells 0 = .ok (.aload_n 1, 1) := by decide +kernel
theorem dX3_isOfCells_1 : decode cX3_isOfCells 1 = .ok (.getfield 28, 3) := by decide +kernel
theorem dX3_isOfCells_4 : decode cX3_isOfCells 4 = .ok (.istore_n 2, 1) := by decide +kernel
theorem dX3_isOfCells_5 : decode cX3_isOfCells 5 = .ok (.iload_n 2, 1) := by decide +kernel
theorem dX3_isOfCells_6 : decode cX3_isOfCells 6 = .ok (.aload_n 1, 1) := by decide +kernel
theorem dX3_isOfCells_7 : decode cX3_isOfCells 7 = .ok (.getfield 31, 3) := by decide +kernel
theorem dX3_isOfCells_10 : decode cX3_isOfCells 10 = .ok (.if_icmp .ge 148, 3) := by decide +kernel
theorem dX3_isOfCells_13 : decode cX3_isOfCells 13 = .ok (.aload_n 1, 1) := by decide +kernel
theorem dX3_isOfCells_14 : decode cX3_isOfCells 14 = .ok (.iload_n 2, 1) := by decide +kernel
theorem dX3_isOfCells_15 : decode cX3_isOfCells 15 = .ok (.invokevirtual 34, 3) := by decide +kernel
theorem dX3_isOfCells_18 : decode cX3_isOfCells 18 = .ok (.sipush 5096, 3) := by decide +kernel
theorem dX3_isOfCells_21 : decode cX3_isOfCells 21 = .ok (.isub, 1) := by decide +kernel
theorem dX3_isOfCells_22 : decode cX3_isOfCells 22 = .ok (.istore_n 3, 1) := by decide +kernel
theorem dX3_isOfCells_23 : decode cX3_isOfCells 23 = .ok (.iload_n 3, 1) := by decide +kernel
theorem dX3_isOfCells_24 : decode cX3_isOfCells 24 = .ok (.ifCond .lt 32, 3) := by decide +kernel
theorem dX3_isOfCells_27 : decode cX3_isOfCells 27 = .ok (.iload_n 3, 1) := by decide +kernel
theorem dX3_isOfCells_28 : decode cX3_isOfCells 28 = .ok (.aload_n 0, 1) := by decide +kernel
theorem dX3_isOfCells_29 : decode cX3_isOfCells 29 = .ok (.getfield 19, 3) := by decide +kernel
theorem dX3_isOfCells_32 : decode cX3_isOfCells 32 = .ok (.getfield 78, 3) := by decide +kernel
theorem dX3_isOfCells_35 : decode cX3_isOfCells 35 = .ok (.if_icmp .ge 21, 3) := by decide +kernel
theorem dX3_isOfCells_38 : decode cX3_isOfCells 38 = .ok (.iload_n 2, 1) := by decide +kernel
theorem dX3_isOfCells_39 : decode cX3_isOfCells 39 = .ok (.aload_n 0, 1) := by decide +kernel
theorem dX3_isOfCells_40 : decode cX3_isOfCells 40 = .ok (.getfield 19, 3) := by decide +kernel
theorem dX3_isOfCells_43 : decode cX3_isOfCells 43 = .ok (.getfield 83, 3) := by decide +kernel
theorem dX3_isOfCells_46 : decode cX3_isOfCells 46 = .ok (.iload_n 3, 1) := by decide +kernel
theorem dX3_isOfCells_47 : decode cX3_isOfCells 47 = .ok (.iaload, 1) := by decide +kernel
theorem dX3_isOfCells_48 : decode cX3_isOfCells 48 = .ok (.iadd, 1) := by decide +kernel
theorem dX3_isOfCells_49 : decode cX3_isOfCells 49 = .ok (.aload_n 1, 1) := by decide +kernel
theorem dX3_isOfCells_50 : decode cX3_isOfCells 50 = .ok (.getfield 31, 3) := by decide +kernel
theorem dX3_isOfCells_53 : decode cX3_isOfCells 53 = .ok (.if_icmp .lt 5, 3) := by decide +kernel
theorem dX3_isOfCells_56 : decode cX3_isOfCells 56 = .ok (.iconst 0, 1) := by decide +kernel
theorem dX3_isOfCells_57 : decode cX3_isOfCells 57 = .ok (.ireturn, 1) := by decide +kernel
theorem dX3_isOfCells_58 : decode cX3_isOfCells 58 = .ok (.iconst 0, 1) := by decide +kernel
theorem dX3_isOfCells_59 : decode cX3_isOfCells 59 = .ok (.istore 4, 2) := by decide +kernel
theorem dX3_isOfCells_61 : decode cX3_isOfCells 61 = .ok (.iload 4, 2) := by decide +kernel
theorem dX3_isOfCells_63 : decode cX3_isOfCells 63 = .ok (.aload_n 0, 1) := by decide +kernel
theorem dX3_isOfCells_64 : decode cX3_isOfCells 64 = .ok (.getfield 19, 3) := by decide +kernel
theorem dX3_isOfCells_67 : decode cX3_isOfCells 67 = .ok (.getfield 83, 3) := by decide +kernel
theorem dX3_isOfCells_70 : decode cX3_isOfCells 70 = .ok (.iload_n 3, 1) := by decide +kernel
theorem dX3_isOfCells_71 : decode cX3_isOfCells 71 = .ok (.iaload, 1) := by decide +kernel
theorem dX3_isOfCells_72 : decode cX3_isOfCells 72 = .ok (.if_icmp .ge 68, 3) := by decide +kernel
theorem dX3_isOfCells_75 : decode cX3_isOfCells 75 = .ok (.aload_n 1, 1) := by decide +kernel
theorem dX3_isOfCells_76 : decode cX3_isOfCells 76 = .ok (.iload_n 2, 1) := by decide +kernel
theorem dX3_isOfCells_77 : decode cX3_isOfCells 77 = .ok (.iconst 1, 1) := by decide +kernel
theorem dX3_isOfCells_78 : decode cX3_isOfCells 78 = .ok (.iadd, 1) := by decide +kernel
theorem dX3_isOfCells_79 : decode cX3_isOfCells 79 = .ok (.iload 4, 2) := by decide +kernel
theorem dX3_isOfCells_81 : decode cX3_isOfCells 81 = .ok (.iadd, 1) := by decide +kernel
theorem dX3_isOfCells_82 : decode cX3_isOfCells 82 = .ok (.invokevirtual 34, 3) := by decide +kernel
theorem dX3_isOfCells_85 : decode cX3_isOfCells 85 = .ok (.istore 5, 2) := by decide +kernel
theorem dX3_isOfCells_87 : decode cX3_isOfCells 87 = .ok (.aload_n 0, 1) := by decide +kernel
theorem dX3_isOfCells_88 : decode cX3_isOfCells 88 = .ok (.getfield 19, 3) := by decide +kernel
theorem dX3_isOfCells_91 : decode cX3_isOfCells 91 = .ok (.iload_n 3, 1) := by decide +kernel
theorem dX3_isOfCells_92 : decode cX3_isOfCells 92 = .ok (.iload 4, 2) := by decide +kernel
theorem dX3_isOfCells_94 : decode cX3_isOfCells 94 = .ok (.invokevirtual 86, 3) := by decide +kernel
theorem dX3_isOfCells_97 : decode cX3_isOfCells 97 = .ok (.ifCond .ne 7, 3) := by decide +kernel
theorem dX3_isOfCells_100 : decode cX3_isOfCells 100 = .ok (.iconst 1, 1) := by decide +kernel
theorem dX3_isOfCells_101 : decode cX3_isOfCells 101 = .ok (.goto 4, 3) := by decide +kernel
theorem dX3_isOfCells_104 : decode cX3_isOfCells 104 = .ok (.iconst 0, 1) := by decide +kernel
theorem dX3_isOfCells_105 : decode cX3_isOfCells 105 = .ok (.istore 6, 2) := by decide +kernel
theorem dX3_isOfCells_107 : decode cX3_isOfCells 107 = .ok (.iload 6, 2) := by decide +kernel
theorem dX3_isOfCells_109 : decode cX3_isOfCells 109 = .ok (.ifCond .eq 14, 3) := by decide +kernel
theorem dX3_isOfCells_112 : decode cX3_isOfCells 112 = .ok (.iload 5, 2) := by decide +kernel
theorem dX3_isOfCells_114 : decode cX3_isOfCells 114 = .ok (.invokestatic 59, 3) := by decide +kernel
theorem dX3_isOfCells_117 : decode cX3_isOfCells 117 = .ok (.ifCond .ne 17, 3) := by decide +kernel
theorem dX3_isOfCells_120 : decode cX3_isOfCells 120 = .ok (.goto 12, 3) := by decide +kernel
theorem dX3_isOfCells_123 : decode cX3_isOfCells 123 = .ok (.iload 5, 2) := by decide +kernel
theorem dX3_isOfCells_125 : decode cX3_isOfCells 125 = .ok (.aload_n 1, 1) := by decide +kernel
theorem dX3_isOfCells_126 : decode cX3_isOfCells 126 = .ok (.invokestatic 63, 3) := by decide +kernel
theorem dX3_isOfCells_129 : decode cX3_isOfCells 129 = .ok (.ifCond .ne 5, 3) := by decide +kernel
theorem dX3_isOfCells_132 : decode cX3_isOfCells 132 = .ok (.iconst 0, 1) := by decide +kernel
theorem dX3_isOfCells_133 : decode cX3_isOfCells 133 = .ok (.ireturn, 1) := by decide +kernel
theorem dX3_isOfCells_134 : decode cX3_isOfCells 134 = .ok (.iinc 4 1, 3) := by decide +kernel
theorem dX3_isOfCells_137 : decode cX3_isOfCells 137 = .ok (.goto (-76), 3) := by decide +kernel
theorem dX3_isOfCells_140 : decode cX3_isOfCells 140 = .ok (.iload_n 2, 1) := by decide +kernel
theorem dX3_isOfCells_141 : decode cX3_isOfCells 141 = .ok (.aload_n 0, 1) := by decide +kernel
theorem dX3_isOfCells_142 : decode cX3_isOfCells 142 = .ok (.getfield 19, 3) := by decide +kernel
theorem dX3_isOfCells_145 : decode cX3_isOfCells 145 = .ok (.aload_n 1, 1) := by decide +kernel
theorem dX3_isOfCells_146 : decode cX3_isOfCells 146 = .ok (.iload_n 2, 1) := by decide +kernel
theorem dX3_isOfCells_147 : decode cX3_isOfCells 147 = .ok (.invokevirtual 34, 3) := by decide +kernel
theorem dX3_isOfCells_150 : decode cX3_isOfCells 150 = .ok (.invokevirtual 90, 3) := by decide +kernel
theorem dX3_isOfCells_153 : decode cX3_isOfCells 153 = .ok (.iadd, 1) := by decide +kernel
theorem dX3_isOfCells_154 : decode cX3_isOfCells 154 = .ok (.istore_n 2, 1) := by decide +kernel
theorem dX3_isOfCells_155 : decode cX3_isOfCells 155 = .ok (.goto (-150), 3) := by decide +kernel
theorem dX3_isOfCells_158 : decode cX3_isOfCells 158 = .ok (.iconst 1, 1) := by decide +kernel
theorem dX3_isOfCells_159 : decode cX3_isOfCells 159 = .ok (.ireturn, 1) := by decide +kernel
theorem dX3_isPointer_0 : decode cX3_isPointer 0 = .ok (.iload_n 0, 1) := by decide +kernel
theorem dX3_isPointer_1 : decode cX3_isPointer 1 = .ok (.sipush 3047, 3) := by decide +kernel
theorem dX3_isPointer_4 : decode cX3_isPointer 4 = .ok (.if_icmp .eq 27, 3) := by decide +kernel
theorem dX3_isPointer_7 : decode cX3_isPointer 7 = .ok (.iload_n 0, 1) := by decide +kernel
theorem dX3_isPointer_8 : decode cX3_isPointer 8 = .ok (.sipush 3048, 3) := by decide +kernel
theorem dX3_isPointer_11 : decode cX3_isPointer 11 = .ok (.aload_n 1, 1) := by decide +kernel
theorem dX3_isPointer_12 : decode cX3_isPointer 12 = .ok (.getfield 28, 3) := by decide +kernel
theorem dX3_isPointer_15 : decode cX3_isPointer 15 = .ok (.iadd, 1) := by decide +kernel
theorem dX3_isPointer_16 : decode cX3_isPointer 16 = .ok (.if_icmp .lt 19, 3) := by decide +kernel
theorem dX3_isPointer_19 : decode cX3_isPointer 19 = .ok (.iload_n 0, 1) := by decide +kernel
theorem dX3_isPointer_20 : decode cX3_isPointer 20 = .ok (.sipush 3048, 3) := by decide +kernel
theorem dX3_isPointer_23 : decode cX3_isPointer 23 = .ok (.aload_n 1, 1) := by decide +kernel
theorem dX3_isPointer_24 : decode cX3_isPointer 24 = .ok (.getfield 31, 3) := by decide +kernel
theorem dX3_isPointer_27 : decode cX3_isPointer 27 = .ok (.iadd, 1) := by decide +kernel
theorem dX3_isPointer_28 : decode cX3_isPointer 28 = .ok (.if_icmp .ge 7, 3) := by decide +kernel
theorem dX3_isPointer_31 : decode cX3_isPointer 31 = .ok (.iconst 1, 1) := by decide +kernel
theorem dX3_isPointer_32 : decode cX3_isPointer 32 = .ok (.goto 4, 3) := by decide +kernel
theorem dX3_isPointer_35 : decode cX3_isPointer 35 = .ok (.iconst 0, 1) := by decide +kernel
theorem dX3_isPointer_36 : decode cX3_isPointer 36 = .ok (.ireturn, 1) := by decide +kernel
theorem dX3_readInto_0 : decode cX3_readInto 0 = .ok (.aload_n 2, 1) := by decide +kernel
theorem dX3_readInto_1 : decode cX3_readInto 1 = .ok (.getfield 49, 3) := by decide +kernel
theorem dX3_readInto_4 : decode cX3_readInto 4 = .ok (.astore 4, 2) := by decide +kernel
theorem dX3_readInto_6 : decode cX3_readInto 6 = .ok (.aload_n 2, 1) := by decide +kernel
theorem dX3_readInto_7 : decode cX3_readInto 7 = .ok (.getfield 52, 3) := by decide +kernel
theorem dX3_readInto_10 : decode cX3_readInto 10 = .ok (.iconst 1, 1) := by decide +kernel
theorem dX3_readInto_11 : decode cX3_readInto 11 = .ok (.isub, 1) := by decide +kernel
theorem dX3_readInto_12 : decode cX3_readInto 12 = .ok (.istore 5, 2) := by decide +kernel
theorem dX3_readInto_14 : decode cX3_readInto 14 = .ok (.iload 5, 2) := by decide +kernel
theorem dX3_readInto_16 : decode cX3_readInto 16 = .ok (.iconst 2, 1) := by decide +kernel
theorem dX3_readInto_17 : decode cX3_readInto 17 = .ok (.if_icmp .lt 52, 3) := by decide +kernel
theorem dX3_readInto_20 : decode cX3_readInto 20 = .ok (.aload 4, 2) := by decide +kernel
theorem dX3_readInto_22 : decode cX3_readInto 22 = .ok (.iconst 0, 1) := by decide +kernel
theorem dX3_readInto_23 : decode cX3_readInto 23 = .ok (.iaload, 1) := by decide +kernel
theorem dX3_readInto_24 : decode cX3_readInto 24 = .ok (.iconst 1, 1) := by decide +kernel
theorem dX3_readInto_25 : decode cX3_readInto 25 = .ok (.if_icmp .gt 44, 3) := by decide +kernel
theorem dX3_readInto_28 : decode cX3_readInto 28 = .ok (.aload 4, 2) := by decide +kernel
theorem dX3_readInto_30 : decode cX3_readInto 30 = .ok (.iconst 1, 1) := by decide +kernel
theorem dX3_readInto_31 : decode cX3_readInto 31 = .ok (.iaload, 1) := by decide +kernel
theorem dX3_readInto_32 : decode cX3_readInto 32 = .ok (.iload_n 3, 1) := by decide +kernel
theorem dX3_readInto_33 : decode cX3_readInto 33 = .ok (.if_icmp .gt 36, 3) := by decide +kernel
theorem dX3_readInto_36 : decode cX3_readInto 36 = .ok (.iload 5, 2) := by decide +kernel
theorem dX3_readInto_38 : decode cX3_readInto 38 = .ok (.iconst 2, 1) := by decide +kernel
theorem dX3_readInto_39 : decode cX3_readInto 39 = .ok (.iconst 3, 1) := by decide +kernel
theorem dX3_readInto_40 : decode cX3_readInto 40 = .ok (.bipush 8, 2) := by decide +kernel
theorem dX3_readInto_42 : decode cX3_readInto 42 = .ok (.iload_n 3, 1) := by decide +kernel
theorem dX3_readInto_43 : decode cX3_readInto 43 = .ok (.iadd, 1) := by decide +kernel
theorem dX3_readInto_44 : decode cX3_readInto 44 = .ok (.aload 4, 2) := by decide +kernel
theorem dX3_readInto_46 : decode cX3_readInto 46 = .ok (.iconst 1, 1) := by decide +kernel
theorem dX3_readInto_47 : decode cX3_readInto 47 = .ok (.iaload, 1) := by decide +kernel
theorem dX3_readInto_48 : decode cX3_readInto 48 = .ok (.isub, 1) := by decide +kernel
theorem dX3_readInto_49 : decode cX3_readInto 49 = .ok (.imul, 1) := by decide +kernel
theorem dX3_readInto_50 : decode cX3_readInto 50 = .ok (.iadd, 1) := by decide +kernel
theorem dX3_readInto_51 : decode cX3_readInto 51 = .ok (.if_icmp .ne 18, 3) := by decide +kernel
theorem dX3_readInto_54 : decode cX3_readInto 54 = .ok (.aload 4, 2) := by decide +kernel
theorem dX3_readInto_56 : decode cX3_readInto 56 = .ok (.iload 5, 2) := by decide +kernel
theorem dX3_readInto_58 : decode cX3_readInto 58 = .ok (.iaload, 1) := by decide +kernel
theorem dX3_readInto_59 : decode cX3_readInto 59 = .ok (.aload 4, 2) := by decide +kernel
theorem dX3_readInto_61 : decode cX3_readInto 61 = .ok (.iload 5, 2) := by decide +kernel
theorem dX3_readInto_63 : decode cX3_readInto 63 = .ok (.invokestatic 42, 3) := by decide +kernel
theorem dX3_readInto_66 : decode cX3_readInto 66 = .ok (.if_icmp .eq 5, 3) := by decide +kernel
theorem dX3_readInto_69 : decode cX3_readInto 69 = .ok (.iconst 0, 1) := by decide +kernel
theorem dX3_readInto_70 : decode cX3_readInto 70 = .ok (.ireturn, 1) := by decide +kernel
theorem dX3_readInto_71 : decode cX3_readInto 71 = .ok (.aload_n 1, 1) := by decide +kernel
theorem dX3_readInto_72 : decode cX3_readInto 72 = .ok (.iload_n 3, 1) := by decide +kernel
theorem dX3_readInto_73 : decode cX3_readInto 73 = .ok (.invokevirtual 53, 3) := by decide +kernel
theorem dX3_readInto_76 : decode cX3_readInto 76 = .ok (.aload_n 1, 1) := by decide +kernel
theorem dX3_readInto_77 : decode cX3_readInto 77 = .ok (.aload 4, 2) := by decide +kernel
theorem dX3_readInto_79 : decode cX3_readInto 79 = .ok (.iconst 0, 1) := by decide +kernel
theorem dX3_readInto_80 : decode cX3_readInto 80 = .ok (.iaload, 1) := by decide +kernel
theorem dX3_readInto_81 : decode cX3_readInto 81 = .ok (.putfield 23, 3) := by decide +kernel
theorem dX3_readInto_84 : decode cX3_readInto 84 = .ok (.aload_n 1, 1) := by decide +kernel
theorem dX3_readInto_85 : decode cX3_readInto 85 = .ok (.aload 4, 2) := by decide +kernel
theorem dX3_readInto_87 : decode cX3_readInto 87 = .ok (.iconst 1, 1) := by decide +kernel
theorem dX3_readInto_88 : decode cX3_readInto 88 = .ok (.iaload, 1) := by decide +kernel
theorem dX3_readInto_89 : decode cX3_readInto 89 = .ok (.putfield 28, 3) := by decide +kernel
theorem dX3_readInto_92 : decode cX3_readInto 92 = .ok (.iconst 0, 1) := by decide +kernel
theorem dX3_readInto_93 : decode cX3_readInto 93 = .ok (.istore 6, 2) := by decide +kernel
theorem dX3_readInto_95 : decode cX3_readInto 95 = .ok (.iload 6, 2) := by decide +kernel
theorem dX3_readInto_97 : decode cX3_readInto 97 = .ok (.bipush 8, 2) := by decide +kernel
theorem dX3_readInto_99 : decode cX3_readInto 99 = .ok (.if_icmp .ge 50, 3) := by decide +kernel
theorem dX3_readInto_102 : decode cX3_readInto 102 = .ok (.aload 4, 2) := by decide +kernel
theorem dX3_readInto_104 : decode cX3_readInto 104 = .ok (.iconst 2, 1) := by decide +kernel
theorem dX3_readInto_105 : decode cX3_readInto 105 = .ok (.iconst 3, 1) := by decide +kernel
theorem dX3_readInto_106 : decode cX3_readInto 106 = .ok (.iload 6, 2) := by decide +kernel
theorem dX3_readInto_108 : decode cX3_readInto 108 = .ok (.imul, 1) := by decide +kernel
theorem dX3_readInto_109 : decode cX3_readInto 109 = .ok (.iadd, 1) := by decide +kernel
theorem dX3_readInto_110 : decode cX3_readInto 110 = .ok (.invokestatic 56, 3) := by decide +kernel
theorem dX3_readInto_113 : decode cX3_readInto 113 = .ok (.istore 7, 2) := by decide +kernel
theorem dX3_readInto_115 : decode cX3_readInto 115 = .ok (.iload 7, 2) := by decide +kernel
theorem dX3_readInto_117 : decode cX3_readInto 117 = .ok (.invokestatic 59, 3) := by decide +kernel
theorem dX3_readInto_120 : decode cX3_readInto 120 = .ok (.ifCond .ne 14, 3) := by decide +kernel
theorem dX3_readInto_123 : decode cX3_readInto 123 = .ok (.iload 7, 2) := by decide +kernel
theorem dX3_readInto_125 : decode cX3_readInto 125 = .ok (.aload_n 1, 1) := by decide +kernel
theorem dX3_readInto_126 : decode cX3_readInto 126 = .ok (.invokestatic 63, 3) := by decide +kernel
theorem dX3_readInto_129 : decode cX3_readInto 129 = .ok (.ifCond .ne 5, 3) := by decide +kernel
theorem dX3_readInto_132 : decode cX3_readInto 132 = .ok (.iconst 0, 1) := by decide +kernel
theorem dX3_readInto_133 : decode cX3_readInto 133 = .ok (.ireturn, 1) := by decide +kernel
theorem dX3_readInto_134 : decode cX3_readInto 134 = .ok (.aload_n 1, 1) := by decide +kernel
theorem dX3_readInto_135 : decode cX3_readInto 135 = .ok (.getfield 67, 3) := by decide +kernel
theorem dX3_readInto_138 : decode cX3_readInto 138 = .ok (.iload 6, 2) := by decide +kernel
theorem dX3_readInto_140 : decode cX3_readInto 140 = .ok (.iload 7, 2) := by decide +kernel
theorem dX3_readInto_142 : decode cX3_readInto 142 = .ok (.iastore, 1) := by decide +kernel
theorem dX3_readInto_143 : decode cX3_readInto 143 = .ok (.iinc 6 1, 3) := by decide +kernel
theorem dX3_readInto_146 : decode cX3_readInto 146 = .ok (.goto (-51), 3) := by decide +kernel
theorem dX3_readInto_149 : decode cX3_readInto 149 = .ok (.bipush 26, 2) := by decide +kernel
theorem dX3_readInto_151 : decode cX3_readInto 151 = .ok (.istore 6, 2) := by decide +kernel
theorem dX3_readInto_153 : decode cX3_readInto 153 = .ok (.aload_n 1, 1) := by decide +kernel
theorem dX3_readInto_154 : decode cX3_readInto 154 = .ok (.getfield 28, 3) := by decide +kernel
theorem dX3_readInto_157 : decode cX3_readInto 157 = .ok (.istore 7, 2) := by decide +kernel
theorem dX3_readInto_159 : decode cX3_readInto 159 = .ok (.iload 7, 2) := by decide +kernel
theorem dX3_readInto_161 : decode cX3_readInto 161 = .ok (.iload_n 3, 1) := by decide +kernel
theorem dX3_readInto_162 : decode cX3_readInto 162 = .ok (.if_icmp .ge 25, 3) := by decide +kernel
theorem dX3_readInto_165 : decode cX3_readInto 165 = .ok (.aload_n 1, 1) := by decide +kernel
theorem dX3_readInto_166 : decode cX3_readInto 166 = .ok (.iload 7, 2) := by decide +kernel
theorem dX3_readInto_168 : decode cX3_readInto 168 = .ok (.aload 4, 2) := by decide +kernel
theorem dX3_readInto_170 : decode cX3_readInto 170 = .ok (.iload 6, 2) := by decide +kernel
theorem dX3_readInto_172 : decode cX3_readInto 172 = .ok (.invokestatic 56, 3) := by decide +kernel
theorem dX3_readInto_175 : decode cX3_readInto 175 = .ok (.invokevirtual 70, 3) := by decide +kernel
theorem dX3_readInto_178 : decode cX3_readInto 178 = .ok (.iinc 6 3, 3) := by decide +kernel
theorem dX3_readInto_181 : decode cX3_readInto 181 = .ok (.iinc 7 1, 3) := by decide +kernel
theorem dX3_readInto_184 : decode cX3_readInto 184 = .ok (.goto (-25), 3) := by decide +kernel
theorem dX3_readInto_187 : decode cX3_readInto 187 = .ok (.aload_n 0, 1) := by decide +kernel
theorem dX3_readInto_188 : decode cX3_readInto 188 = .ok (.aload_n 1, 1) := by decide +kernel
theorem dX3_readInto_189 : decode cX3_readInto 189 = .ok (.invokevirtual 74, 3) := by decide +kernel
theorem dX3_readInto_192 : decode cX3_readInto 192 = .ok (.ireturn, 1) := by decide +kernel
theorem dX3_sumOf_0 : decode cX3_sumOf 0 = .ok (.sipush 173, 3) := by decide +kernel
theorem dX3_sumOf_3 : decode cX3_sumOf 3 = .ok (.istore_n 2, 1) := by decide +kernel
theorem dX3_sumOf_4 : decode cX3_sumOf 4 = .ok (.iconst 0, 1) := by decide +kernel
theorem dX3_sumOf_5 : decode cX3_sumOf 5 = .ok (.istore_n 3, 1) := by decide +kernel
theorem dX3_sumOf_6 : decode cX3_sumOf 6 = .ok (.iload_n 3, 1) := by decide +kernel
theorem dX3_sumOf_7 : decode cX3_sumOf 7 = .ok (.iload_n 1, 1) := by decide +kernel
theorem dX3_sumOf_8 : decode cX3_sumOf 8 = .ok (.if_icmp .ge 21, 3) := by decide +kernel
theorem dX3_sumOf_11 : decode cX3_sumOf 11 = .ok (.iconst 3, 1) := by decide +kernel
theorem dX3_sumOf_12 : decode cX3_sumOf 12 = .ok (.iload_n 2, 1) := by decide +kernel
theorem dX3_sumOf_13 : decode cX3_sumOf 13 = .ok (.imul, 1) := by decide +kernel
theorem dX3_sumOf_14 : decode cX3_sumOf 14 = .ok (.aload_n 0, 1) := by decide +kernel
theorem dX3_sumOf_15 : decode cX3_sumOf 15 = .ok (.iload_n 3, 1) := by decide +kernel
theorem dX3_sumOf_16 : decode cX3_sumOf 16 = .ok (.iaload, 1) := by decide +kernel
theorem dX3_sumOf_17 : decode cX3_sumOf 17 = .ok (.iadd, 1) := by decide +kernel
theorem dX3_sumOf_18 : decode cX3_sumOf 18 = .ok (.sipush 251, 3) := by decide +kernel
theorem dX3_sumOf_21 : decode cX3_sumOf 21 = .ok (.irem, 1) := by decide +kernel
theorem dX3_sumOf_22 : decode cX3_sumOf 22 = .ok (.istore_n 2, 1) := by decide +kernel
theorem dX3_sumOf_23 : decode cX3_sumOf 23 = .ok (.iinc 3 1, 3) := by decide +kernel
theorem dX3_sumOf_26 : decode cX3_sumOf 26 = .ok (.goto (-20), 3) := by decide +kernel
theorem dX3_sumOf_29 : decode cX3_sumOf 29 = .ok (.iload_n 2, 1) := by decide +kernel
theorem dX3_sumOf_30 : decode cX3_sumOf 30 = .ok (.ireturn, 1) := by decide +kernel
theorem dX3_write_0 : decode cX3_write 0 = .ok (.aload_n 0, 1) := by decide +kernel
theorem dX3_write_1 : decode cX3_write 1 = .ok (.getfield 11, 3) := by decide +kernel
theorem dX3_write_4 : decode cX3_write 4 = .ok (.iconst 0, 1) := by decide +kernel
theorem dX3_write_5 : decode cX3_write 5 = .ok (.aload_n 1, 1) := by decide +kernel
theorem dX3_write_6 : decode cX3_write 6 = .ok (.getfield 23, 3) := by decide +kernel
theorem dX3_write_9 : decode cX3_write 9 = .ok (.iastore, 1) := by decide +kernel
theorem dX3_write_10 : decode cX3_write 10 = .ok (.aload_n 0, 1) := by decide +kernel
theorem dX3_write_11 : decode cX3_write 11 = .ok (.getfield 11, 3) := by decide +kernel
theorem dX3_write_14 : decode cX3_write 14 = .ok (.iconst 1, 1) := by decide +kernel
theorem dX3_write_15 : decode cX3_write 15 = .ok (.aload_n 1, 1) := by decide +kernel
theorem dX3_write_16 : decode cX3_write 16 = .ok (.getfield 28, 3) := by decide +kernel
theorem dX3_write_19 : decode cX3_write 19 = .ok (.iastore, 1) := by decide +kernel
theorem dX3_write_20 : decode cX3_write 20 = .ok (.aload_n 0, 1) := by decide +kernel
theorem dX3_write_21 : decode cX3_write 21 = .ok (.iconst 2, 1) := by decide +kernel
theorem dX3_write_22 : decode cX3_write 22 = .ok (.putfield 15, 3) := by decide +kernel
theorem dX3_write_25 : decode cX3_write 25 = .ok (.bipush (-8), 2) := by decide +kernel
theorem dX3_write_27 : decode cX3_write 27 = .ok (.istore_n 2, 1) := by decide +kernel
theorem dX3_write_28 : decode cX3_write 28 = .ok (.iload_n 2, 1) := by decide +kernel
theorem dX3_write_29 : decode cX3_write 29 = .ok (.aload_n 1, 1) := by decide +kernel
theorem dX3_write_30 : decode cX3_write 30 = .ok (.getfield 31, 3) := by decide +kernel
theorem dX3_write_33 : decode cX3_write 33 = .ok (.if_icmp .ge 30, 3) := by decide +kernel
theorem dX3_write_36 : decode cX3_write 36 = .ok (.iload_n 2, 1) := by decide +kernel
theorem dX3_write_37 : decode cX3_write 37 = .ok (.ifCond .lt 11, 3) := by decide +kernel
theorem dX3_write_40 : decode cX3_write 40 = .ok (.iload_n 2, 1) := by decide +kernel
theorem dX3_write_41 : decode cX3_write 41 = .ok (.aload_n 1, 1) := by decide +kernel
theorem dX3_write_42 : decode cX3_write 42 = .ok (.getfield 28, 3) := by decide +kernel
theorem dX3_write_45 : decode cX3_write 45 = .ok (.if_icmp .lt 12, 3) := by decide +kernel
theorem dX3_write_48 : decode cX3_write 48 = .ok (.aload_n 0, 1) := by decide +kernel
theorem dX3_write_49 : decode cX3_write 49 = .ok (.aload_n 1, 1) := by decide +kernel
theorem dX3_write_50 : decode cX3_write 50 = .ok (.iload_n 2, 1) := by decide +kernel
theorem dX3_write_51 : decode cX3_write 51 = .ok (.invokevirtual 34, 3) := by decide +kernel
theorem dX3_write_54 : decode cX3_write 54 = .ok (.invokevirtual 38, 3) := by decide +kernel
theorem dX3_write_57 : decode cX3_write 57 = .ok (.iinc 2 1, 3) := by decide +kernel
theorem dX3_write_60 : decode cX3_write 60 = .ok (.goto (-32), 3) := by decide +kernel
theorem dX3_write_63 : decode cX3_write 63 = .ok (.aload_n 0, 1) := by decide +kernel
theorem dX3_write_64 : decode cX3_write 64 = .ok (.getfield 11, 3) := by decide +kernel
theorem dX3_write_67 : decode cX3_write 67 = .ok (.aload_n 0, 1) := by decide +kernel
theorem dX3_write_68 : decode cX3_write 68 = .ok (.getfield 15, 3) := by decide +kernel
theorem dX3_write_71 : decode cX3_write 71 = .ok (.aload_n 0, 1) := by decide +kernel
theorem dX3_write_72 : decode cX3_write 72 = .ok (.getfield 11, 3) := by decide +kernel
theorem dX3_write_75 : decode cX3_write 75 = .ok (.aload_n 0, 1) := by decide +kernel
theorem dX3_write_76 : decode cX3_write 76 = .ok (.getfield 15, 3) := by decide +kernel
theorem dX3_write_79 : decode cX3_write 79 = .ok (.invokestatic 42, 3) := by decide +kernel
theorem dX3_write_82 : decode cX3_write 82 = .ok (.iastore, 1) := by decide +kernel
theorem dX3_write_83 : decode cX3_write 83 = .ok (.aload_n 0, 1) := by decide +kernel
theorem dX3_write_84 : decode cX3_write 84 = .ok (.dup, 1) := by decide +kernel
theorem dX3_write_85 : decode cX3_write 85 = .ok (.getfield 15, 3) := by decide +kernel
theorem dX3_write_88 : decode cX3_write 88 = .ok (.iconst 1, 1) := by decide +kernel
theorem dX3_write_89 : decode cX3_write 89 = .ok (.iadd, 1) := by decide +kernel
theorem dX3_write_90 : decode cX3_write 90 = .ok (.putfield 15, 3) := by decide +kernel
theorem dX3_write_93 : decode cX3_write 93 = .ok (.return_, 1) := by decide +kernel
theorem dX3_writeHeld_0 : decode cX3_writeHeld 0 = .ok (.iload_n 1, 1) := by decide +kernel
theorem dX3_writeHeld_1 : decode cX3_writeHeld 1 = .ok (.sipush 2047, 3) := by decide +kernel
theorem dX3_writeHeld_4 : decode cX3_writeHeld 4 = .ok (.iand, 1) := by decide +kernel
theorem dX3_writeHeld_5 : decode cX3_writeHeld 5 = .ok (.istore_n 2, 1) := by decide +kernel
theorem dX3_writeHeld_6 : decode cX3_writeHeld 6 = .ok (.aload_n 0, 1) := by decide +kernel
theorem dX3_writeHeld_7 : decode cX3_writeHeld 7 = .ok (.getfield 11, 3) := by decide +kernel
theorem dX3_writeHeld_10 : decode cX3_writeHeld 10 = .ok (.aload_n 0, 1) := by decide +kernel
theorem dX3_writeHeld_11 : decode cX3_writeHeld 11 = .ok (.getfield 15, 3) := by decide +kernel
theorem dX3_writeHeld_14 : decode cX3_writeHeld 14 = .ok (.iload_n 1, 1) := by decide +kernel
theorem dX3_writeHeld_15 : decode cX3_writeHeld 15 = .ok (.invokestatic 46, 3) := by decide +kernel
theorem dX3_writeHeld_18 : decode cX3_writeHeld 18 = .ok (.iastore, 1) := by decide +kernel
theorem dX3_writeHeld_19 : decode cX3_writeHeld 19 = .ok (.aload_n 0, 1) := by decide +kernel
theorem dX3_writeHeld_20 : decode cX3_writeHeld 20 = .ok (.getfield 11, 3) := by decide +kernel
theorem dX3_writeHeld_23 : decode cX3_writeHeld 23 = .ok (.aload_n 0, 1) := by decide +kernel
theorem dX3_writeHeld_24 : decode cX3_writeHeld 24 = .ok (.getfield 15, 3) := by decide +kernel
theorem dX3_writeHeld_27 : decode cX3_writeHeld 27 = .ok (.iconst 1, 1) := by decide +kernel
theorem dX3_writeHeld_28 : decode cX3_writeHeld 28 = .ok (.iadd, 1) := by decide +kernel
theorem dX3_writeHeld_29 : decode cX3_writeHeld 29 = .ok (.iload_n 2, 1) := by decide +kernel
theorem dX3_writeHeld_30 : decode cX3_writeHeld 30 = .ok (.bipush 8, 2) := by decide +kernel
theorem dX3_writeHeld_32 : decode cX3_writeHeld 32 = .ok (.ishr, 1) := by decide +kernel
theorem dX3_writeHeld_33 : decode cX3_writeHeld 33 = .ok (.iastore, 1) := by decide +kernel
theorem dX3_writeHeld_34 : decode cX3_writeHeld 34 = .ok (.aload_n 0, 1) := by decide +kernel
theorem dX3_writeHeld_35 : decode cX3_writeHeld 35 = .ok (.getfield 11, 3) := by decide +kernel
theorem dX3_writeHeld_38 : decode cX3_writeHeld 38 = .ok (.aload_n 0, 1) := by decide +kernel
theorem dX3_writeHeld_39 : decode cX3_writeHeld 39 = .ok (.getfield 15, 3) := by decide +kernel
theorem dX3_writeHeld_42 : decode cX3_writeHeld 42 = .ok (.iconst 2, 1) := by decide +kernel
theorem dX3_writeHeld_43 : decode cX3_writeHeld 43 = .ok (.iadd, 1) := by decide +kernel
theorem dX3_writeHeld_44 : decode cX3_writeHeld 44 = .ok (.iload_n 2, 1) := by decide +kernel
theorem dX3_writeHeld_45 : decode cX3_writeHeld 45 = .ok (.sipush 255, 3) := by decide +kernel
theorem dX3_writeHeld_48 : decode cX3_writeHeld 48 = .ok (.iand, 1) := by decide +kernel
theorem dX3_writeHeld_49 : decode cX3_writeHeld 49 = .ok (.iastore, 1) := by decide +kernel
theorem dX3_writeHeld_50 : decode cX3_writeHeld 50 = .ok (.aload_n 0, 1) := by decide +kernel
theorem dX3_writeHeld_51 : decode cX3_writeHeld 51 = .ok (.dup, 1) := by decide +kernel
theorem dX3_writeHeld_52 : decode cX3_writeHeld 52 = .ok (.getfield 15, 3) := by decide +kernel
theorem dX3_writeHeld_55 : decode cX3_writeHeld 55 = .ok (.iconst 3, 1) := by decide +kernel
theorem dX3_writeHeld_56 : decode cX3_writeHeld 56 = .ok (.iadd, 1) := by decide +kernel
theorem dX3_writeHeld_57 : decode cX3_writeHeld 57 = .ok (.putfield 15, 3) := by decide +kernel
theorem dX3_writeHeld_60 : decode cX3_writeHeld 60 = .ok (.return_, 1) := by decide +kernel
theorem dX4_close_0 : decode cX4_close 0 = .ok (.aload_n 0, 1) := by decide +kernel
theorem dX4_close_1 : decode cX4_close 1 = .ok (.dup, 1) := by decide +kernel
theorem dX4_close_2 : decode cX4_close 2 = .ok (.getfield 22, 3) := by decide +kernel
theorem dX4_close_5 : decode cX4_close 5 = .ok (.iconst 1, 1) := by decide +kernel
theorem dX4_close_6 : decode cX4_close 6 = .ok (.isub, 1) := by decide +kernel
theorem dX4_close_7 : decode cX4_close 7 = .ok (.putfield 22, 3) := by decide +kernel
theorem dX4_close_10 : decode cX4_close 10 = .ok (.aload_n 0, 1) := by decide +kernel
theorem dX4_close_11 : decode cX4_close 11 = .ok (.getfield 19, 3) := by decide +kernel
theorem dX4_close_14 : decode cX4_close 14 = .ok (.aload_n 0, 1) := by decide +kernel
theorem dX4_close_15 : decode cX4_close 15 = .ok (.getfield 22, 3) := by decide +kernel
theorem dX4_close_18 : decode cX4_close 18 = .ok (.iaload, 1) := by decide +kernel
theorem dX4_close_19 : decode cX4_close 19 = .ok (.istore_n 1, 1) := by decide +kernel
theorem dX4_close_20 : decode cX4_close 20 = .ok (.aload_n 0, 1) := by decide +kernel
theorem dX4_close_21 : decode cX4_close 21 = .ok (.getfield 11, 3) := by decide +kernel
theorem dX4_close_24 : decode cX4_close 24 = .ok (.iload_n 1, 1) := by decide +kernel
theorem dX4_close_25 : decode cX4_close 25 = .ok (.iaload, 1) := by decide +kernel
theorem dX4_close_26 : decode cX4_close 26 = .ok (.iconst 2, 1) := by decide +kernel
theorem dX4_close_27 : decode cX4_close 27 = .ok (.if_icmp .ne 13, 3) := by decide +kernel
theorem dX4_close_30 : decode cX4_close 30 = .ok (.aload_n 0, 1) := by decide +kernel
theorem dX4_close_31 : decode cX4_close 31 = .ok (.iconst 3, 1) := by decide +kernel
theorem dX4_close_32 : decode cX4_close 32 = .ok (.invokevirtual 75, 3) := by decide +kernel
theorem dX4_close_35 : decode cX4_close 35 = .ok (.aload_n 0, 1) := by decide +kernel
theorem dX4_close_36 : decode cX4_close 36 = .ok (.iload_n 1, 1) := by decide +kernel
theorem dX4_close_37 : decode cX4_close 37 = .ok (.invokevirtual 75, 3) := by decide +kernel
theorem dX4_close_40 : decode cX4_close 40 = .ok (.aload_n 0, 1) := by decide +kernel
theorem dX4_close_41 : decode cX4_close 41 = .ok (.getfield 11, 3) := by decide +kernel
theorem dX4_close_44 : decode cX4_close 44 = .ok (.iload_n 1, 1) := by decide +kernel
theorem dX4_close_45 : decode cX4_close 45 = .ok (.iconst 2, 1) := by decide +kernel
theorem dX4_close_46 : decode cX4_close 46 = .ok (.iadd, 1) := by decide +kernel
theorem dX4_close_47 : decode cX4_close 47 = .ok (.aload_n 0, 1) := by decide +kernel
theorem dX4_close_48 : decode cX4_close 48 = .ok (.getfield 15, 3) := by decide +kernel
theorem dX4_close_51 : decode cX4_close 51 = .ok (.iastore, 1) := by decide +kernel
theorem dX4_close_52 : decode cX4_close 52 = .ok (.return_, 1) := by decide +kernel
theorem dX4_emit_0 : decode cX4_emit 0 = .ok (.aload_n 0, 1) := by decide +kernel
theorem dX4_emit_1 : decode cX4_emit 1 = .ok (.getfield 15, 3) := by decide +kernel
theorem dX4_emit_4 : decode cX4_emit 4 = .ok (.sipush 4020, 3) := by decide +kernel
theorem dX4_emit_7 : decode cX4_emit 7 = .ok (.if_icmp .ge 23, 3) := by decide +kernel
theorem dX4_emit_10 : decode cX4_emit 10 = .ok (.aload_n 0, 1) := by decide +kernel
theorem dX4_emit_11 : decode cX4_emit 11 = .ok (.getfield 11, 3) := by decide +kernel
theorem dX4_emit_14 : decode cX4_emit 14 = .ok (.aload_n 0, 1) := by decide +kernel
theorem dX4_emit_15 : decode cX4_emit 15 = .ok (.getfield 15, 3) := by decide +kernel
theorem dX4_emit_18 : decode cX4_emit 18 = .ok (.iload_n 1, 1) := by decide +kernel
theorem dX4_emit_19 : decode cX4_emit 19 = .ok (.iastore, 1) := by decide +kernel
theorem dX4_emit_20 : decode cX4_emit 20 = .ok (.aload_n 0, 1) := by decide +kernel
theorem dX4_emit_21 : decode cX4_emit 21 = .ok (.dup, 1) := by decide +kernel
theorem dX4_emit_22 : decode cX4_emit 22 = .ok (.getfield 15, 3) := by decide +kernel
theorem dX4_emit_25 : decode cX4_emit 25 = .ok (.iconst 1, 1) := by decide +kernel
theorem dX4_emit_26 : decode cX4_emit 26 = .ok (.iadd, 1) := by decide +kernel
theorem dX4_emit_27 : decode cX4_emit 27 = .ok (.putfield 15, 3) := by decide +kernel
theorem dX4_emit_30 : decode cX4_emit 30 = .ok (.return_, 1) := by decide +kernel
theorem dX4_init_0 : decode cX4_init 0 = .ok (.aload_n 0, 1) := by decide +kernel
theorem dX4_init_1 : decode cX4_init 1 = .ok (.invokespecial 3, 3) := by decide +kernel
theorem dX4_init_4 : decode cX4_init 4 = .ok (.aload_n 0, 1) := by decide +kernel
theorem dX4_init_5 : decode cX4_init 5 = .ok (.sipush 4020, 3) := by decide +kernel
theorem dX4_init_8 : decode cX4_init 8 = .ok (.newarray .int, 2) := by decide +kernel
theorem dX4_init_10 : decode cX4_init 10 = .ok (.putfield 11, 3) := by decide +kernel
theorem dX4_init_13 : decode cX4_init 13 = .ok (.aload_n 0, 1) := by decide +kernel
theorem dX4_init_14 : decode cX4_init 14 = .ok (.iconst 0, 1) := by decide +kernel
theorem dX4_init_15 : decode cX4_init 15 = .ok (.putfield 15, 3) := by decide +kernel
theorem dX4_init_18 : decode cX4_init 18 = .ok (.aload_n 0, 1) := by decide +kernel
theorem dX4_init_19 : decode cX4_init 19 = .ok (.iconst 4, 1) := by decide +kernel
theorem dX4_init_20 : decode cX4_init 20 = .ok (.newarray .int, 2) := by decide +kernel
theorem dX4_init_22 : decode cX4_init 22 = .ok (.putfield 19, 3) := by decide +kernel
theorem dX4_init_25 : decode cX4_init 25 = .ok (.aload_n 0, 1) := by decide +kernel
theorem dX4_init_26 : decode cX4_init 26 = .ok (.iconst 0, 1) := by decide +kernel
theorem dX4_init_27 : decode cX4_init 27 = .ok (.putfield 22, 3) := by decide +kernel
theorem dX4_init_30 : decode cX4_init 30 = .ok (.aload_n 0, 1) := by decide +kernel
theorem dX4_init_31 : decode cX4_init 31 = .ok (.aload_n 1, 1) := by decide +kernel
theorem dX4_init_32 : decode cX4_init 32 = .ok (.putfield 25, 3) := by decide +kernel
theorem dX4_init_35 : decode cX4_init 35 = .ok (.aload_n 0, 1) := by decide +kernel
theorem dX4_init_36 : decode cX4_init 36 = .ok (.aload_n 2, 1) := by decide +kernel
theorem dX4_init_37 : decode cX4_init 37 = .ok (.putfield 29, 3) := by decide +kernel
theorem dX4_init_40 : decode cX4_init 40 = .ok (.return_, 1) := by decide +kernel
theorem dX4_made_0 : decode cX4_made 0 = .ok (.aload_n 0, 1) := by decide +kernel
theorem dX4_made_1 : decode cX4_made 1 = .ok (.getfield 25, 3) := by decide +kernel
theorem dX4_made_4 : decode cX4_made 4 = .ok (.invokevirtual 49, 3) := by decide +kernel
theorem dX4_made_7 : decode cX4_made 7 = .ok (.ifCond .eq 13, 3) := by decide +kernel
theorem dX4_made_10 : decode cX4_made 10 = .ok (.aload_n 0, 1) := by decide +kernel
theorem dX4_made_11 : decode cX4_made 11 = .ok (.getfield 25, 3) := by decide +kernel
theorem dX4_made_14 : decode cX4_made 14 = .ok (.invokevirtual 113, 3) := by decide +kernel
theorem dX4_made_17 : decode cX4_made 17 = .ok (.ifCond .ne 5, 3) := by decide +kernel
theorem dX4_made_20 : decode cX4_made 20 = .ok (.iconst 0, 1) := by decide +kernel
theorem dX4_made_21 : decode cX4_made 21 = .ok (.ireturn, 1) := by decide +kernel
theorem dX4_made_22 : decode cX4_made 22 = .ok (.aload_n 0, 1) := by decide +kernel
theorem dX4_made_23 : decode cX4_made 23 = .ok (.getfield 29, 3) := by decide +kernel
theorem dX4_made_26 : decode cX4_made 26 = .ok (.aload_n 0, 1) := by decide +kernel
theorem dX4_made_27 : decode cX4_made 27 = .ok (.getfield 25, 3) := by decide +kernel
theorem dX4_made_30 : decode cX4_made 30 = .ok (.getfield 116, 3) := by decide +kernel
theorem dX4_made_33 : decode cX4_made 33 = .ok (.invokevirtual 120, 3) := by decide +kernel
theorem dX4_made_36 : decode cX4_made 36 = .ok (.istore_n 1, 1) := by decide +kernel
theorem dX4_made_37 : decode cX4_made 37 = .ok (.aload_n 0, 1) := by decide +kernel
theorem dX4_made_38 : decode cX4_made 38 = .ok (.iconst 1, 1) := by decide +kernel
theorem dX4_made_39 : decode cX4_made 39 = .ok (.invokevirtual 75, 3) := by decide +kernel
theorem dX4_made_42 : decode cX4_made 42 = .ok (.aload_n 0, 1) := by decide +kernel
theorem dX4_made_43 : decode cX4_made 43 = .ok (.iload_n 1, 1) := by decide +kernel
theorem dX4_made_44 : decode cX4_made 44 = .ok (.invokevirtual 75, 3) := by decide +kernel
theorem dX4_made_47 : decode cX4_made 47 = .ok (.iload_n 1, 1) := by decide +kernel
theorem dX4_made_48 : decode cX4_made 48 = .ok (.iconst (-1), 1) := by decide +kernel
theorem dX4_made_49 : decode cX4_made 49 = .ok (.if_icmp .ne 21, 3) := by decide +kernel
theorem dX4_made_52 : decode cX4_made 52 = .ok (.aload_n 0, 1) := by decide +kernel
theorem dX4_made_53 : decode cX4_made 53 = .ok (.getfield 25, 3) := by decide +kernel
theorem dX4_made_56 : decode cX4_made 56 = .ok (.iconst 3, 1) := by decide +kernel
theorem dX4_made_57 : decode cX4_made 57 = .ok (.aload_n 0, 1) := by decide +kernel
theorem dX4_made_58 : decode cX4_made 58 = .ok (.getfield 25, 3) := by decide +kernel
theorem dX4_made_61 : decode cX4_made 61 = .ok (.getfield 79, 3) := by decide +kernel
theorem dX4_made_64 : decode cX4_made 64 = .ok (.invokevirtual 71, 3) := by decide +kernel
theorem dX4_made_67 : decode cX4_made 67 = .ok (.ifCond .eq 7, 3) := by decide +kernel
theorem dX4_made_70 : decode cX4_made 70 = .ok (.iconst 1, 1) := by decide +kernel
theorem dX4_made_71 : decode cX4_made 71 = .ok (.goto 4, 3) := by decide +kernel
theorem dX4_made_74 : decode cX4_made 74 = .ok (.iconst 0, 1) := by decide +kernel
theorem dX4_made_75 : decode cX4_made 75 = .ok (.ireturn, 1) := by decide +kernel
theorem dX4_moved_0 : decode cX4_moved 0 = .ok (.aload_n 0, 1) := by decide +kernel
theorem dX4_moved_1 : decode cX4_moved 1 = .ok (.getfield 25, 3) := by decide +kernel
theorem dX4_moved_4 : decode cX4_moved 4 = .ok (.bipush 43, 2) := by decide +kernel
theorem dX4_moved_6 : decode cX4_moved 6 = .ok (.invokevirtual 42, 3) := by decide +kernel
theorem dX4_moved_9 : decode cX4_moved 9 = .ok (.istore_n 1, 1) := by decide +kernel
theorem dX4_moved_10 : decode cX4_moved 10 = .ok (.iload_n 1, 1) := by decide +kernel
theorem dX4_moved_11 : decode cX4_moved 11 = .ok (.ifCond .ne 19, 3) := by decide +kernel
theorem dX4_moved_14 : decode cX4_moved 14 = .ok (.aload_n 0, 1) := by decide +kernel
theorem dX4_moved_15 : decode cX4_moved 15 = .ok (.getfield 25, 3) := by decide +kernel
theorem dX4_moved_18 : decode cX4_moved 18 = .ok (.bipush 45, 2) := by decide +kernel
theorem dX4_moved_20 : decode cX4_moved 20 = .ok (.invokevirtual 42, 3) := by decide +kernel
theorem dX4_moved_23 : decode cX4_moved 23 = .ok (.ifCond .eq 7, 3) := by decide +kernel
theorem dX4_moved_26 : decode cX4_moved 26 = .ok (.iconst 1, 1) := by decide +kernel
theorem dX4_moved_27 : decode cX4_moved 27 = .ok (.goto 4, 3) := by decide +kernel
theorem dX4_moved_30 : decode cX4_moved 30 = .ok (.iconst 0, 1) := by decide +kernel
theorem dX4_moved_31 : decode cX4_moved 31 = .ok (.istore_n 2, 1) := by decide +kernel
theorem dX4_moved_32 : decode cX4_moved 32 = .ok (.iload_n 1, 1) := by decide +kernel
theorem dX4_moved_33 : decode cX4_moved 33 = .ok (.ifCond .ne 19, 3) := by decide +kernel
theorem dX4_moved_36 : decode cX4_moved 36 = .ok (.iload_n 2, 1) := by decide +kernel
theorem dX4_moved_37 : decode cX4_moved 37 = .ok (.ifCond .ne 15, 3) := by decide +kernel
theorem dX4_moved_40 : decode cX4_moved 40 = .ok (.aload_n 0, 1) := by decide +kernel
theorem dX4_moved_41 : decode cX4_moved 41 = .ok (.iconst 0, 1) := by decide +kernel
theorem dX4_moved_42 : decode cX4_moved 42 = .ok (.invokevirtual 75, 3) := by decide +kernel
theorem dX4_moved_45 : decode cX4_moved 45 = .ok (.aload_n 0, 1) := by decide +kernel
theorem dX4_moved_46 : decode cX4_moved 46 = .ok (.iconst 0, 1) := by decide +kernel
theorem dX4_moved_47 : decode cX4_moved 47 = .ok (.invokevirtual 75, 3) := by decide +kernel
theorem dX4_moved_50 : decode cX4_moved 50 = .ok (.iconst 1, 1) := by decide +kernel
theorem dX4_moved_51 : decode cX4_moved 51 = .ok (.ireturn, 1) := by decide +kernel
theorem dX4_moved_52 : decode cX4_moved 52 = .ok (.aload_n 0, 1) := by decide +kernel
theorem dX4_moved_53 : decode cX4_moved 53 = .ok (.getfield 25, 3) := by decide +kernel
theorem dX4_moved_56 : decode cX4_moved 56 = .ok (.iconst 0, 1) := by decide +kernel
theorem dX4_moved_57 : decode cX4_moved 57 = .ok (.sipush 999, 3) := by decide +kernel
theorem dX4_moved_60 : decode cX4_moved 60 = .ok (.invokevirtual 85, 3) := by decide +kernel
theorem dX4_moved_63 : decode cX4_moved 63 = .ok (.istore_n 3, 1) := by decide +kernel
theorem dX4_moved_64 : decode cX4_moved 64 = .ok (.aload_n 0, 1) := by decide +kernel
theorem dX4_moved_65 : decode cX4_moved 65 = .ok (.iconst 1, 1) := by decide +kernel
theorem dX4_moved_66 : decode cX4_moved 66 = .ok (.invokevirtual 75, 3) := by decide +kernel
theorem dX4_moved_69 : decode cX4_moved 69 = .ok (.aload_n 0, 1) := by decide +kernel
theorem dX4_moved_70 : decode cX4_moved 70 = .ok (.iload_n 1, 1) := by decide +kernel
theorem dX4_moved_71 : decode cX4_moved 71 = .ok (.ifCond .eq 13, 3) := by decide +kernel
theorem dX4_moved_74 : decode cX4_moved 74 = .ok (.aload_n 0, 1) := by decide +kernel
theorem dX4_moved_75 : decode cX4_moved 75 = .ok (.getfield 25, 3) := by decide +kernel
theorem dX4_moved_78 : decode cX4_moved 78 = .ok (.getfield 88, 3) := by decide +kernel
theorem dX4_moved_81 : decode cX4_moved 81 = .ok (.goto 11, 3) := by decide +kernel
theorem dX4_moved_84 : decode cX4_moved 84 = .ok (.aload_n 0, 1) := by decide +kernel
theorem dX4_moved_85 : decode cX4_moved 85 = .ok (.getfield 25, 3) := by decide +kernel
theorem dX4_moved_88 : decode cX4_moved 88 = .ok (.getfield 88, 3) := by decide +kernel
theorem dX4_moved_91 : decode cX4_moved 91 = .ok (.ineg, 1) := by decide +kernel
theorem dX4_moved_92 : decode cX4_moved 92 = .ok (.invokevirtual 75, 3) := by decide +kernel
theorem dX4_moved_95 : decode cX4_moved 95 = .ok (.iload_n 3, 1) := by decide +kernel
theorem dX4_moved_96 : decode cX4_moved 96 = .ok (.ireturn, 1) := by decide +kernel
theorem dX4_opens_0 : decode cX4_opens 0 = .ok (.aload_n 0, 1) := by decide +kernel
theorem dX4_opens_1 : decode cX4_opens 1 = .ok (.getfield 25, 3) := by decide +kernel
theorem dX4_opens_4 : decode cX4_opens 4 = .ok (.invokevirtual 38, 3) := by decide +kernel
theorem dX4_opens_7 : decode cX4_opens 7 = .ok (.bipush 91, 2) := by decide +kernel
theorem dX4_opens_9 : decode cX4_opens 9 = .ok (.if_icmp .ne 27, 3) := by decide +kernel
theorem dX4_opens_12 : decode cX4_opens 12 = .ok (.aload_n 0, 1) := by decide +kernel
theorem dX4_opens_13 : decode cX4_opens 13 = .ok (.getfield 22, 3) := by decide +kernel
theorem dX4_opens_16 : decode cX4_opens 16 = .ok (.iconst 4, 1) := by decide +kernel
theorem dX4_opens_17 : decode cX4_opens 17 = .ok (.if_icmp .ne 19, 3) := by decide +kernel
theorem dX4_opens_20 : decode cX4_opens 20 = .ok (.aload_n 0, 1) := by decide +kernel
theorem dX4_opens_21 : decode cX4_opens 21 = .ok (.getfield 25, 3) := by decide +kernel
theorem dX4_opens_24 : decode cX4_opens 24 = .ok (.iconst 4, 1) := by decide +kernel
theorem dX4_opens_25 : decode cX4_opens 25 = .ok (.aload_n 0, 1) := by decide +kernel
theorem dX4_opens_26 : decode cX4_opens 26 = .ok (.getfield 25, 3) := by decide +kernel
theorem dX4_opens_29 : decode cX4_opens 29 = .ok (.getfield 68, 3) := by decide +kernel
theorem dX4_opens_32 : decode cX4_opens 32 = .ok (.invokevirtual 71, 3) := by decide +kernel
theorem dX4_opens_35 : decode cX4_opens 35 = .ok (.ireturn, 1) := by decide +kernel
theorem dX4_opens_36 : decode cX4_opens 36 = .ok (.aload_n 0, 1) := by decide +kernel
theorem dX4_opens_37 : decode cX4_opens 37 = .ok (.getfield 25, 3) := by decide +kernel
theorem dX4_opens_40 : decode cX4_opens 40 = .ok (.bipush 91, 2) := by decide +kernel
theorem dX4_opens_42 : decode cX4_opens 42 = .ok (.invokevirtual 82, 3) := by decide +kernel
theorem dX4_opens_45 : decode cX4_opens 45 = .ok (.ifCond .ne 5, 3) := by decide +kernel
theorem dX4_opens_48 : decode cX4_opens 48 = .ok (.iconst 0, 1) := by decide +kernel
theorem dX4_opens_49 : decode cX4_opens 49 = .ok (.ireturn, 1) := by decide +kernel
theorem dX4_opens_50 : decode cX4_opens 50 = .ok (.aload_n 0, 1) := by decide +kernel
theorem dX4_opens_51 : decode cX4_opens 51 = .ok (.getfield 19, 3) := by decide +kernel
theorem dX4_opens_54 : decode cX4_opens 54 = .ok (.aload_n 0, 1) := by decide +kernel
theorem dX4_opens_55 : decode cX4_opens 55 = .ok (.getfield 22, 3) := by decide +kernel
theorem dX4_opens_58 : decode cX4_opens 58 = .ok (.iload_n 1, 1) := by decide +kernel
theorem dX4_opens_59 : decode cX4_opens 59 = .ok (.iastore, 1) := by decide +kernel
theorem dX4_opens_60 : decode cX4_opens 60 = .ok (.aload_n 0, 1) := by decide +kernel
theorem dX4_opens_61 : decode cX4_opens 61 = .ok (.dup, 1) := by decide +kernel
theorem dX4_opens_62 : decode cX4_opens 62 = .ok (.getfield 22, 3) := by decide +kernel
theorem dX4_opens_65 : decode cX4_opens 65 = .ok (.iconst 1, 1) := by decide +kernel
theorem dX4_opens_66 : decode cX4_opens 66 = .ok (.iadd, 1) := by decide +kernel
theorem dX4_opens_67 : decode cX4_opens 67 = .ok (.putfield 22, 3) := by decide +kernel
theorem dX4_opens_70 : decode cX4_opens 70 = .ok (.iconst 1, 1) := by decide +kernel
theorem dX4_opens_71 : decode cX4_opens 71 = .ok (.ireturn, 1) := by decide +kernel
theorem dX4_path_0 : decode cX4_path 0 = .ok (.aload_n 0, 1) := by decide +kernel
theorem dX4_path_1 : decode cX4_path 1 = .ok (.getfield 25, 3) := by decide +kernel
theorem dX4_path_4 : decode cX4_path 4 = .ok (.invokevirtual 101, 3) := by decide +kernel
theorem dX4_path_7 : decode cX4_path 7 = .ok (.istore_n 1, 1) := by decide +kernel
theorem dX4_path_8 : decode cX4_path 8 = .ok (.iload_n 1, 1) := by decide +kernel
theorem dX4_path_9 : decode cX4_path 9 = .ok (.iconst (-1), 1) := by decide +kernel
theorem dX4_path_10 : decode cX4_path 10 = .ok (.if_icmp .ne 19, 3) := by decide +kernel
theorem dX4_path_13 : decode cX4_path 13 = .ok (.aload_n 0, 1) := by decide +kernel
theorem dX4_path_14 : decode cX4_path 14 = .ok (.getfield 25, 3) := by decide +kernel
theorem dX4_path_17 : decode cX4_path 17 = .ok (.iconst 1, 1) := by decide +kernel
theorem dX4_path_18 : decode cX4_path 18 = .ok (.aload_n 0, 1) := by decide +kernel
theorem dX4_path_19 : decode cX4_path 19 = .ok (.getfield 25, 3) := by decide +kernel
theorem dX4_path_22 : decode cX4_path 22 = .ok (.getfield 79, 3) := by decide +kernel
theorem dX4_path_25 : decode cX4_path 25 = .ok (.invokevirtual 71, 3) := by decide +kernel
theorem dX4_path_28 : decode cX4_path 28 = .ok (.ireturn, 1) := by decide +kernel
theorem dX4_path_29 : decode cX4_path 29 = .ok (.aload_n 0, 1) := by decide +kernel
theorem dX4_path_30 : decode cX4_path 30 = .ok (.iload_n 1, 1) := by decide +kernel
theorem dX4_path_31 : decode cX4_path 31 = .ok (.invokevirtual 75, 3) := by decide +kernel
theorem dX4_path_34 : decode cX4_path 34 = .ok (.aload_n 0, 1) := by decide +kernel
theorem dX4_path_35 : decode cX4_path 35 = .ok (.getfield 15, 3) := by decide +kernel
theorem dX4_path_38 : decode cX4_path 38 = .ok (.istore_n 2, 1) := by decide +kernel
theorem dX4_path_39 : decode cX4_path 39 = .ok (.aload_n 0, 1) := by decide +kernel
theorem dX4_path_40 : decode cX4_path 40 = .ok (.iconst 0, 1) := by decide +kernel
theorem dX4_path_41 : decode cX4_path 41 = .ok (.invokevirtual 75, 3) := by decide +kernel
theorem dX4_path_44 : decode cX4_path 44 = .ok (.iconst 0, 1) := by decide +kernel
theorem dX4_path_45 : decode cX4_path 45 = .ok (.istore_n 3, 1) := by decide +kernel
theorem dX4_path_46 : decode cX4_path 46 = .ok (.iload_n 3, 1) := by decide +kernel
theorem dX4_path_47 : decode cX4_path 47 = .ok (.bipush 6, 2) := by decide +kernel
theorem dX4_path_49 : decode cX4_path 49 = .ok (.if_icmp .gt 92, 3) := by decide +kernel
theorem dX4_path_52 : decode cX4_path 52 = .ok (.aload_n 0, 1) := by decide +kernel
theorem dX4_path_53 : decode cX4_path 53 = .ok (.getfield 25, 3) := by decide +kernel
theorem dX4_path_56 : decode cX4_path 56 = .ok (.invokevirtual 38, 3) := by decide +kernel
theorem dX4_path_59 : decode cX4_path 59 = .ok (.bipush 46, 2) := by decide +kernel
theorem dX4_path_61 : decode cX4_path 61 = .ok (.if_icmp .ne 80, 3) := by decide +kernel
theorem dX4_path_64 : decode cX4_path 64 = .ok (.iload_n 3, 1) := by decide +kernel
theorem dX4_path_65 : decode cX4_path 65 = .ok (.bipush 6, 2) := by decide +kernel
theorem dX4_path_67 : decode cX4_path 67 = .ok (.if_icmp .ne 19, 3) := by decide +kernel
theorem dX4_path_70 : decode cX4_path 70 = .ok (.aload_n 0, 1) := by decide +kernel
theorem dX4_path_71 : decode cX4_path 71 = .ok (.getfield 25, 3) := by decide +kernel
theorem dX4_path_74 : decode cX4_path 74 = .ok (.iconst 5, 1) := by decide +kernel
theorem dX4_path_75 : decode cX4_path 75 = .ok (.aload_n 0, 1) := by decide +kernel
theorem dX4_path_76 : decode cX4_path 76 = .ok (.getfield 25, 3) := by decide +kernel
theorem dX4_path_79 : decode cX4_path 79 = .ok (.getfield 68, 3) := by decide +kernel
theorem dX4_path_82 : decode cX4_path 82 = .ok (.invokevirtual 71, 3) := by decide +kernel
theorem dX4_path_85 : decode cX4_path 85 = .ok (.ireturn, 1) := by decide +kernel
theorem dX4_path_86 : decode cX4_path 86 = .ok (.aload_n 0, 1) := by decide +kernel
theorem dX4_path_87 : decode cX4_path 87 = .ok (.getfield 25, 3) := by decide +kernel
theorem dX4_path_90 : decode cX4_path 90 = .ok (.dup, 1) := by decide +kernel
theorem dX4_path_91 : decode cX4_path 91 = .ok (.getfield 68, 3) := by decide +kernel
theorem dX4_path_94 : decode cX4_path 94 = .ok (.iconst 1, 1) := by decide +kernel
theorem dX4_path_95 : decode cX4_path 95 = .ok (.iadd, 1) := by decide +kernel
theorem dX4_path_96 : decode cX4_path 96 = .ok (.putfield 68, 3) := by decide +kernel
theorem dX4_path_99 : decode cX4_path 99 = .ok (.aload_n 0, 1) := by decide +kernel
theorem dX4_path_100 : decode cX4_path 100 = .ok (.getfield 25, 3) := by decide +kernel
theorem dX4_path_103 : decode cX4_path 103 = .ok (.iconst 0, 1) := by decide +kernel
theorem dX4_path_104 : decode cX4_path 104 = .ok (.sipush 999, 3) := by decide +kernel
theorem dX4_path_107 : decode cX4_path 107 = .ok (.invokevirtual 85, 3) := by decide +kernel
theorem dX4_path_110 : decode cX4_path 110 = .ok (.ifCond .ne 5, 3) := by decide +kernel
theorem dX4_path_113 : decode cX4_path 113 = .ok (.iconst 0, 1) := by decide +kernel
theorem dX4_path_114 : decode cX4_path 114 = .ok (.ireturn, 1) := by decide +kernel
theorem dX4_path_115 : decode cX4_path 115 = .ok (.aload_n 0, 1) := by decide +kernel
theorem dX4_path_116 : decode cX4_path 116 = .ok (.aload_n 0, 1) := by decide +kernel
theorem dX4_path_117 : decode cX4_path 117 = .ok (.getfield 25, 3) := by decide +kernel
theorem dX4_path_120 : decode cX4_path 120 = .ok (.getfield 88, 3) := by decide +kernel
theorem dX4_path_123 : decode cX4_path 123 = .ok (.invokevirtual 75, 3) := by decide +kernel
theorem dX4_path_126 : decode cX4_path 126 = .ok (.aload_n 0, 1) := by decide +kernel
theorem dX4_path_127 : decode cX4_path 127 = .ok (.getfield 11, 3) := by decide +kernel
theorem dX4_path_130 : decode cX4_path 130 = .ok (.iload_n 2, 1) := by decide +kernel
theorem dX4_path_131 : decode cX4_path 131 = .ok (.iload_n 3, 1) := by decide +kernel
theorem dX4_path_132 : decode cX4_path 132 = .ok (.iconst 1, 1) := by decide +kernel
theorem dX4_path_133 : decode cX4_path 133 = .ok (.iadd, 1) := by decide +kernel
theorem dX4_path_134 : decode cX4_path 134 = .ok (.iastore, 1) := by decide +kernel
theorem dX4_path_135 : decode cX4_path 135 = .ok (.iinc 3 1, 3) := by decide +kernel
theorem dX4_path_138 : decode cX4_path 138 = .ok (.goto (-92), 3) := by decide +kernel
theorem dX4_path_141 : decode cX4_path 141 = .ok (.iconst 1, 1) := by decide +kernel
theorem dX4_path_142 : decode cX4_path 142 = .ok (.ireturn, 1) := by decide +kernel
theorem dX4_readRun_0 : decode cX4_readRun 0 = .ok (.aload_n 0, 1) := by decide +kernel
theorem dX4_readRun_1 : decode cX4_readRun 1 = .ok (.getfield 25, 3) := by decide +kernel
theorem dX4_readRun_4 : decode cX4_readRun 4 = .ok (.invokevirtual 33, 3) := by decide +kernel
theorem dX4_readRun_7 : decode cX4_readRun 7 = .ok (.aload_n 0, 1) := by decide +kernel
theorem dX4_readRun_8 : decode cX4_readRun 8 = .ok (.iconst 0, 1) := by decide +kernel
theorem dX4_readRun_9 : decode cX4_readRun 9 = .ok (.putfield 15, 3) := by decide +kernel
theorem dX4_readRun_12 : decode cX4_readRun 12 = .ok (.aload_n 0, 1) := by decide +kernel
theorem dX4_readRun_13 : decode cX4_readRun 13 = .ok (.iconst 0, 1) := by decide +kernel
theorem dX4_readRun_14 : decode cX4_readRun 14 = .ok (.putfield 22, 3) := by decide +kernel
theorem dX4_readRun_17 : decode cX4_readRun 17 = .ok (.iconst 1, 1) := by decide +kernel
theorem dX4_readRun_18 : decode cX4_readRun 18 = .ok (.istore_n 1, 1) := by decide +kernel
theorem dX4_readRun_19 : decode cX4_readRun 19 = .ok (.iconst 0, 1) := by decide +kernel
theorem dX4_readRun_20 : decode cX4_readRun 20 = .ok (.istore_n 2, 1) := by decide +kernel
theorem dX4_readRun_21 : decode cX4_readRun 21 = .ok (.iload_n 2, 1) := by decide +kernel
theorem dX4_readRun_22 : decode cX4_readRun 22 = .ok (.sipush 1600, 3) := by decide +kernel
theorem dX4_readRun_25 : decode cX4_readRun 25 = .ok (.if_icmp .gt 126, 3) := by decide +kernel
theorem dX4_readRun_28 : decode cX4_readRun 28 = .ok (.iload_n 1, 1) := by decide +kernel
theorem dX4_readRun_29 : decode cX4_readRun 29 = .ok (.ifCond .eq 122, 3) := by decide +kernel
theorem dX4_readRun_32 : decode cX4_readRun 32 = .ok (.aload_n 0, 1) := by decide +kernel
theorem dX4_readRun_33 : decode cX4_readRun 33 = .ok (.getfield 25, 3) := by decide +kernel
theorem dX4_readRun_36 : decode cX4_readRun 36 = .ok (.invokevirtual 38, 3) := by decide +kernel
theorem dX4_readRun_39 : decode cX4_readRun 39 = .ok (.iconst (-1), 1) := by decide +kernel
theorem dX4_readRun_40 : decode cX4_readRun 40 = .ok (.if_icmp .eq 111, 3) := by decide +kernel
theorem dX4_readRun_43 : decode cX4_readRun 43 = .ok (.aload_n 0, 1) := by decide +kernel
theorem dX4_readRun_44 : decode cX4_readRun 44 = .ok (.getfield 22, 3) := by decide +kernel
theorem dX4_readRun_47 : decode cX4_readRun 47 = .ok (.ifCond .le 22, 3) := by decide +kernel
theorem dX4_readRun_50 : decode cX4_readRun 50 = .ok (.aload_n 0, 1) := by decide +kernel
theorem dX4_readRun_51 : decode cX4_readRun 51 = .ok (.getfield 25, 3) := by decide +kernel
theorem dX4_readRun_54 : decode cX4_readRun 54 = .ok (.bipush 93, 2) := by decide +kernel
theorem dX4_readRun_56 : decode cX4_readRun 56 = .ok (.invokevirtual 42, 3) := by decide +kernel
theorem dX4_readRun_59 : decode cX4_readRun 59 = .ok (.ifCond .eq 10, 3) := by decide +kernel
theorem dX4_readRun_62 : decode cX4_readRun 62 = .ok (.aload_n 0, 1) := by decide +kernel
theorem dX4_readRun_63 : decode cX4_readRun 63 = .ok (.invokevirtual 46, 3) := by decide +kernel
theorem dX4_readRun_66 : decode cX4_readRun 66 = .ok (.goto 79, 3) := by decide +kernel
theorem dX4_readRun_69 : decode cX4_readRun 69 = .ok (.aload_n 0, 1) := by decide +kernel
theorem dX4_readRun_70 : decode cX4_readRun 70 = .ok (.getfield 25, 3) := by decide +kernel
theorem dX4_readRun_73 : decode cX4_readRun 73 = .ok (.invokevirtual 49, 3) := by decide +kernel
theorem dX4_readRun_76 : decode cX4_readRun 76 = .ok (.ifCond .ne 5, 3) := by decide +kernel
theorem dX4_readRun_79 : decode cX4_readRun 79 = .ok (.iconst 0, 1) := by decide +kernel
theorem dX4_readRun_80 : decode cX4_readRun 80 = .ok (.ireturn, 1) := by decide +kernel
theorem dX4_readRun_81 : decode cX4_readRun 81 = .ok (.aload_n 0, 1) := by decide +kernel
theorem dX4_readRun_82 : decode cX4_readRun 82 = .ok (.getfield 25, 3) := by decide +kernel
theorem dX4_readRun_85 : decode cX4_readRun 85 = .ok (.getfield 53, 3) := by decide +kernel
theorem dX4_readRun_88 : decode cX4_readRun 88 = .ok (.tableswitch 52 11 13 #[28, 36, 44], 28) := by decide +kernel
theorem dX4_readRun_116 : decode cX4_readRun 116 = .ok (.aload_n 0, 1) := by decide +kernel
theorem dX4_readRun_117 : decode cX4_readRun 117 = .ok (.invokevirtual 56, 3) := by decide +kernel
theorem dX4_readRun_120 : decode cX4_readRun 120 = .ok (.istore_n 1, 1) := by decide +kernel
theorem dX4_readRun_121 : decode cX4_readRun 121 = .ok (.goto 24, 3) := by decide +kernel
theorem dX4_readRun_124 : decode cX4_readRun 124 = .ok (.aload_n 0, 1) := by decide +kernel
theorem dX4_readRun_125 : decode cX4_readRun 125 = .ok (.invokevirtual 59, 3) := by decide +kernel
theorem dX4_readRun_128 : decode cX4_readRun 128 = .ok (.istore_n 1, 1) := by decide +kernel
theorem dX4_readRun_129 : decode cX4_readRun 129 = .ok (.goto 16, 3) := by decide +kernel
theorem dX4_readRun_132 : decode cX4_readRun 132 = .ok (.aload_n 0, 1) := by decide +kernel
theorem dX4_readRun_133 : decode cX4_readRun 133 = .ok (.invokevirtual 62, 3) := by decide +kernel
theorem dX4_readRun_136 : decode cX4_readRun 136 = .ok (.istore_n 1, 1) := by decide +kernel
theorem dX4_readRun_137 : decode cX4_readRun 137 = .ok (.goto 8, 3) := by decide +kernel
theorem dX4_readRun_140 : decode cX4_readRun 140 = .ok (.aload_n 0, 1) := by decide +kernel
theorem dX4_readRun_141 : decode cX4_readRun 141 = .ok (.invokevirtual 65, 3) := by decide +kernel
theorem dX4_readRun_144 : decode cX4_readRun 144 = .ok (.istore_n 1, 1) := by decide +kernel
theorem dX4_readRun_145 : decode cX4_readRun 145 = .ok (.iinc 2 1, 3) := by decide +kernel
theorem dX4_readRun_148 : decode cX4_readRun 148 = .ok (.goto (-127), 3) := by decide +kernel
theorem dX4_readRun_151 : decode cX4_readRun 151 = .ok (.iload_n 1, 1) := by decide +kernel
theorem dX4_readRun_152 : decode cX4_readRun 152 = .ok (.ifCond .eq 32, 3) := by decide +kernel
theorem dX4_readRun_155 : decode cX4_readRun 155 = .ok (.aload_n 0, 1) := by decide +kernel
theorem dX4_readRun_156 : decode cX4_readRun 156 = .ok (.getfield 22, 3) := by decide +kernel
theorem dX4_readRun_159 : decode cX4_readRun 159 = .ok (.ifCond .eq 21, 3) := by decide +kernel
theorem dX4_readRun_162 : decode cX4_readRun 162 = .ok (.aload_n 0, 1) := by decide +kernel
theorem dX4_readRun_163 : decode cX4_readRun 163 = .ok (.getfield 25, 3) := by decide +kernel
theorem dX4_readRun_166 : decode cX4_readRun 166 = .ok (.iconst 1, 1) := by decide +kernel
theorem dX4_readRun_167 : decode cX4_readRun 167 = .ok (.aload_n 0, 1) := by decide +kernel
theorem dX4_readRun_168 : decode cX4_readRun 168 = .ok (.getfield 25, 3) := by decide +kernel
theorem dX4_readRun_171 : decode cX4_readRun 171 = .ok (.getfield 68, 3) := by decide +kernel
theorem dX4_readRun_174 : decode cX4_readRun 174 = .ok (.invokevirtual 71, 3) := by decide +kernel
theorem dX4_readRun_177 : decode cX4_readRun 177 = .ok (.ifCond .eq 7, 3) := by decide +kernel
theorem dX4_readRun_180 : decode cX4_readRun 180 = .ok (.iconst 1, 1) := by decide +kernel
theorem dX4_readRun_181 : decode cX4_readRun 181 = .ok (.goto 4, 3) := by decide +kernel
theorem dX4_readRun_184 : decode cX4_readRun 184 = .ok (.iconst 0, 1) := by decide +kernel
theorem dX4_readRun_185 : decode cX4_readRun 185 = .ok (.ireturn, 1) := by decide +kernel
theorem dX4_repeatAct_0 : decode cX4_repeatAct 0 = .ok (.aload_n 0, 1) := by decide +kernel
theorem dX4_repeatAct_1 : decode cX4_repeatAct 1 = .ok (.getfield 15, 3) := by decide +kernel
theorem dX4_repeatAct_4 : decode cX4_repeatAct 4 = .ok (.istore_n 1, 1) := by decide +kernel
theorem dX4_repeatAct_5 : decode cX4_repeatAct 5 = .ok (.aload_n 0, 1) := by decide +kernel
theorem dX4_repeatAct_6 : decode cX4_repeatAct 6 = .ok (.iconst 2, 1) := by decide +kernel
theorem dX4_repeatAct_7 : decode cX4_repeatAct 7 = .ok (.invokevirtual 75, 3) := by decide +kernel
theorem dX4_repeatAct_10 : decode cX4_repeatAct 10 = .ok (.aload_n 0, 1) := by decide +kernel
theorem dX4_repeatAct_11 : decode cX4_repeatAct 11 = .ok (.aload_n 0, 1) := by decide +kernel
theorem dX4_repeatAct_12 : decode cX4_repeatAct 12 = .ok (.getfield 25, 3) := by decide +kernel
theorem dX4_repeatAct_15 : decode cX4_repeatAct 15 = .ok (.getfield 79, 3) := by decide +kernel
theorem dX4_repeatAct_18 : decode cX4_repeatAct 18 = .ok (.invokevirtual 75, 3) := by decide +kernel
theorem dX4_repeatAct_21 : decode cX4_repeatAct 21 = .ok (.aload_n 0, 1) := by decide +kernel
theorem dX4_repeatAct_22 : decode cX4_repeatAct 22 = .ok (.iconst (-1), 1) := by decide +kernel
theorem dX4_repeatAct_23 : decode cX4_repeatAct 23 = .ok (.invokevirtual 75, 3) := by decide +kernel
theorem dX4_repeatAct_26 : decode cX4_repeatAct 26 = .ok (.aload_n 0, 1) := by decide +kernel
theorem dX4_repeatAct_27 : decode cX4_repeatAct 27 = .ok (.getfield 25, 3) := by decide +kernel
theorem dX4_repeatAct_30 : decode cX4_repeatAct 30 = .ok (.iconst 0, 1) := by decide +kernel
theorem dX4_repeatAct_31 : decode cX4_repeatAct 31 = .ok (.bipush 99, 2) := by decide +kernel
theorem dX4_repeatAct_33 : decode cX4_repeatAct 33 = .ok (.invokevirtual 85, 3) := by decide +kernel
theorem dX4_repeatAct_36 : decode cX4_repeatAct 36 = .ok (.ifCond .ne 5, 3) := by decide +kernel
theorem dX4_repeatAct_39 : decode cX4_repeatAct 39 = .ok (.iconst 0, 1) := by decide +kernel
theorem dX4_repeatAct_40 : decode cX4_repeatAct 40 = .ok (.ireturn, 1) := by decide +kernel
theorem dX4_repeatAct_41 : decode cX4_repeatAct 41 = .ok (.aload_n 0, 1) := by decide +kernel
theorem dX4_repeatAct_42 : decode cX4_repeatAct 42 = .ok (.aload_n 0, 1) := by decide +kernel
theorem dX4_repeatAct_43 : decode cX4_repeatAct 43 = .ok (.getfield 25, 3) := by decide +kernel
theorem dX4_repeatAct_46 : decode cX4_repeatAct 46 = .ok (.getfield 88, 3) := by decide +kernel
theorem dX4_repeatAct_49 : decode cX4_repeatAct 49 = .ok (.invokevirtual 75, 3) := by decide +kernel
theorem dX4_repeatAct_52 : decode cX4_repeatAct 52 = .ok (.aload_n 0, 1) := by decide +kernel
theorem dX4_repeatAct_53 : decode cX4_repeatAct 53 = .ok (.iload_n 1, 1) := by decide +kernel
theorem dX4_repeatAct_54 : decode cX4_repeatAct 54 = .ok (.invokevirtual 91, 3) := by decide +kernel
theorem dX4_repeatAct_57 : decode cX4_repeatAct 57 = .ok (.ireturn, 1) := by decide +kernel
theorem dX4_setAct_0 : decode cX4_setAct 0 = .ok (.aload_n 0, 1) := by decide +kernel
theorem dX4_setAct_1 : decode cX4_setAct 1 = .ok (.getfield 15, 3) := by decide +kernel
theorem dX4_setAct_4 : decode cX4_setAct 4 = .ok (.istore_n 1, 1) := by decide +kernel
theorem dX4_setAct_5 : decode cX4_setAct 5 = .ok (.aload_n 0, 1) := by decide +kernel
theorem dX4_setAct_6 : decode cX4_setAct 6 = .ok (.iconst 0, 1) := by decide +kernel
theorem dX4_setAct_7 : decode cX4_setAct 7 = .ok (.invokevirtual 75, 3) := by decide +kernel
theorem dX4_setAct_10 : decode cX4_setAct 10 = .ok (.aload_n 0, 1) := by decide +kernel
theorem dX4_setAct_11 : decode cX4_setAct 11 = .ok (.aload_n 0, 1) := by decide +kernel
theorem dX4_setAct_12 : decode cX4_setAct 12 = .ok (.getfield 25, 3) := by decide +kernel
theorem dX4_setAct_15 : decode cX4_setAct 15 = .ok (.getfield 79, 3) := by decide +kernel
theorem dX4_setAct_18 : decode cX4_setAct 18 = .ok (.invokevirtual 75, 3) := by decide +kernel
theorem dX4_setAct_21 : decode cX4_setAct 21 = .ok (.aload_n 0, 1) := by decide +kernel
theorem dX4_setAct_22 : decode cX4_setAct 22 = .ok (.iconst (-1), 1) := by decide +kernel
theorem dX4_setAct_23 : decode cX4_setAct 23 = .ok (.invokevirtual 75, 3) := by decide +kernel
theorem dX4_setAct_26 : decode cX4_setAct 26 = .ok (.aload_n 0, 1) := by decide +kernel
theorem dX4_setAct_27 : decode cX4_setAct 27 = .ok (.invokevirtual 98, 3) := by decide +kernel
theorem dX4_setAct_30 : decode cX4_setAct 30 = .ok (.ifCond .eq 15, 3) := by decide +kernel
theorem dX4_setAct_33 : decode cX4_setAct 33 = .ok (.aload_n 0, 1) := by decide +kernel
theorem dX4_setAct_34 : decode cX4_setAct 34 = .ok (.getfield 25, 3) := by decide +kernel
theorem dX4_setAct_37 : decode cX4_setAct 37 = .ok (.bipush 61, 2) := by decide +kernel
theorem dX4_setAct_39 : decode cX4_setAct 39 = .ok (.invokevirtual 82, 3) := by decide +kernel
theorem dX4_setAct_42 : decode cX4_setAct 42 = .ok (.ifCond .ne 5, 3) := by decide +kernel
theorem dX4_setAct_45 : decode cX4_setAct 45 = .ok (.iconst 0, 1) := by decide +kernel
theorem dX4_setAct_46 : decode cX4_setAct 46 = .ok (.ireturn, 1) := by decide +kernel
theorem dX4_setAct_47 : decode cX4_setAct 47 = .ok (.aload_n 0, 1) := by decide +kernel
theorem dX4_setAct_48 : decode cX4_setAct 48 = .ok (.getfield 11, 3) := by decide +kernel
theorem dX4_setAct_51 : decode cX4_setAct 51 = .ok (.iload_n 1, 1) := by decide +kernel
theorem dX4_setAct_52 : decode cX4_setAct 52 = .ok (.iconst 2, 1) := by decide +kernel
theorem dX4_setAct_53 : decode cX4_setAct 53 = .ok (.iadd, 1) := by decide +kernel
theorem dX4_setAct_54 : decode cX4_setAct 54 = .ok (.aload_n 0, 1) := by decide +kernel
theorem dX4_setAct_55 : decode cX4_setAct 55 = .ok (.getfield 15, 3) := by decide +kernel
theorem dX4_setAct_58 : decode cX4_setAct 58 = .ok (.iastore, 1) := by decide +kernel
theorem dX4_setAct_59 : decode cX4_setAct 59 = .ok (.aload_n 0, 1) := by decide +kernel
theorem dX4_setAct_60 : decode cX4_setAct 60 = .ok (.iconst 1, 1) := by decide +kernel
theorem dX4_setAct_61 : decode cX4_setAct 61 = .ok (.invokevirtual 94, 3) := by decide +kernel
theorem dX4_setAct_64 : decode cX4_setAct 64 = .ok (.ifCond .eq 19, 3) := by decide +kernel
theorem dX4_setAct_67 : decode cX4_setAct 67 = .ok (.aload_n 0, 1) := by decide +kernel
theorem dX4_setAct_68 : decode cX4_setAct 68 = .ok (.getfield 25, 3) := by decide +kernel
theorem dX4_setAct_71 : decode cX4_setAct 71 = .ok (.bipush 59, 2) := by decide +kernel
theorem dX4_setAct_73 : decode cX4_setAct 73 = .ok (.invokevirtual 82, 3) := by decide +kernel
theorem dX4_setAct_76 : decode cX4_setAct 76 = .ok (.ifCond .eq 7, 3) := by decide +kernel
theorem dX4_setAct_79 : decode cX4_setAct 79 = .ok (.iconst 1, 1) := by decide +kernel
theorem dX4_setAct_80 : decode cX4_setAct 80 = .ok (.goto 4, 3) := by decide +kernel
theorem dX4_setAct_83 : decode cX4_setAct 83 = .ok (.iconst 0, 1) := by decide +kernel
theorem dX4_setAct_84 : decode cX4_setAct 84 = .ok (.ireturn, 1) := by decide +kernel
theorem dX4_slideAct_0 : decode cX4_slideAct 0 = .ok (.aload_n 0, 1) := by decide +kernel
theorem dX4_slideAct_1 : decode cX4_slideAct 1 = .ok (.iconst 1, 1) := by decide +kernel
theorem dX4_slideAct_2 : decode cX4_slideAct 2 = .ok (.invokevirtual 75, 3) := by decide +kernel
theorem dX4_slideAct_5 : decode cX4_slideAct 5 = .ok (.aload_n 0, 1) := by decide +kernel
theorem dX4_slideAct_6 : decode cX4_slideAct 6 = .ok (.aload_n 0, 1) := by decide +kernel
theorem dX4_slideAct_7 : decode cX4_slideAct 7 = .ok (.getfield 25, 3) := by decide +kernel
theorem dX4_slideAct_10 : decode cX4_slideAct 10 = .ok (.getfield 79, 3) := by decide +kernel
theorem dX4_slideAct_13 : decode cX4_slideAct 13 = .ok (.invokevirtual 75, 3) := by decide +kernel
theorem dX4_slideAct_16 : decode cX4_slideAct 16 = .ok (.aload_n 0, 1) := by decide +kernel
theorem dX4_slideAct_17 : decode cX4_slideAct 17 = .ok (.getfield 25, 3) := by decide +kernel
theorem dX4_slideAct_20 : decode cX4_slideAct 20 = .ok (.bipush 59, 2) := by decide +kernel
theorem dX4_slideAct_22 : decode cX4_slideAct 22 = .ok (.invokevirtual 82, 3) := by decide +kernel
theorem dX4_slideAct_25 : decode cX4_slideAct 25 = .ok (.ireturn, 1) := by decide +kernel
theorem dX4_taken_0 : decode cX4_taken 0 = .ok (.aload_n 0, 1) := by decide +kernel
theorem dX4_taken_1 : decode cX4_taken 1 = .ok (.getfield 25, 3) := by decide +kernel
theorem dX4_taken_4 : decode cX4_taken 4 = .ok (.invokevirtual 38, 3) := by decide +kernel
theorem dX4_taken_7 : decode cX4_taken 7 = .ok (.invokestatic 104, 3) := by decide +kernel
theorem dX4_taken_10 : decode cX4_taken 10 = .ok (.ifCond .eq 37, 3) := by decide +kernel
theorem dX4_taken_13 : decode cX4_taken 13 = .ok (.aload_n 0, 1) := by decide +kernel
theorem dX4_taken_14 : decode cX4_taken 14 = .ok (.iconst 0, 1) := by decide +kernel
theorem dX4_taken_15 : decode cX4_taken 15 = .ok (.invokevirtual 75, 3) := by decide +kernel
theorem dX4_taken_18 : decode cX4_taken 18 = .ok (.aload_n 0, 1) := by decide +kernel
theorem dX4_taken_19 : decode cX4_taken 19 = .ok (.getfield 25, 3) := by decide +kernel
theorem dX4_taken_22 : decode cX4_taken 22 = .ok (.iconst 0, 1) := by decide +kernel
theorem dX4_taken_23 : decode cX4_taken 23 = .ok (.sipush 999, 3) := by decide +kernel
theorem dX4_taken_26 : decode cX4_taken 26 = .ok (.invokevirtual 85, 3) := by decide +kernel
theorem dX4_taken_29 : decode cX4_taken 29 = .ok (.istore_n 2, 1) := by decide +kernel
theorem dX4_taken_30 : decode cX4_taken 30 = .ok (.aload_n 0, 1) := by decide +kernel
theorem dX4_taken_31 : decode cX4_taken 31 = .ok (.sipush 1000, 3) := by decide +kernel
theorem dX4_taken_34 : decode cX4_taken 34 = .ok (.aload_n 0, 1) := by decide +kernel
theorem dX4_taken_35 : decode cX4_taken 35 = .ok (.getfield 25, 3) := by decide +kernel
theorem dX4_taken_38 : decode cX4_taken 38 = .ok (.getfield 88, 3) := by decide +kernel
theorem dX4_taken_41 : decode cX4_taken 41 = .ok (.iadd, 1) := by decide +kernel
theorem dX4_taken_42 : decode cX4_taken 42 = .ok (.invokevirtual 75, 3) := by decide +kernel
theorem dX4_taken_45 : decode cX4_taken 45 = .ok (.iload_n 2, 1) := by decide +kernel
theorem dX4_taken_46 : decode cX4_taken 46 = .ok (.ireturn, 1) := by decide +kernel
theorem dX4_taken_47 : decode cX4_taken 47 = .ok (.aload_n 0, 1) := by decide +kernel
theorem dX4_taken_48 : decode cX4_taken 48 = .ok (.getfield 25, 3) := by decide +kernel
theorem dX4_taken_51 : decode cX4_taken 51 = .ok (.invokevirtual 49, 3) := by decide +kernel
theorem dX4_taken_54 : decode cX4_taken 54 = .ok (.ifCond .ne 5, 3) := by decide +kernel
theorem dX4_taken_57 : decode cX4_taken 57 = .ok (.iconst 0, 1) := by decide +kernel
theorem dX4_taken_58 : decode cX4_taken 58 = .ok (.ireturn, 1) := by decide +kernel
theorem dX4_taken_59 : decode cX4_taken 59 = .ok (.aload_n 0, 1) := by decide +kernel
theorem dX4_taken_60 : decode cX4_taken 60 = .ok (.getfield 25, 3) := by decide +kernel
theorem dX4_taken_63 : decode cX4_taken 63 = .ok (.getfield 53, 3) := by decide +kernel
theorem dX4_taken_66 : decode cX4_taken 66 = .ok (.bipush 9, 2) := by decide +kernel
theorem dX4_taken_68 : decode cX4_taken 68 = .ok (.if_icmp .ne 17, 3) := by decide +kernel
theorem dX4_taken_71 : decode cX4_taken 71 = .ok (.aload_n 0, 1) := by decide +kernel
theorem dX4_taken_72 : decode cX4_taken 72 = .ok (.iconst 0, 1) := by decide +kernel
theorem dX4_taken_73 : decode cX4_taken 73 = .ok (.invokevirtual 75, 3) := by decide +kernel
theorem dX4_taken_76 : decode cX4_taken 76 = .ok (.aload_n 0, 1) := by decide +kernel
theorem dX4_taken_77 : decode cX4_taken 77 = .ok (.sipush 3047, 3) := by decide +kernel
theorem dX4_taken_80 : decode cX4_taken 80 = .ok (.invokevirtual 75, 3) := by decide +kernel
theorem dX4_taken_83 : decode cX4_taken 83 = .ok (.iconst 1, 1) := by decide +kernel
theorem dX4_taken_84 : decode cX4_taken 84 = .ok (.ireturn, 1) := by decide +kernel
theorem dX4_taken_85 : decode cX4_taken 85 = .ok (.aload_n 0, 1) := by decide +kernel
theorem dX4_taken_86 : decode cX4_taken 86 = .ok (.getfield 25, 3) := by decide +kernel
theorem dX4_taken_89 : decode cX4_taken 89 = .ok (.getfield 53, 3) := by decide +kernel
theorem dX4_taken_92 : decode cX4_taken 92 = .ok (.bipush 10, 2) := by decide +kernel
theorem dX4_taken_94 : decode cX4_taken 94 = .ok (.if_icmp .ne 12, 3) := by decide +kernel
theorem dX4_taken_97 : decode cX4_taken 97 = .ok (.iload_n 1, 1) := by decide +kernel
theorem dX4_taken_98 : decode cX4_taken 98 = .ok (.ifCond .eq 8, 3) := by decide +kernel
theorem dX4_taken_101 : decode cX4_taken 101 = .ok (.aload_n 0, 1) := by decide +kernel
theorem dX4_taken_102 : decode cX4_taken 102 = .ok (.invokevirtual 107, 3) := by decide +kernel
theorem dX4_taken_105 : decode cX4_taken 105 = .ok (.ireturn, 1) := by decide +kernel
theorem dX4_taken_106 : decode cX4_taken 106 = .ok (.aload_n 0, 1) := by decide +kernel
theorem dX4_taken_107 : decode cX4_taken 107 = .ok (.iconst 2, 1) := by decide +kernel
theorem dX4_taken_108 : decode cX4_taken 108 = .ok (.invokevirtual 75, 3) := by decide +kernel
theorem dX4_taken_111 : decode cX4_taken 111 = .ok (.aload_n 0, 1) := by decide +kernel
theorem dX4_taken_112 : decode cX4_taken 112 = .ok (.invokevirtual 98, 3) := by decide +kernel
theorem dX4_taken_115 : decode cX4_taken 115 = .ok (.ifCond .eq 14, 3) := by decide +kernel
theorem dX4_taken_118 : decode cX4_taken 118 = .ok (.aload_n 0, 1) := by decide +kernel
theorem dX4_taken_119 : decode cX4_taken 119 = .ok (.invokevirtual 110, 3) := by decide +kernel
theorem dX4_taken_122 : decode cX4_taken 122 = .ok (.ifCond .eq 7, 3) := by decide +kernel
theorem dX4_taken_125 : decode cX4_taken 125 = .ok (.iconst 1, 1) := by decide +kernel
theorem dX4_taken_126 : decode cX4_taken 126 = .ok (.goto 4, 3) := by decide +kernel
theorem dX4_taken_129 : decode cX4_taken 129 = .ok (.iconst 0, 1) := by decide +kernel
theorem dX4_taken_130 : decode cX4_taken 130 = .ok (.ireturn, 1) := by decide +kernel
theorem dX4_whenAct_0 : decode cX4_whenAct 0 = .ok (.aload_n 0, 1) := by decide +kernel
theorem dX4_whenAct_1 : decode cX4_whenAct 1 = .ok (.getfield 15, 3) := by decide +kernel
theorem dX4_whenAct_4 : decode cX4_whenAct 4 = .ok (.istore_n 1, 1) := by decide +kernel
theorem dX4_whenAct_5 : decode cX4_whenAct 5 = .ok (.aload_n 0, 1) := by decide +kernel
theorem dX4_whenAct_6 : decode cX4_whenAct 6 = .ok (.iconst 4, 1) := by decide +kernel
theorem dX4_whenAct_7 : decode cX4_whenAct 7 = .ok (.invokevirtual 75, 3) := by decide +kernel
theorem dX4_whenAct_10 : decode cX4_whenAct 10 = .ok (.aload_n 0, 1) := by decide +kernel
theorem dX4_whenAct_11 : decode cX4_whenAct 11 = .ok (.aload_n 0, 1) := by decide +kernel
theorem dX4_whenAct_12 : decode cX4_whenAct 12 = .ok (.getfield 25, 3) := by decide +kernel
theorem dX4_whenAct_15 : decode cX4_whenAct 15 = .ok (.getfield 79, 3) := by decide +kernel
theorem dX4_whenAct_18 : decode cX4_whenAct 18 = .ok (.invokevirtual 75, 3) := by decide +kernel
theorem dX4_whenAct_21 : decode cX4_whenAct 21 = .ok (.aload_n 0, 1) := by decide +kernel
theorem dX4_whenAct_22 : decode cX4_whenAct 22 = .ok (.iconst (-1), 1) := by decide +kernel
theorem dX4_whenAct_23 : decode cX4_whenAct 23 = .ok (.invokevirtual 75, 3) := by decide +kernel
theorem dX4_whenAct_26 : decode cX4_whenAct 26 = .ok (.aload_n 0, 1) := by decide +kernel
theorem dX4_whenAct_27 : decode cX4_whenAct 27 = .ok (.iconst 0, 1) := by decide +kernel
theorem dX4_whenAct_28 : decode cX4_whenAct 28 = .ok (.invokevirtual 94, 3) := by decide +kernel
theorem dX4_whenAct_31 : decode cX4_whenAct 31 = .ok (.ifCond .eq 35, 3) := by decide +kernel
theorem dX4_whenAct_34 : decode cX4_whenAct 34 = .ok (.aload_n 0, 1) := by decide +kernel
theorem dX4_whenAct_35 : decode cX4_whenAct 35 = .ok (.getfield 25, 3) := by decide +kernel
theorem dX4_whenAct_38 : decode cX4_whenAct 38 = .ok (.bipush 61, 2) := by decide +kernel
theorem dX4_whenAct_40 : decode cX4_whenAct 40 = .ok (.invokevirtual 82, 3) := by decide +kernel
theorem dX4_whenAct_43 : decode cX4_whenAct 43 = .ok (.ifCond .eq 23, 3) := by decide +kernel
theorem dX4_whenAct_46 : decode cX4_whenAct 46 = .ok (.aload_n 0, 1) := by decide +kernel
theorem dX4_whenAct_47 : decode cX4_whenAct 47 = .ok (.iconst 0, 1) := by decide +kernel
theorem dX4_whenAct_48 : decode cX4_whenAct 48 = .ok (.invokevirtual 94, 3) := by decide +kernel
theorem dX4_whenAct_51 : decode cX4_whenAct 51 = .ok (.ifCond .eq 15, 3) := by decide +kernel
theorem dX4_whenAct_54 : decode cX4_whenAct 54 = .ok (.aload_n 0, 1) := by decide +kernel
theorem dX4_whenAct_55 : decode cX4_whenAct 55 = .ok (.iload_n 1, 1) := by decide +kernel
theorem dX4_whenAct_56 : decode cX4_whenAct 56 = .ok (.invokevirtual 91, 3) := by decide +kernel
theorem dX4_whenAct_59 : decode cX4_whenAct 59 = .ok (.ifCond .eq 7, 3) := by decide +kernel
theorem dX4_whenAct_62 : decode cX4_whenAct 62 = .ok (.iconst 1, 1) := by decide +kernel
theorem dX4_whenAct_63 : decode cX4_whenAct 63 = .ok (.goto 4, 3) := by decide +kernel
theorem dX4_whenAct_66 : decode cX4_whenAct 66 = .ok (.iconst 0, 1) := by decide +kernel
theorem dX4_whenAct_67 : decode cX4_whenAct 67 = .ok (.ireturn, 1) := by decide +kernel
theorem dX5_enterRepeat_0 : decode cX5_enterRepeat 0 = .ok (.aload_n 0, 1) := by decide +kernel
theorem dX5_enterRepeat_1 : decode cX5_enterRepeat 1 = .ok (.getfield 17, 3) := by decide +kernel
theorem dX5_enterRepeat_4 : decode cX5_enterRepeat 4 = .ok (.iconst 4, 1) := by decide +kernel
theorem dX5_enterRepeat_5 : decode cX5_enterRepeat 5 = .ok (.if_icmp .ge 30, 3) := by decide +kernel
theorem dX5_enterRepeat_8 : decode cX5_enterRepeat 8 = .ok (.aload_n 0, 1) := by decide +kernel
theorem dX5_enterRepeat_9 : decode cX5_enterRepeat 9 = .ok (.getfield 11, 3) := by decide +kernel
theorem dX5_enterRepeat_12 : decode cX5_enterRepeat 12 = .ok (.aload_n 0, 1) := by decide +kernel
theorem dX5_enterRepeat_13 : decode cX5_enterRepeat 13 = .ok (.getfield 17, 3) := by decide +kernel
theorem dX5_enterRepeat_16 : decode cX5_enterRepeat 16 = .ok (.aload_n 0, 1) := by decide +kernel
theorem dX5_enterRepeat_17 : decode cX5_enterRepeat 17 = .ok (.getfield 52, 3) := by decide +kernel
theorem dX5_enterRepeat_20 : decode cX5_enterRepeat 20 = .ok (.iload_n 1, 1) := by decide +kernel
theorem dX5_enterRepeat_21 : decode cX5_enterRepeat 21 = .ok (.iconst 3, 1) := by decide +kernel
theorem dX5_enterRepeat_22 : decode cX5_enterRepeat 22 = .ok (.iadd, 1) := by decide +kernel
theorem dX5_enterRepeat_23 : decode cX5_enterRepeat 23 = .ok (.iaload, 1) := by decide +kernel
theorem dX5_enterRepeat_24 : decode cX5_enterRepeat 24 = .ok (.iastore, 1) := by decide +kernel
theorem dX5_enterRepeat_25 : decode cX5_enterRepeat 25 = .ok (.aload_n 0, 1) := by decide +kernel
theorem dX5_enterRepeat_26 : decode cX5_enterRepeat 26 = .ok (.dup, 1) := by decide +kernel
theorem dX5_enterRepeat_27 : decode cX5_enterRepeat 27 = .ok (.getfield 17, 3) := by decide +kernel
theorem dX5_enterRepeat_30 : decode cX5_enterRepeat 30 = .ok (.iconst 1, 1) := by decide +kernel
theorem dX5_enterRepeat_31 : decode cX5_enterRepeat 31 = .ok (.iadd, 1) := by decide +kernel
theorem dX5_enterRepeat_32 : decode cX5_enterRepeat 32 = .ok (.putfield 17, 3) := by decide +kernel
theorem dX5_enterRepeat_35 : decode cX5_enterRepeat 35 = .ok (.aload_n 0, 1) := by decide +kernel
theorem dX5_enterRepeat_36 : decode cX5_enterRepeat 36 = .ok (.iload_n 1, 1) := by decide +kernel
theorem dX5_enterRepeat_37 : decode cX5_enterRepeat 37 = .ok (.invokevirtual 67, 3) := by decide +kernel
theorem dX5_enterRepeat_40 : decode cX5_enterRepeat 40 = .ok (.ireturn, 1) := by decide +kernel
theorem dX5_fail_0 : decode cX5_fail 0 = .ok (.aload_n 0, 1) := by decide +kernel
theorem dX5_fail_1 : decode cX5_fail 1 = .ok (.getfield 27, 3) := by decide +kernel
theorem dX5_fail_4 : decode cX5_fail 4 = .ok (.ifCond .ne 20, 3) := by decide +kernel
theorem dX5_fail_7 : decode cX5_fail 7 = .ok (.aload_n 0, 1) := by decide +kernel
theorem dX5_fail_8 : decode cX5_fail 8 = .ok (.iload_n 1, 1) := by decide +kernel
theorem dX5_fail_9 : decode cX5_fail 9 = .ok (.putfield 27, 3) := by decide +kernel
theorem dX5_fail_12 : decode cX5_fail 12 = .ok (.aload_n 0, 1) := by decide +kernel
theorem dX5_fail_13 : decode cX5_fail 13 = .ok (.aload_n 0, 1) := by decide +kernel
theorem dX5_fail_14 : decode cX5_fail 14 = .ok (.getfield 52, 3) := by decide +kernel
theorem dX5_fail_17 : decode cX5_fail 17 = .ok (.iload_n 2, 1) := by decide +kernel
theorem dX5_fail_18 : decode cX5_fail 18 = .ok (.iconst 1, 1) := by decide +kernel
theorem dX5_fail_19 : decode cX5_fail 19 = .ok (.iadd, 1) := by decide +kernel
theorem dX5_fail_20 : decode cX5_fail 20 = .ok (.iaload, 1) := by decide +kernel
theorem dX5_fail_21 : decode cX5_fail 21 = .ok (.putfield 30, 3) := by decide +kernel
theorem dX5_fail_24 : decode cX5_fail 24 = .ok (.return_, 1) := by decide +kernel
theorem dX5_fieldOf_0 : decode cX5_fieldOf 0 = .ok (.iload_n 1, 1) := by decide +kernel
theorem dX5_fieldOf_1 : decode cX5_fieldOf 1 = .ok (.invokestatic 138, 3) := by decide +kernel
theorem dX5_fieldOf_4 : decode cX5_fieldOf 4 = .ok (.istore 4, 2) := by decide +kernel
theorem dX5_fieldOf_6 : decode cX5_fieldOf 6 = .ok (.iload 4, 2) := by decide +kernel
theorem dX5_fieldOf_8 : decode cX5_fieldOf 8 = .ok (.iconst (-1), 1) := by decide +kernel
theorem dX5_fieldOf_9 : decode cX5_fieldOf 9 = .ok (.if_icmp .ne 11, 3) := by decide +kernel
theorem dX5_fieldOf_12 : decode cX5_fieldOf 12 = .ok (.aload_n 0, 1) := by decide +kernel
theorem dX5_fieldOf_13 : decode cX5_fieldOf 13 = .ok (.iconst 1, 1) := by decide +kernel
theorem dX5_fieldOf_14 : decode cX5_fieldOf 14 = .ok (.iload_n 3, 1) := by decide +kernel
theorem dX5_fieldOf_15 : decode cX5_fieldOf 15 = .ok (.invokevirtual 76, 3) := by decide +kernel
theorem dX5_fieldOf_18 : decode cX5_fieldOf 18 = .ok (.iconst (-1), 1) := by decide +kernel
theorem dX5_fieldOf_19 : decode cX5_fieldOf 19 = .ok (.ireturn, 1) := by decide +kernel
theorem dX5_fieldOf_20 : decode cX5_fieldOf 20 = .ok (.aload_n 0, 1) := by decide +kernel
theorem dX5_fieldOf_21 : decode cX5_fieldOf 21 = .ok (.getfield 33, 3) := by decide +kernel
theorem dX5_fieldOf_24 : decode cX5_fieldOf 24 = .ok (.iload 4, 2) := by decide +kernel
theorem dX5_fieldOf_26 : decode cX5_fieldOf 26 = .ok (.invokevirtual 115, 3) := by decide +kernel
theorem dX5_fieldOf_29 : decode cX5_fieldOf 29 = .ok (.istore 5, 2) := by decide +kernel
theorem dX5_fieldOf_31 : decode cX5_fieldOf 31 = .ok (.iload_n 2, 1) := by decide +kernel
theorem dX5_fieldOf_32 : decode cX5_fieldOf 32 = .ok (.aload_n 0, 1) := by decide +kernel
theorem dX5_fieldOf_33 : decode cX5_fieldOf 33 = .ok (.getfield 37, 3) := by decide +kernel
theorem dX5_fieldOf_36 : decode cX5_fieldOf 36 = .ok (.aload_n 0, 1) := by decide +kernel
theorem dX5_fieldOf_37 : decode cX5_fieldOf 37 = .ok (.getfield 33, 3) := by decide +kernel
theorem dX5_fieldOf_40 : decode cX5_fieldOf 40 = .ok (.iload 5, 2) := by decide +kernel
theorem dX5_fieldOf_42 : decode cX5_fieldOf 42 = .ok (.invokevirtual 118, 3) := by decide +kernel
theorem dX5_fieldOf_45 : decode cX5_fieldOf 45 = .ok (.invokevirtual 141, 3) := by decide +kernel
theorem dX5_fieldOf_48 : decode cX5_fieldOf 48 = .ok (.iconst 1, 1) := by decide +kernel
theorem dX5_fieldOf_49 : decode cX5_fieldOf 49 = .ok (.isub, 1) := by decide +kernel
theorem dX5_fieldOf_50 : decode cX5_fieldOf 50 = .ok (.if_icmp .lt 9, 3) := by decide +kernel
theorem dX5_fieldOf_53 : decode cX5_fieldOf 53 = .ok (.aload_n 0, 1) := by decide +kernel
theorem dX5_fieldOf_54 : decode cX5_fieldOf 54 = .ok (.iconst 2, 1) := by decide +kernel
theorem dX5_fieldOf_55 : decode cX5_fieldOf 55 = .ok (.iload_n 3, 1) := by decide +kernel
theorem dX5_fieldOf_56 : decode cX5_fieldOf 56 = .ok (.invokevirtual 76, 3) := by decide +kernel
theorem dX5_fieldOf_59 : decode cX5_fieldOf 59 = .ok (.iload 5, 2) := by decide +kernel
theorem dX5_fieldOf_61 : decode cX5_fieldOf 61 = .ok (.iconst 1, 1) := by decide +kernel
theorem dX5_fieldOf_62 : decode cX5_fieldOf 62 = .ok (.iadd, 1) := by decide +kernel
theorem dX5_fieldOf_63 : decode cX5_fieldOf 63 = .ok (.iload_n 2, 1) := by decide +kernel
theorem dX5_fieldOf_64 : decode cX5_fieldOf 64 = .ok (.iadd, 1) := by decide +kernel
theorem dX5_fieldOf_65 : decode cX5_fieldOf 65 = .ok (.ireturn, 1) := by decide +kernel
theorem dX5_fits_0 : decode cX5_fits 0 = .ok (.aload_n 0, 1) := by decide +kernel
theorem dX5_fits_1 : decode cX5_fits 1 = .ok (.getfield 33, 3) := by decide +kernel
theorem dX5_fits_4 : decode cX5_fits 4 = .ok (.iload_n 1, 1) := by decide +kernel
theorem dX5_fits_5 : decode cX5_fits 5 = .ok (.invokevirtual 115, 3) := by decide +kernel
theorem dX5_fits_8 : decode cX5_fits 8 = .ok (.istore_n 3, 1) := by decide +kernel
theorem dX5_fits_9 : decode cX5_fits 9 = .ok (.iload_n 3, 1) := by decide +kernel
theorem dX5_fits_10 : decode cX5_fits 10 = .ok (.iconst (-1), 1) := by decide +kernel
theorem dX5_fits_11 : decode cX5_fits 11 = .ok (.if_icmp .ne 5, 3) := by decide +kernel
theorem dX5_fits_14 : decode cX5_fits 14 = .ok (.iconst 0, 1) := by decide +kernel
theorem dX5_fits_15 : decode cX5_fits 15 = .ok (.ireturn, 1) := by decide +kernel
theorem dX5_fits_16 : decode cX5_fits 16 = .ok (.aload_n 0, 1) := by decide +kernel
theorem dX5_fits_17 : decode cX5_fits 17 = .ok (.getfield 37, 3) := by decide +kernel
theorem dX5_fits_20 : decode cX5_fits 20 = .ok (.aload_n 0, 1) := by decide +kernel
theorem dX5_fits_21 : decode cX5_fits 21 = .ok (.getfield 33, 3) := by decide +kernel
theorem dX5_fits_24 : decode cX5_fits 24 = .ok (.iload_n 3, 1) := by decide +kernel
theorem dX5_fits_25 : decode cX5_fits 25 = .ok (.invokevirtual 118, 3) := by decide +kernel
theorem dX5_fits_28 : decode cX5_fits 28 = .ok (.sipush 5096, 3) := by decide +kernel
theorem dX5_fits_31 : decode cX5_fits 31 = .ok (.isub, 1) := by decide +kernel
theorem dX5_fits_32 : decode cX5_fits 32 = .ok (.iload_n 1, 1) := by decide +kernel
theorem dX5_fits_33 : decode cX5_fits 33 = .ok (.iload_n 3, 1) := by decide +kernel
theorem dX5_fits_34 : decode cX5_fits 34 = .ok (.isub, 1) := by decide +kernel
theorem dX5_fits_35 : decode cX5_fits 35 = .ok (.iconst 1, 1) := by decide +kernel
theorem dX5_fits_36 : decode cX5_fits 36 = .ok (.isub, 1) := by decide +kernel
theorem dX5_fits_37 : decode cX5_fits 37 = .ok (.invokevirtual 120, 3) := by decide +kernel
theorem dX5_fits_40 : decode cX5_fits 40 = .ok (.istore 4, 2) := by decide +kernel
theorem dX5_fits_42 : decode cX5_fits 42 = .ok (.iload 4, 2) := by decide +kernel
theorem dX5_fits_44 : decode cX5_fits 44 = .ok (.ifCond .ne 7, 3) := by decide +kernel
theorem dX5_fits_47 : decode cX5_fits 47 = .ok (.iconst 1, 1) := by decide +kernel
theorem dX5_fits_48 : decode cX5_fits 48 = .ok (.goto 4, 3) := by decide +kernel
theorem dX5_fits_51 : decode cX5_fits 51 = .ok (.iconst 0, 1) := by decide +kernel
theorem dX5_fits_52 : decode cX5_fits 52 = .ok (.iload_n 2, 1) := by decide +kernel
theorem dX5_fits_53 : decode cX5_fits 53 = .ok (.invokestatic 125, 3) := by decide +kernel
theorem dX5_fits_56 : decode cX5_fits 56 = .ok (.ifCond .ne 7, 3) := by decide +kernel
theorem dX5_fits_59 : decode cX5_fits 59 = .ok (.iconst 1, 1) := by decide +kernel
theorem dX5_fits_60 : decode cX5_fits 60 = .ok (.goto 4, 3) := by decide +kernel
theorem dX5_fits_63 : decode cX5_fits 63 = .ok (.iconst 0, 1) := by decide +kernel
theorem dX5_fits_64 : decode cX5_fits 64 = .ok (.if_icmp .ne 7, 3) := by decide +kernel
theorem dX5_fits_67 : decode cX5_fits 67 = .ok (.iconst 1, 1) := by decide +kernel
theorem dX5_fits_68 : decode cX5_fits 68 = .ok (.goto 4, 3) := by decide +kernel
theorem dX5_fits_71 : decode cX5_fits 71 = .ok (.iconst 0, 1) := by decide +kernel
theorem dX5_fits_72 : decode cX5_fits 72 = .ok (.ireturn, 1) := by decide +kernel
theorem dX5_forget_0 : decode cX5_forget 0 = .ok (.aload_n 0, 1) := by decide +kernel
theorem dX5_forget_1 : decode cX5_forget 1 = .ok (.iconst 0, 1) := by decide +kernel
theorem dX5_forget_2 : decode cX5_forget 2 = .ok (.putfield 27, 3) := by decide +kernel
theorem dX5_forget_5 : decode cX5_forget 5 = .ok (.aload_n 0, 1) := by decide +kernel
theorem dX5_forget_6 : decode cX5_forget 6 = .ok (.iconst (-1), 1) := by decide +kernel
theorem dX5_forget_7 : decode cX5_forget 7 = .ok (.putfield 30, 3) := by decide +kernel
theorem dX5_forget_10 : decode cX5_forget 10 = .ok (.return_, 1) := by decide +kernel
theorem dX5_init_0 : decode cX5_init 0 = .ok (.aload_n 0, 1) := by decide +kernel
theorem dX5_init_1 : decode cX5_init 1 = .ok (.invokespecial 3, 3) := by decide +kernel
theorem dX5_init_4 : decode cX5_init 4 = .ok (.aload_n 0, 1) := by decide +kernel
theorem dX5_init_5 : decode cX5_init 5 = .ok (.iconst 4, 1) := by decide +kernel
theorem dX5_init_6 : decode cX5_init 6 = .ok (.newarray .int, 2) := by decide +kernel
theorem dX5_init_8 : decode cX5_init 8 = .ok (.putfield 11, 3) := by decide +kernel
theorem dX5_init_11 : decode cX5_init 11 = .ok (.aload_n 0, 1) := by decide +kernel
theorem dX5_init_12 : decode cX5_init 12 = .ok (.iconst 0, 1) := by decide +kernel
theorem dX5_init_13 : decode cX5_init 13 = .ok (.putfield 17, 3) := by decide +kernel
theorem dX5_init_16 : decode cX5_init 16 = .ok (.aload_n 0, 1) := by decide +kernel
theorem dX5_init_17 : decode cX5_init 17 = .ok (.iconst 0, 1) := by decide +kernel
theorem dX5_init_18 : decode cX5_init 18 = .ok (.putfield 21, 3) := by decide +kernel
theorem dX5_init_21 : decode cX5_init 21 = .ok (.aload_n 0, 1) := by decide +kernel
theorem dX5_init_22 : decode cX5_init 22 = .ok (.iconst 0, 1) := by decide +kernel
theorem dX5_init_23 : decode cX5_init 23 = .ok (.putfield 24, 3) := by decide +kernel
theorem dX5_init_26 : decode cX5_init 26 = .ok (.aload_n 0, 1) := by decide +kernel
theorem dX5_init_27 : decode cX5_init 27 = .ok (.iconst 0, 1) := by decide +kernel
theorem dX5_init_28 : decode cX5_init 28 = .ok (.putfield 27, 3) := by decide +kernel
theorem dX5_init_31 : decode cX5_init 31 = .ok (.aload_n 0, 1) := by decide +kernel
theorem dX5_init_32 : decode cX5_init 32 = .ok (.iconst (-1), 1) := by decide +kernel
theorem dX5_init_33 : decode cX5_init 33 = .ok (.putfield 30, 3) := by decide +kernel
theorem dX5_init_36 : decode cX5_init 36 = .ok (.aload_n 0, 1) := by decide +kernel
theorem dX5_init_37 : decode cX5_init 37 = .ok (.aload_n 1, 1) := by decide +kernel
theorem dX5_init_38 : decode cX5_init 38 = .ok (.putfield 33, 3) := by decide +kernel
theorem dX5_init_41 : decode cX5_init 41 = .ok (.aload_n 0, 1) := by decide +kernel
theorem dX5_init_42 : decode cX5_init 42 = .ok (.aload_n 2, 1) := by decide +kernel
theorem dX5_init_43 : decode cX5_init 43 = .ok (.putfield 37, 3) := by decide +kernel
theorem dX5_init_46 : decode cX5_init 46 = .ok (.aload_n 0, 1) := by decide +kernel
theorem dX5_init_47 : decode cX5_init 47 = .ok (.aload_n 3, 1) := by decide +kernel
theorem dX5_init_48 : decode cX5_init 48 = .ok (.putfield 41, 3) := by decide +kernel
theorem dX5_init_51 : decode cX5_init 51 = .ok (.aload_n 0, 1) := by decide +kernel
theorem dX5_init_52 : decode cX5_init 52 = .ok (.aload 4, 2) := by decide +kernel
theorem dX5_init_54 : decode cX5_init 54 = .ok (.putfield 45, 3) := by decide +kernel
theorem dX5_init_57 : decode cX5_init 57 = .ok (.aload_n 0, 1) := by decide +kernel
theorem dX5_init_58 : decode cX5_init 58 = .ok (.aload 4, 2) := by decide +kernel
theorem dX5_init_60 : decode cX5_init 60 = .ok (.getfield 49, 3) := by decide +kernel
theorem dX5_init_63 : decode cX5_init 63 = .ok (.putfield 52, 3) := by decide +kernel
theorem dX5_init_66 : decode cX5_init 66 = .ok (.return_, 1) := by decide +kernel
theorem dX5_locate_0 : decode cX5_locate 0 = .ok (.aload_n 0, 1) := by decide +kernel
theorem dX5_locate_1 : decode cX5_locate 1 = .ok (.getfield 52, 3) := by decide +kernel
theorem dX5_locate_4 : decode cX5_locate 4 = .ok (.aload_n 0, 1) := by decide +kernel
theorem dX5_locate_5 : decode cX5_locate 5 = .ok (.getfield 21, 3) := by decide +kernel
theorem dX5_locate_8 : decode cX5_locate 8 = .ok (.iaload, 1) := by decide +kernel
theorem dX5_locate_9 : decode cX5_locate 9 = .ok (.bipush 8, 2) := by decide +kernel
theorem dX5_locate_11 : decode cX5_locate 11 = .ok (.isub, 1) := by decide +kernel
theorem dX5_locate_12 : decode cX5_locate 12 = .ok (.istore_n 2, 1) := by decide +kernel
theorem dX5_locate_13 : decode cX5_locate 13 = .ok (.aload_n 0, 1) := by decide +kernel
theorem dX5_locate_14 : decode cX5_locate 14 = .ok (.getfield 52, 3) := by decide +kernel
theorem dX5_locate_17 : decode cX5_locate 17 = .ok (.aload_n 0, 1) := by decide +kernel
theorem dX5_locate_18 : decode cX5_locate 18 = .ok (.getfield 21, 3) := by decide +kernel
theorem dX5_locate_21 : decode cX5_locate 21 = .ok (.iconst 1, 1) := by decide +kernel
theorem dX5_locate_22 : decode cX5_locate 22 = .ok (.iadd, 1) := by decide +kernel
theorem dX5_locate_23 : decode cX5_locate 23 = .ok (.iaload, 1) := by decide +kernel
theorem dX5_locate_24 : decode cX5_locate 24 = .ok (.istore_n 3, 1) := by decide +kernel
theorem dX5_locate_25 : decode cX5_locate 25 = .ok (.aload_n 0, 1) := by decide +kernel
theorem dX5_locate_26 : decode cX5_locate 26 = .ok (.dup, 1) := by decide +kernel
theorem dX5_locate_27 : decode cX5_locate 27 = .ok (.getfield 21, 3) := by decide +kernel
theorem dX5_locate_30 : decode cX5_locate 30 = .ok (.iconst 2, 1) := by decide +kernel
theorem dX5_locate_31 : decode cX5_locate 31 = .ok (.iadd, 1) := by decide +kernel
theorem dX5_locate_32 : decode cX5_locate 32 = .ok (.putfield 21, 3) := by decide +kernel
theorem dX5_locate_35 : decode cX5_locate 35 = .ok (.iconst 0, 1) := by decide +kernel
theorem dX5_locate_36 : decode cX5_locate 36 = .ok (.istore 4, 2) := by decide +kernel
theorem dX5_locate_38 : decode cX5_locate 38 = .ok (.iload 4, 2) := by decide +kernel
theorem dX5_locate_40 : decode cX5_locate 40 = .ok (.iload_n 3, 1) := by decide +kernel
theorem dX5_locate_41 : decode cX5_locate 41 = .ok (.if_icmp .ge 49, 3) := by decide +kernel
theorem dX5_locate_44 : decode cX5_locate 44 = .ok (.aload_n 0, 1) := by decide +kernel
theorem dX5_locate_45 : decode cX5_locate 45 = .ok (.getfield 27, 3) := by decide +kernel
theorem dX5_locate_48 : decode cX5_locate 48 = .ok (.ifCond .ne 42, 3) := by decide +kernel
theorem dX5_locate_51 : decode cX5_locate 51 = .ok (.aload_n 0, 1) := by decide +kernel
theorem dX5_locate_52 : decode cX5_locate 52 = .ok (.aload_n 0, 1) := by decide +kernel
theorem dX5_locate_53 : decode cX5_locate 53 = .ok (.getfield 33, 3) := by decide +kernel
theorem dX5_locate_56 : decode cX5_locate 56 = .ok (.iload_n 2, 1) := by decide +kernel
theorem dX5_locate_57 : decode cX5_locate 57 = .ok (.invokevirtual 118, 3) := by decide +kernel
theorem dX5_locate_60 : decode cX5_locate 60 = .ok (.aload_n 0, 1) := by decide +kernel
theorem dX5_locate_61 : decode cX5_locate 61 = .ok (.getfield 52, 3) := by decide +kernel
theorem dX5_locate_64 : decode cX5_locate 64 = .ok (.aload_n 0, 1) := by decide +kernel
theorem dX5_locate_65 : decode cX5_locate 65 = .ok (.getfield 21, 3) := by decide +kernel
theorem dX5_locate_68 : decode cX5_locate 68 = .ok (.iaload, 1) := by decide +kernel
theorem dX5_locate_69 : decode cX5_locate 69 = .ok (.iload_n 1, 1) := by decide +kernel
theorem dX5_locate_70 : decode cX5_locate 70 = .ok (.invokevirtual 144, 3) := by decide +kernel
theorem dX5_locate_73 : decode cX5_locate 73 = .ok (.istore_n 2, 1) := by decide +kernel
theorem dX5_locate_74 : decode cX5_locate 74 = .ok (.aload_n 0, 1) := by decide +kernel
theorem dX5_locate_75 : decode cX5_locate 75 = .ok (.dup, 1) := by decide +kernel
theorem dX5_locate_76 : decode cX5_locate 76 = .ok (.getfield 21, 3) := by decide +kernel
theorem dX5_locate_79 : decode cX5_locate 79 = .ok (.iconst 1, 1) := by decide +kernel
theorem dX5_locate_80 : decode cX5_locate 80 = .ok (.iadd, 1) := by decide +kernel
theorem dX5_locate_81 : decode cX5_locate 81 = .ok (.putfield 21, 3) := by decide +kernel
theorem dX5_locate_84 : decode cX5_locate 84 = .ok (.iinc 4 1, 3) := by decide +kernel
theorem dX5_locate_87 : decode cX5_locate 87 = .ok (.goto (-49), 3) := by decide +kernel
theorem dX5_locate_90 : decode cX5_locate 90 = .ok (.iload_n 2, 1) := by decide +kernel
theorem dX5_locate_91 : decode cX5_locate 91 = .ok (.ireturn, 1) := by decide +kernel
theorem dX5_mayBegin_0 : decode cX5_mayBegin 0 = .ok (.aload_n 0, 1) := by decide +kernel
theorem dX5_mayBegin_1 : decode cX5_mayBegin 1 = .ok (.getfield 24, 3) := by decide +kernel
theorem dX5_mayBegin_4 : decode cX5_mayBegin 4 = .ok (.sipush 400, 3) := by decide +kernel
theorem dX5_mayBegin_7 : decode cX5_mayBegin 7 = .ok (.if_icmp .ne 10, 3) := by decide +kernel
theorem dX5_mayBegin_10 : decode cX5_mayBegin 10 = .ok (.aload_n 0, 1) := by decide +kernel
theorem dX5_mayBegin_11 : decode cX5_mayBegin 11 = .ok (.bipush 6, 2) := by decide +kernel
theorem dX5_mayBegin_13 : decode cX5_mayBegin 13 = .ok (.iload_n 1, 1) := by decide +kernel
theorem dX5_mayBegin_14 : decode cX5_mayBegin 14 = .ok (.invokevirtual 76, 3) := by decide +kernel
theorem dX5_mayBegin_17 : decode cX5_mayBegin 17 = .ok (.aload_n 0, 1) := by decide +kernel
theorem dX5_mayBegin_18 : decode cX5_mayBegin 18 = .ok (.getfield 27, 3) := by decide +kernel
theorem dX5_mayBegin_21 : decode cX5_mayBegin 21 = .ok (.ifCond .ne 7, 3) := by decide +kernel
theorem dX5_mayBegin_24 : decode cX5_mayBegin 24 = .ok (.iconst 1, 1) := by decide +kernel
theorem dX5_mayBegin_25 : decode cX5_mayBegin 25 = .ok (.goto 4, 3) := by decide +kernel
theorem dX5_mayBegin_28 : decode cX5_mayBegin 28 = .ok (.iconst 0, 1) := by decide +kernel
theorem dX5_mayBegin_29 : decode cX5_mayBegin 29 = .ok (.ireturn, 1) := by decide +kernel
theorem dX5_move_0 : decode cX5_move 0 = .ok (.iload_n 1, 1) := by decide +kernel
theorem dX5_move_1 : decode cX5_move 1 = .ok (.invokestatic 125, 3) := by decide +kernel
theorem dX5_move_4 : decode cX5_move 4 = .ok (.ifCond .ne 26, 3) := by decide +kernel
theorem dX5_move_7 : decode cX5_move 7 = .ok (.sipush 1000, 3) := by decide +kernel
theorem dX5_move_10 : decode cX5_move 10 = .ok (.sipush (-999), 3) := by decide +kernel
theorem dX5_move_13 : decode cX5_move 13 = .ok (.sipush 999, 3) := by decide +kernel
theorem dX5_move_16 : decode cX5_move 16 = .ok (.iload_n 1, 1) := by decide +kernel
theorem dX5_move_17 : decode cX5_move 17 = .ok (.invokestatic 132, 3) := by decide +kernel
theorem dX5_move_20 : decode cX5_move 20 = .ok (.iload_n 2, 1) := by decide +kernel
theorem dX5_move_21 : decode cX5_move 21 = .ok (.iadd, 1) := by decide +kernel
theorem dX5_move_22 : decode cX5_move 22 = .ok (.invokestatic 135, 3) := by decide +kernel
theorem dX5_move_25 : decode cX5_move 25 = .ok (.invokestatic 90, 3) := by decide +kernel
theorem dX5_move_28 : decode cX5_move 28 = .ok (.iadd, 1) := by decide +kernel
theorem dX5_move_29 : decode cX5_move 29 = .ok (.ireturn, 1) := by decide +kernel
theorem dX5_move_30 : decode cX5_move 30 = .ok (.iload_n 1, 1) := by decide +kernel
theorem dX5_move_31 : decode cX5_move 31 = .ok (.invokestatic 138, 3) := by decide +kernel
theorem dX5_move_34 : decode cX5_move 34 = .ok (.istore 4, 2) := by decide +kernel
theorem dX5_move_36 : decode cX5_move 36 = .ok (.iload 4, 2) := by decide +kernel
theorem dX5_move_38 : decode cX5_move 38 = .ok (.iconst (-1), 1) := by decide +kernel
theorem dX5_move_39 : decode cX5_move 39 = .ok (.if_icmp .ne 13, 3) := by decide +kernel
theorem dX5_move_42 : decode cX5_move 42 = .ok (.aload_n 0, 1) := by decide +kernel
theorem dX5_move_43 : decode cX5_move 43 = .ok (.iconst 4, 1) := by decide +kernel
theorem dX5_move_44 : decode cX5_move 44 = .ok (.iload_n 3, 1) := by decide +kernel
theorem dX5_move_45 : decode cX5_move 45 = .ok (.invokevirtual 76, 3) := by decide +kernel
theorem dX5_move_48 : decode cX5_move 48 = .ok (.sipush 3047, 3) := by decide +kernel
theorem dX5_move_51 : decode cX5_move 51 = .ok (.ireturn, 1) := by decide +kernel
theorem dX5_move_52 : decode cX5_move 52 = .ok (.aload_n 0, 1) := by decide +kernel
theorem dX5_move_53 : decode cX5_move 53 = .ok (.getfield 33, 3) := by decide +kernel
theorem dX5_move_56 : decode cX5_move 56 = .ok (.iload 4, 2) := by decide +kernel
theorem dX5_move_58 : decode cX5_move 58 = .ok (.invokevirtual 115, 3) := by decide +kernel
theorem dX5_move_61 : decode cX5_move 61 = .ok (.istore 5, 2) := by decide +kernel
theorem dX5_move_63 : decode cX5_move 63 = .ok (.iload 4, 2) := by decide +kernel
theorem dX5_move_65 : decode cX5_move 65 = .ok (.iload_n 2, 1) := by decide +kernel
theorem dX5_move_66 : decode cX5_move 66 = .ok (.iadd, 1) := by decide +kernel
theorem dX5_move_67 : decode cX5_move 67 = .ok (.iload 5, 2) := by decide +kernel
theorem dX5_move_69 : decode cX5_move 69 = .ok (.isub, 1) := by decide +kernel
theorem dX5_move_70 : decode cX5_move 70 = .ok (.istore 6, 2) := by decide +kernel
theorem dX5_move_72 : decode cX5_move 72 = .ok (.iload 6, 2) := by decide +kernel
theorem dX5_move_74 : decode cX5_move 74 = .ok (.ifCond .lt 24, 3) := by decide +kernel
theorem dX5_move_77 : decode cX5_move 77 = .ok (.iload 6, 2) := by decide +kernel
theorem dX5_move_79 : decode cX5_move 79 = .ok (.aload_n 0, 1) := by decide +kernel
theorem dX5_move_80 : decode cX5_move 80 = .ok (.getfield 37, 3) := by decide +kernel
theorem dX5_move_83 : decode cX5_move 83 = .ok (.aload_n 0, 1) := by decide +kernel
theorem dX5_move_84 : decode cX5_move 84 = .ok (.getfield 33, 3) := by decide +kernel
theorem dX5_move_87 : decode cX5_move 87 = .ok (.iload 5, 2) := by decide +kernel
theorem dX5_move_89 : decode cX5_move 89 = .ok (.invokevirtual 118, 3) := by decide +kernel
theorem dX5_move_92 : decode cX5_move 92 = .ok (.invokevirtual 141, 3) := by decide +kernel
theorem dX5_move_95 : decode cX5_move 95 = .ok (.if_icmp .lt 9, 3) := by decide +kernel
theorem dX5_move_98 : decode cX5_move 98 = .ok (.aload_n 0, 1) := by decide +kernel
theorem dX5_move_99 : decode cX5_move 99 = .ok (.iconst 4, 1) := by decide +kernel
theorem dX5_move_100 : decode cX5_move 100 = .ok (.iload_n 3, 1) := by decide +kernel
theorem dX5_move_101 : decode cX5_move 101 = .ok (.invokevirtual 76, 3) := by decide +kernel
theorem dX5_move_104 : decode cX5_move 104 = .ok (.iload_n 1, 1) := by decide +kernel
theorem dX5_move_105 : decode cX5_move 105 = .ok (.iload_n 2, 1) := by decide +kernel
theorem dX5_move_106 : decode cX5_move 106 = .ok (.iadd, 1) := by decide +kernel
theorem dX5_move_107 : decode cX5_move 107 = .ok (.ireturn, 1) := by decide +kernel
theorem dX5_nextRound_0 : decode cX5_nextRound 0 = .ok (.aload_n 0, 1) := by decide +kernel
theorem dX5_nextRound_1 : decode cX5_nextRound 1 = .ok (.getfield 17, 3) := by decide +kernel
theorem dX5_nextRound_4 : decode cX5_nextRound 4 = .ok (.ifCond .eq 17, 3) := by decide +kernel
theorem dX5_nextRound_7 : decode cX5_nextRound 7 = .ok (.aload_n 0, 1) := by decide +kernel
theorem dX5_nextRound_8 : decode cX5_nextRound 8 = .ok (.getfield 11, 3) := by decide +kernel
theorem dX5_nextRound_11 : decode cX5_nextRound 11 = .ok (.aload_n 0, 1) := by decide +kernel
theorem dX5_nextRound_12 : decode cX5_nextRound 12 = .ok (.getfield 17, 3) := by decide +kernel
theorem dX5_nextRound_15 : decode cX5_nextRound 15 = .ok (.iconst 1, 1) := by decide +kernel
theorem dX5_nextRound_16 : decode cX5_nextRound 16 = .ok (.isub, 1) := by decide +kernel
theorem dX5_nextRound_17 : decode cX5_nextRound 17 = .ok (.iaload, 1) := by decide +kernel
theorem dX5_nextRound_18 : decode cX5_nextRound 18 = .ok (.ifCond .ne 26, 3) := by decide +kernel
theorem dX5_nextRound_21 : decode cX5_nextRound 21 = .ok (.aload_n 0, 1) := by decide +kernel
theorem dX5_nextRound_22 : decode cX5_nextRound 22 = .ok (.aload_n 0, 1) := by decide +kernel
theorem dX5_nextRound_23 : decode cX5_nextRound 23 = .ok (.getfield 17, 3) := by decide +kernel
theorem dX5_nextRound_26 : decode cX5_nextRound 26 = .ok (.iconst 1, 1) := by decide +kernel
theorem dX5_nextRound_27 : decode cX5_nextRound 27 = .ok (.isub, 1) := by decide +kernel
theorem dX5_nextRound_28 : decode cX5_nextRound 28 = .ok (.iconst 0, 1) := by decide +kernel
theorem dX5_nextRound_29 : decode cX5_nextRound 29 = .ok (.invokestatic 90, 3) := by decide +kernel
theorem dX5_nextRound_32 : decode cX5_nextRound 32 = .ok (.putfield 17, 3) := by decide +kernel
theorem dX5_nextRound_35 : decode cX5_nextRound 35 = .ok (.aload_n 0, 1) := by decide +kernel
theorem dX5_nextRound_36 : decode cX5_nextRound 36 = .ok (.getfield 52, 3) := by decide +kernel
theorem dX5_nextRound_39 : decode cX5_nextRound 39 = .ok (.iload_n 1, 1) := by decide +kernel
theorem dX5_nextRound_40 : decode cX5_nextRound 40 = .ok (.iconst 2, 1) := by decide +kernel
theorem dX5_nextRound_41 : decode cX5_nextRound 41 = .ok (.iadd, 1) := by decide +kernel
theorem dX5_nextRound_42 : decode cX5_nextRound 42 = .ok (.iaload, 1) := by decide +kernel
theorem dX5_nextRound_43 : decode cX5_nextRound 43 = .ok (.ireturn, 1) := by decide +kernel
theorem dX5_nextRound_44 : decode cX5_nextRound 44 = .ok (.aload_n 0, 1) := by decide +kernel
theorem dX5_nextRound_45 : decode cX5_nextRound 45 = .ok (.iload_n 1, 1) := by decide +kernel
theorem dX5_nextRound_46 : decode cX5_nextRound 46 = .ok (.invokevirtual 80, 3) := by decide +kernel
theorem dX5_nextRound_49 : decode cX5_nextRound 49 = .ok (.ifCond .eq 28, 3) := by decide +kernel
theorem dX5_nextRound_52 : decode cX5_nextRound 52 = .ok (.aload_n 0, 1) := by decide +kernel
theorem dX5_nextRound_53 : decode cX5_nextRound 53 = .ok (.getfield 11, 3) := by decide +kernel
theorem dX5_nextRound_56 : decode cX5_nextRound 56 = .ok (.aload_n 0, 1) := by decide +kernel
theorem dX5_nextRound_57 : decode cX5_nextRound 57 = .ok (.getfield 17, 3) := by decide +kernel
theorem dX5_nextRound_60 : decode cX5_nextRound 60 = .ok (.iconst 1, 1) := by decide +kernel
theorem dX5_nextRound_61 : decode cX5_nextRound 61 = .ok (.isub, 1) := by decide +kernel
theorem dX5_nextRound_62 : decode cX5_nextRound 62 = .ok (.dup2, 1) := by decide +kernel
theorem dX5_nextRound_63 : decode cX5_nextRound 63 = .ok (.iaload, 1) := by decide +kernel
theorem dX5_nextRound_64 : decode cX5_nextRound 64 = .ok (.iconst 1, 1) := by decide +kernel
theorem dX5_nextRound_65 : decode cX5_nextRound 65 = .ok (.isub, 1) := by decide +kernel
theorem dX5_nextRound_66 : decode cX5_nextRound 66 = .ok (.iastore, 1) := by decide +kernel
theorem dX5_nextRound_67 : decode cX5_nextRound 67 = .ok (.aload_n 0, 1) := by decide +kernel
theorem dX5_nextRound_68 : decode cX5_nextRound 68 = .ok (.dup, 1) := by decide +kernel
theorem dX5_nextRound_69 : decode cX5_nextRound 69 = .ok (.getfield 24, 3) := by decide +kernel
theorem dX5_nextRound_72 : decode cX5_nextRound 72 = .ok (.iconst 1, 1) := by decide +kernel
theorem dX5_nextRound_73 : decode cX5_nextRound 73 = .ok (.iadd, 1) := by decide +kernel
theorem dX5_nextRound_74 : decode cX5_nextRound 74 = .ok (.putfield 24, 3) := by decide +kernel
theorem dX5_nextRound_77 : decode cX5_nextRound 77 = .ok (.iload_n 1, 1) := by decide +kernel
theorem dX5_nextRound_78 : decode cX5_nextRound 78 = .ok (.iconst 4, 1) := by decide +kernel
theorem dX5_nextRound_79 : decode cX5_nextRound 79 = .ok (.iadd, 1) := by decide +kernel
theorem dX5_nextRound_80 : decode cX5_nextRound 80 = .ok (.ireturn, 1) := by decide +kernel
theorem dX5_perform_0 : decode cX5_perform 0 = .ok (.aload_n 0, 1) := by decide +kernel
theorem dX5_perform_1 : decode cX5_perform 1 = .ok (.invokevirtual 53, 3) := by decide +kernel
theorem dX5_perform_4 : decode cX5_perform 4 = .ok (.aload_n 0, 1) := by decide +kernel
theorem dX5_perform_5 : decode cX5_perform 5 = .ok (.iconst 0, 1) := by decide +kernel
theorem dX5_perform_6 : decode cX5_perform 6 = .ok (.putfield 24, 3) := by decide +kernel
theorem dX5_perform_9 : decode cX5_perform 9 = .ok (.aload_n 0, 1) := by decide +kernel
theorem dX5_perform_10 : decode cX5_perform 10 = .ok (.iconst 0, 1) := by decide +kernel
theorem dX5_perform_11 : decode cX5_perform 11 = .ok (.putfield 17, 3) := by decide +kernel
theorem dX5_perform_14 : decode cX5_perform 14 = .ok (.iconst 0, 1) := by decide +kernel
theorem dX5_perform_15 : decode cX5_perform 15 = .ok (.istore_n 1, 1) := by decide +kernel
theorem dX5_perform_16 : decode cX5_perform 16 = .ok (.iconst 0, 1) := by decide +kernel
theorem dX5_perform_17 : decode cX5_perform 17 = .ok (.istore_n 2, 1) := by decide +kernel
theorem dX5_perform_18 : decode cX5_perform 18 = .ok (.iload_n 2, 1) := by decide +kernel
theorem dX5_perform_19 : decode cX5_perform 19 = .ok (.ldc 56, 2) := by decide +kernel
theorem dX5_perform_21 : decode cX5_perform 21 = .ok (.if_icmp .ge 114, 3) := by decide +kernel
theorem dX5_perform_24 : decode cX5_perform 24 = .ok (.aload_n 0, 1) := by decide +kernel
theorem dX5_perform_25 : decode cX5_perform 25 = .ok (.getfield 27, 3) := by decide +kernel
theorem dX5_perform_28 : decode cX5_perform 28 = .ok (.ifCond .ne 107, 3) := by decide +kernel
theorem dX5_perform_31 : decode cX5_perform 31 = .ok (.iload_n 1, 1) := by decide +kernel
theorem dX5_perform_32 : decode cX5_perform 32 = .ok (.aload_n 0, 1) := by decide +kernel
theorem dX5_perform_33 : decode cX5_perform 33 = .ok (.getfield 45, 3) := by decide +kernel
theorem dX5_perform_36 : decode cX5_perform 36 = .ok (.getfield 57, 3) := by decide +kernel
theorem dX5_perform_39 : decode cX5_perform 39 = .ok (.if_icmp .ge 96, 3) := by decide +kernel
theorem dX5_perform_42 : decode cX5_perform 42 = .ok (.aload_n 0, 1) := by decide +kernel
theorem dX5_perform_43 : decode cX5_perform 43 = .ok (.getfield 52, 3) := by decide +kernel
theorem dX5_perform_46 : decode cX5_perform 46 = .ok (.iload_n 1, 1) := by decide +kernel
theorem dX5_perform_47 : decode cX5_perform 47 = .ok (.iaload, 1) := by decide +kernel
theorem dX5_perform_48 : decode cX5_perform 48 = .ok (.tableswitch 75 1 4 #[32, 41, 50, 66], 32) := by decide +kernel
theorem dX5_perform_80 : decode cX5_perform 80 = .ok (.aload_n 0, 1) := by decide +kernel
theorem dX5_perform_81 : decode cX5_perform 81 = .ok (.iload_n 1, 1) := by decide +kernel
theorem dX5_perform_82 : decode cX5_perform 82 = .ok (.invokevirtual 60, 3) := by decide +kernel
theorem dX5_perform_85 : decode cX5_perform 85 = .ok (.istore_n 1, 1) := by decide +kernel
theorem dX5_perform_86 : decode cX5_perform 86 = .ok (.goto 43, 3) := by decide +kernel
theorem dX5_perform_89 : decode cX5_perform 89 = .ok (.aload_n 0, 1) := by decide +kernel
theorem dX5_perform_90 : decode cX5_perform 90 = .ok (.iload_n 1, 1) := by decide +kernel
theorem dX5_perform_91 : decode cX5_perform 91 = .ok (.invokevirtual 64, 3) := by decide +kernel
theorem dX5_perform_94 : decode cX5_perform 94 = .ok (.istore_n 1, 1) := by decide +kernel
theorem dX5_perform_95 : decode cX5_perform 95 = .ok (.goto 34, 3) := by decide +kernel
theorem dX5_perform_98 : decode cX5_perform 98 = .ok (.aload_n 0, 1) := by decide +kernel
theorem dX5_perform_99 : decode cX5_perform 99 = .ok (.aload_n 0, 1) := by decide +kernel
theorem dX5_perform_100 : decode cX5_perform 100 = .ok (.getfield 52, 3) := by decide +kernel
theorem dX5_perform_103 : decode cX5_perform 103 = .ok (.iload_n 1, 1) := by decide +kernel
theorem dX5_perform_104 : decode cX5_perform 104 = .ok (.iconst 1, 1) := by decide +kernel
theorem dX5_perform_105 : decode cX5_perform 105 = .ok (.iadd, 1) := by decide +kernel
theorem dX5_perform_106 : decode cX5_perform 106 = .ok (.iaload, 1) := by decide +kernel
theorem dX5_perform_107 : decode cX5_perform 107 = .ok (.invokevirtual 67, 3) := by decide +kernel
theorem dX5_perform_110 : decode cX5_perform 110 = .ok (.istore_n 1, 1) := by decide +kernel
theorem dX5_perform_111 : decode cX5_perform 111 = .ok (.goto 18, 3) := by decide +kernel
theorem dX5_perform_114 : decode cX5_perform 114 = .ok (.aload_n 0, 1) := by decide +kernel
theorem dX5_perform_115 : decode cX5_perform 115 = .ok (.iload_n 1, 1) := by decide +kernel
theorem dX5_perform_116 : decode cX5_perform 116 = .ok (.invokevirtual 70, 3) := by decide +kernel
theorem dX5_perform_119 : decode cX5_perform 119 = .ok (.istore_n 1, 1) := by decide +kernel
theorem dX5_perform_120 : decode cX5_perform 120 = .ok (.goto 9, 3) := by decide +kernel
theorem dX5_perform_123 : decode cX5_perform 123 = .ok (.aload_n 0, 1) := by decide +kernel
theorem dX5_perform_124 : decode cX5_perform 124 = .ok (.iload_n 1, 1) := by decide +kernel
theorem dX5_perform_125 : decode cX5_perform 125 = .ok (.invokevirtual 73, 3) := by decide +kernel
theorem dX5_perform_128 : decode cX5_perform 128 = .ok (.istore_n 1, 1) := by decide +kernel
theorem dX5_perform_129 : decode cX5_perform 129 = .ok (.iinc 2 1, 3) := by decide +kernel
theorem dX5_perform_132 : decode cX5_perform 132 = .ok (.goto (-114), 3) := by decide +kernel
theorem dX5_perform_135 : decode cX5_perform 135 = .ok (.aload_n 0, 1) := by decide +kernel
theorem dX5_perform_136 : decode cX5_perform 136 = .ok (.getfield 24, 3) := by decide +kernel
theorem dX5_perform_139 : decode cX5_perform 139 = .ok (.ireturn, 1) := by decide +kernel
theorem dX5_setAct_0 : decode cX5_setAct 0 = .ok (.aload_n 0, 1) := by decide +kernel
theorem dX5_setAct_1 : decode cX5_setAct 1 = .ok (.iload_n 1, 1) := by decide +kernel
theorem dX5_setAct_2 : decode cX5_setAct 2 = .ok (.invokevirtual 80, 3) := by decide +kernel
theorem dX5_setAct_5 : decode cX5_setAct 5 = .ok (.ifCond .ne 5, 3) := by decide +kernel
theorem dX5_setAct_8 : decode cX5_setAct 8 = .ok (.iload_n 1, 1) := by decide +kernel
theorem dX5_setAct_9 : decode cX5_setAct 9 = .ok (.ireturn, 1) := by decide +kernel
theorem dX5_setAct_10 : decode cX5_setAct 10 = .ok (.aload_n 0, 1) := by decide +kernel
theorem dX5_setAct_11 : decode cX5_setAct 11 = .ok (.aload_n 0, 1) := by decide +kernel
theorem dX5_setAct_12 : decode cX5_setAct 12 = .ok (.getfield 52, 3) := by decide +kernel
theorem dX5_setAct_15 : decode cX5_setAct 15 = .ok (.iload_n 1, 1) := by decide +kernel
theorem dX5_setAct_16 : decode cX5_setAct 16 = .ok (.iconst 2, 1) := by decide +kernel
theorem dX5_setAct_17 : decode cX5_setAct 17 = .ok (.iadd, 1) := by decide +kernel
theorem dX5_setAct_18 : decode cX5_setAct 18 = .ok (.iaload, 1) := by decide +kernel
theorem dX5_setAct_19 : decode cX5_setAct 19 = .ok (.putfield 21, 3) := by decide +kernel
theorem dX5_setAct_22 : decode cX5_setAct 22 = .ok (.aload_n 0, 1) := by decide +kernel
theorem dX5_setAct_23 : decode cX5_setAct 23 = .ok (.getfield 52, 3) := by decide +kernel
theorem dX5_setAct_26 : decode cX5_setAct 26 = .ok (.aload_n 0, 1) := by decide +kernel
theorem dX5_setAct_27 : decode cX5_setAct 27 = .ok (.getfield 21, 3) := by decide +kernel
theorem dX5_setAct_30 : decode cX5_setAct 30 = .ok (.iaload, 1) := by decide +kernel
theorem dX5_setAct_31 : decode cX5_setAct 31 = .ok (.iconst 1, 1) := by decide +kernel
theorem dX5_setAct_32 : decode cX5_setAct 32 = .ok (.if_icmp .ne 7, 3) := by decide +kernel
theorem dX5_setAct_35 : decode cX5_setAct 35 = .ok (.iconst 1, 1) := by decide +kernel
theorem dX5_setAct_36 : decode cX5_setAct 36 = .ok (.goto 4, 3) := by decide +kernel
theorem dX5_setAct_39 : decode cX5_setAct 39 = .ok (.iconst 0, 1) := by decide +kernel
theorem dX5_setAct_40 : decode cX5_setAct 40 = .ok (.istore_n 2, 1) := by decide +kernel
theorem dX5_setAct_41 : decode cX5_setAct 41 = .ok (.aload_n 0, 1) := by decide +kernel
theorem dX5_setAct_42 : decode cX5_setAct 42 = .ok (.iload_n 1, 1) := by decide +kernel
theorem dX5_setAct_43 : decode cX5_setAct 43 = .ok (.invokevirtual 96, 3) := by decide +kernel
theorem dX5_setAct_46 : decode cX5_setAct 46 = .ok (.istore_n 3, 1) := by decide +kernel
theorem dX5_setAct_47 : decode cX5_setAct 47 = .ok (.iload_n 2, 1) := by decide +kernel
theorem dX5_setAct_48 : decode cX5_setAct 48 = .ok (.ifCond .eq 36, 3) := by decide +kernel
theorem dX5_setAct_51 : decode cX5_setAct 51 = .ok (.aload_n 0, 1) := by decide +kernel
theorem dX5_setAct_52 : decode cX5_setAct 52 = .ok (.getfield 41, 3) := by decide +kernel
theorem dX5_setAct_55 : decode cX5_setAct 55 = .ok (.aload_n 0, 1) := by decide +kernel
theorem dX5_setAct_56 : decode cX5_setAct 56 = .ok (.getfield 33, 3) := by decide +kernel
theorem dX5_setAct_59 : decode cX5_setAct 59 = .ok (.iload_n 3, 1) := by decide +kernel
theorem dX5_setAct_60 : decode cX5_setAct 60 = .ok (.invokevirtual 99, 3) := by decide +kernel
theorem dX5_setAct_63 : decode cX5_setAct 63 = .ok (.istore 4, 2) := by decide +kernel
theorem dX5_setAct_65 : decode cX5_setAct 65 = .ok (.sipush 3048, 3) := by decide +kernel
theorem dX5_setAct_68 : decode cX5_setAct 68 = .ok (.iload 4, 2) := by decide +kernel
theorem dX5_setAct_70 : decode cX5_setAct 70 = .ok (.iadd, 1) := by decide +kernel
theorem dX5_setAct_71 : decode cX5_setAct 71 = .ok (.istore_n 3, 1) := by decide +kernel
theorem dX5_setAct_72 : decode cX5_setAct 72 = .ok (.iload 4, 2) := by decide +kernel
theorem dX5_setAct_74 : decode cX5_setAct 74 = .ok (.iconst (-1), 1) := by decide +kernel
theorem dX5_setAct_75 : decode cX5_setAct 75 = .ok (.if_icmp .ne 9, 3) := by decide +kernel
theorem dX5_setAct_78 : decode cX5_setAct 78 = .ok (.aload_n 0, 1) := by decide +kernel
theorem dX5_setAct_79 : decode cX5_setAct 79 = .ok (.iconst 5, 1) := by decide +kernel
theorem dX5_setAct_80 : decode cX5_setAct 80 = .ok (.iload_n 1, 1) := by decide +kernel
theorem dX5_setAct_81 : decode cX5_setAct 81 = .ok (.invokevirtual 76, 3) := by decide +kernel
theorem dX5_setAct_84 : decode cX5_setAct 84 = .ok (.aload_n 0, 1) := by decide +kernel
theorem dX5_setAct_85 : decode cX5_setAct 85 = .ok (.getfield 21, 3) := by decide +kernel
theorem dX5_setAct_88 : decode cX5_setAct 88 = .ok (.istore 4, 2) := by decide +kernel
theorem dX5_setAct_90 : decode cX5_setAct 90 = .ok (.aload_n 0, 1) := by decide +kernel
theorem dX5_setAct_91 : decode cX5_setAct 91 = .ok (.iload_n 1, 1) := by decide +kernel
theorem dX5_setAct_92 : decode cX5_setAct 92 = .ok (.iconst 3, 1) := by decide +kernel
theorem dX5_setAct_93 : decode cX5_setAct 93 = .ok (.iadd, 1) := by decide +kernel
theorem dX5_setAct_94 : decode cX5_setAct 94 = .ok (.putfield 21, 3) := by decide +kernel
theorem dX5_setAct_97 : decode cX5_setAct 97 = .ok (.aload_n 0, 1) := by decide +kernel
theorem dX5_setAct_98 : decode cX5_setAct 98 = .ok (.getfield 27, 3) := by decide +kernel
theorem dX5_setAct_101 : decode cX5_setAct 101 = .ok (.ifCond .ne 11, 3) := by decide +kernel
theorem dX5_setAct_104 : decode cX5_setAct 104 = .ok (.aload_n 0, 1) := by decide +kernel
theorem dX5_setAct_105 : decode cX5_setAct 105 = .ok (.iload_n 1, 1) := by decide +kernel
theorem dX5_setAct_106 : decode cX5_setAct 106 = .ok (.invokevirtual 103, 3) := by decide +kernel
theorem dX5_setAct_109 : decode cX5_setAct 109 = .ok (.goto 4, 3) := by decide +kernel
theorem dX5_setAct_112 : decode cX5_setAct 112 = .ok (.iconst (-1), 1) := by decide +kernel
theorem dX5_setAct_113 : decode cX5_setAct 113 = .ok (.istore 5, 2) := by decide +kernel
theorem dX5_setAct_115 : decode cX5_setAct 115 = .ok (.aload_n 0, 1) := by decide +kernel
theorem dX5_setAct_116 : decode cX5_setAct 116 = .ok (.getfield 27, 3) := by decide +kernel
theorem dX5_setAct_119 : decode cX5_setAct 119 = .ok (.ifCond .ne 24, 3) := by decide +kernel
theorem dX5_setAct_122 : decode cX5_setAct 122 = .ok (.iload 5, 2) := by decide +kernel
theorem dX5_setAct_124 : decode cX5_setAct 124 = .ok (.ifCond .lt 19, 3) := by decide +kernel
theorem dX5_setAct_127 : decode cX5_setAct 127 = .ok (.aload_n 0, 1) := by decide +kernel
theorem dX5_setAct_128 : decode cX5_setAct 128 = .ok (.iload 5, 2) := by decide +kernel
theorem dX5_setAct_130 : decode cX5_setAct 130 = .ok (.iload_n 3, 1) := by decide +kernel
theorem dX5_setAct_131 : decode cX5_setAct 131 = .ok (.invokevirtual 106, 3) := by decide +kernel
theorem dX5_setAct_134 : decode cX5_setAct 134 = .ok (.ifCond .ne 9, 3) := by decide +kernel
theorem dX5_setAct_137 : decode cX5_setAct 137 = .ok (.aload_n 0, 1) := by decide +kernel
theorem dX5_setAct_138 : decode cX5_setAct 138 = .ok (.iconst 3, 1) := by decide +kernel
theorem dX5_setAct_139 : decode cX5_setAct 139 = .ok (.iload_n 1, 1) := by decide +kernel
theorem dX5_setAct_140 : decode cX5_setAct 140 = .ok (.invokevirtual 76, 3) := by decide +kernel
theorem dX5_setAct_143 : decode cX5_setAct 143 = .ok (.aload_n 0, 1) := by decide +kernel
theorem dX5_setAct_144 : decode cX5_setAct 144 = .ok (.getfield 27, 3) := by decide +kernel
theorem dX5_setAct_147 : decode cX5_setAct 147 = .ok (.ifCond .ne 23, 3) := by decide +kernel
theorem dX5_setAct_150 : decode cX5_setAct 150 = .ok (.aload_n 0, 1) := by decide +kernel
theorem dX5_setAct_151 : decode cX5_setAct 151 = .ok (.getfield 33, 3) := by decide +kernel
theorem dX5_setAct_154 : decode cX5_setAct 154 = .ok (.iload 5, 2) := by decide +kernel
theorem dX5_setAct_156 : decode cX5_setAct 156 = .ok (.iload_n 3, 1) := by decide +kernel
theorem dX5_setAct_157 : decode cX5_setAct 157 = .ok (.invokevirtual 110, 3) := by decide +kernel
theorem dX5_setAct_160 : decode cX5_setAct 160 = .ok (.aload_n 0, 1) := by decide +kernel
theorem dX5_setAct_161 : decode cX5_setAct 161 = .ok (.dup, 1) := by decide +kernel
theorem dX5_setAct_162 : decode cX5_setAct 162 = .ok (.getfield 24, 3) := by decide +kernel
theorem dX5_setAct_165 : decode cX5_setAct 165 = .ok (.iconst 1, 1) := by decide +kernel
theorem dX5_setAct_166 : decode cX5_setAct 166 = .ok (.iadd, 1) := by decide +kernel
theorem dX5_setAct_167 : decode cX5_setAct 167 = .ok (.putfield 24, 3) := by decide +kernel
theorem dX5_setAct_170 : decode cX5_setAct 170 = .ok (.iload 4, 2) := by decide +kernel
theorem dX5_setAct_172 : decode cX5_setAct 172 = .ok (.ireturn, 1) := by decide +kernel
theorem dX5_slideAct_0 : decode cX5_slideAct 0 = .ok (.aload_n 0, 1) := by decide +kernel
theorem dX5_slideAct_1 : decode cX5_slideAct 1 = .ok (.iload_n 1, 1) := by decide +kernel
theorem dX5_slideAct_2 : decode cX5_slideAct 2 = .ok (.invokevirtual 80, 3) := by decide +kernel
theorem dX5_slideAct_5 : decode cX5_slideAct 5 = .ok (.ifCond .eq 24, 3) := by decide +kernel
theorem dX5_slideAct_8 : decode cX5_slideAct 8 = .ok (.aload_n 0, 1) := by decide +kernel
theorem dX5_slideAct_9 : decode cX5_slideAct 9 = .ok (.getfield 41, 3) := by decide +kernel
theorem dX5_slideAct_12 : decode cX5_slideAct 12 = .ok (.aload_n 0, 1) := by decide +kernel
theorem dX5_slideAct_13 : decode cX5_slideAct 13 = .ok (.getfield 33, 3) := by decide +kernel
theorem dX5_slideAct_16 : decode cX5_slideAct 16 = .ok (.invokevirtual 84, 3) := by decide +kernel
theorem dX5_slideAct_19 : decode cX5_slideAct 19 = .ok (.aload_n 0, 1) := by decide +kernel
theorem dX5_slideAct_20 : decode cX5_slideAct 20 = .ok (.dup, 1) := by decide +kernel
theorem dX5_slideAct_21 : decode cX5_slideAct 21 = .ok (.getfield 24, 3) := by decide +kernel
theorem dX5_slideAct_24 : decode cX5_slideAct 24 = .ok (.iconst 1, 1) := by decide +kernel
theorem dX5_slideAct_25 : decode cX5_slideAct 25 = .ok (.iadd, 1) := by decide +kernel
theorem dX5_slideAct_26 : decode cX5_slideAct 26 = .ok (.putfield 24, 3) := by decide +kernel
theorem dX5_slideAct_29 : decode cX5_slideAct 29 = .ok (.iload_n 1, 1) := by decide +kernel
theorem dX5_slideAct_30 : decode cX5_slideAct 30 = .ok (.iconst 2, 1) := by decide +kernel
theorem dX5_slideAct_31 : decode cX5_slideAct 31 = .ok (.iadd, 1) := by decide +kernel
theorem dX5_slideAct_32 : decode cX5_slideAct 32 = .ok (.ireturn, 1) := by decide +kernel
theorem dX5_take_0 : decode cX5_take 0 = .ok (.aload_n 0, 1) := by decide +kernel
theorem dX5_take_1 : decode cX5_take 1 = .ok (.getfield 52, 3) := by decide +kernel
theorem dX5_take_4 : decode cX5_take 4 = .ok (.aload_n 0, 1) := by decide +kernel
theorem dX5_take_5 : decode cX5_take 5 = .ok (.getfield 21, 3) := by decide +kernel
theorem dX5_take_8 : decode cX5_take 8 = .ok (.iaload, 1) := by decide +kernel
theorem dX5_take_9 : decode cX5_take 9 = .ok (.iconst 2, 1) := by decide +kernel
theorem dX5_take_10 : decode cX5_take 10 = .ok (.if_icmp .eq 25, 3) := by decide +kernel
theorem dX5_take_13 : decode cX5_take 13 = .ok (.aload_n 0, 1) := by decide +kernel
theorem dX5_take_14 : decode cX5_take 14 = .ok (.dup, 1) := by decide +kernel
theorem dX5_take_15 : decode cX5_take 15 = .ok (.getfield 21, 3) := by decide +kernel
theorem dX5_take_18 : decode cX5_take 18 = .ok (.iconst 2, 1) := by decide +kernel
theorem dX5_take_19 : decode cX5_take 19 = .ok (.iadd, 1) := by decide +kernel
theorem dX5_take_20 : decode cX5_take 20 = .ok (.putfield 21, 3) := by decide +kernel
theorem dX5_take_23 : decode cX5_take 23 = .ok (.aload_n 0, 1) := by decide +kernel
theorem dX5_take_24 : decode cX5_take 24 = .ok (.getfield 52, 3) := by decide +kernel
theorem dX5_take_27 : decode cX5_take 27 = .ok (.aload_n 0, 1) := by decide +kernel
theorem dX5_take_28 : decode cX5_take 28 = .ok (.getfield 21, 3) := by decide +kernel
theorem dX5_take_31 : decode cX5_take 31 = .ok (.iconst 1, 1) := by decide +kernel
theorem dX5_take_32 : decode cX5_take 32 = .ok (.isub, 1) := by decide +kernel
theorem dX5_take_33 : decode cX5_take 33 = .ok (.iaload, 1) := by decide +kernel
theorem dX5_take_34 : decode cX5_take 34 = .ok (.ireturn, 1) := by decide +kernel
theorem dX5_take_35 : decode cX5_take 35 = .ok (.aload_n 0, 1) := by decide +kernel
theorem dX5_take_36 : decode cX5_take 36 = .ok (.dup, 1) := by decide +kernel
theorem dX5_take_37 : decode cX5_take 37 = .ok (.getfield 21, 3) := by decide +kernel
theorem dX5_take_40 : decode cX5_take 40 = .ok (.iconst 1, 1) := by decide +kernel
theorem dX5_take_41 : decode cX5_take 41 = .ok (.iadd, 1) := by decide +kernel
theorem dX5_take_42 : decode cX5_take 42 = .ok (.putfield 21, 3) := by decide +kernel
theorem dX5_take_45 : decode cX5_take 45 = .ok (.aload_n 0, 1) := by decide +kernel
theorem dX5_take_46 : decode cX5_take 46 = .ok (.iload_n 1, 1) := by decide +kernel
theorem dX5_take_47 : decode cX5_take 47 = .ok (.invokevirtual 103, 3) := by decide +kernel
theorem dX5_take_50 : decode cX5_take 50 = .ok (.istore_n 2, 1) := by decide +kernel
theorem dX5_take_51 : decode cX5_take 51 = .ok (.aload_n 0, 1) := by decide +kernel
theorem dX5_take_52 : decode cX5_take 52 = .ok (.getfield 27, 3) := by decide +kernel
theorem dX5_take_55 : decode cX5_take 55 = .ok (.ifCond .eq 7, 3) := by decide +kernel
theorem dX5_take_58 : decode cX5_take 58 = .ok (.sipush 3047, 3) := by decide +kernel
theorem dX5_take_61 : decode cX5_take 61 = .ok (.ireturn, 1) := by decide +kernel
theorem dX5_take_62 : decode cX5_take 62 = .ok (.aload_n 0, 1) := by decide +kernel
theorem dX5_take_63 : decode cX5_take 63 = .ok (.getfield 52, 3) := by decide +kernel
theorem dX5_take_66 : decode cX5_take 66 = .ok (.aload_n 0, 1) := by decide +kernel
theorem dX5_take_67 : decode cX5_take 67 = .ok (.getfield 21, 3) := by decide +kernel
theorem dX5_take_70 : decode cX5_take 70 = .ok (.iaload, 1) := by decide +kernel
theorem dX5_take_71 : decode cX5_take 71 = .ok (.iconst 1, 1) := by decide +kernel
theorem dX5_take_72 : decode cX5_take 72 = .ok (.if_icmp .ne 7, 3) := by decide +kernel
theorem dX5_take_75 : decode cX5_take 75 = .ok (.iconst 1, 1) := by decide +kernel
theorem dX5_take_76 : decode cX5_take 76 = .ok (.goto 4, 3) := by decide +kernel
theorem dX5_take_79 : decode cX5_take 79 = .ok (.iconst 0, 1) := by decide +kernel
theorem dX5_take_80 : decode cX5_take 80 = .ok (.istore_n 3, 1) := by decide +kernel
theorem dX5_take_81 : decode cX5_take 81 = .ok (.aload_n 0, 1) := by decide +kernel
theorem dX5_take_82 : decode cX5_take 82 = .ok (.getfield 52, 3) := by decide +kernel
theorem dX5_take_85 : decode cX5_take 85 = .ok (.aload_n 0, 1) := by decide +kernel
theorem dX5_take_86 : decode cX5_take 86 = .ok (.getfield 21, 3) := by decide +kernel
theorem dX5_take_89 : decode cX5_take 89 = .ok (.iconst 1, 1) := by decide +kernel
theorem dX5_take_90 : decode cX5_take 90 = .ok (.iadd, 1) := by decide +kernel
theorem dX5_take_91 : decode cX5_take 91 = .ok (.iaload, 1) := by decide +kernel
theorem dX5_take_92 : decode cX5_take 92 = .ok (.istore 4, 2) := by decide +kernel
theorem dX5_take_94 : decode cX5_take 94 = .ok (.aload_n 0, 1) := by decide +kernel
theorem dX5_take_95 : decode cX5_take 95 = .ok (.dup, 1) := by decide +kernel
theorem dX5_take_96 : decode cX5_take 96 = .ok (.getfield 21, 3) := by decide +kernel
theorem dX5_take_99 : decode cX5_take 99 = .ok (.iconst 2, 1) := by decide +kernel
theorem dX5_take_100 : decode cX5_take 100 = .ok (.iadd, 1) := by decide +kernel
theorem dX5_take_101 : decode cX5_take 101 = .ok (.putfield 21, 3) := by decide +kernel
theorem dX5_take_104 : decode cX5_take 104 = .ok (.aload_n 0, 1) := by decide +kernel
theorem dX5_take_105 : decode cX5_take 105 = .ok (.getfield 33, 3) := by decide +kernel
theorem dX5_take_108 : decode cX5_take 108 = .ok (.iload_n 2, 1) := by decide +kernel
theorem dX5_take_109 : decode cX5_take 109 = .ok (.invokevirtual 118, 3) := by decide +kernel
theorem dX5_take_112 : decode cX5_take 112 = .ok (.istore 5, 2) := by decide +kernel
theorem dX5_take_114 : decode cX5_take 114 = .ok (.iload_n 3, 1) := by decide +kernel
theorem dX5_take_115 : decode cX5_take 115 = .ok (.ifCond .eq 15, 3) := by decide +kernel
theorem dX5_take_118 : decode cX5_take 118 = .ok (.aload_n 0, 1) := by decide +kernel
theorem dX5_take_119 : decode cX5_take 119 = .ok (.iload 5, 2) := by decide +kernel
theorem dX5_take_121 : decode cX5_take 121 = .ok (.iload 4, 2) := by decide +kernel
theorem dX5_take_123 : decode cX5_take 123 = .ok (.iload_n 1, 1) := by decide +kernel
theorem dX5_take_124 : decode cX5_take 124 = .ok (.invokevirtual 128, 3) := by decide +kernel
theorem dX5_take_127 : decode cX5_take 127 = .ok (.goto 5, 3) := by decide +kernel
theorem dX5_take_130 : decode cX5_take 130 = .ok (.iload 5, 2) := by decide +kernel
theorem dX5_take_132 : decode cX5_take 132 = .ok (.ireturn, 1) := by decide +kernel
theorem dX5_whenAct_0 : decode cX5_whenAct 0 = .ok (.aload_n 0, 1) := by decide +kernel
theorem dX5_whenAct_1 : decode cX5_whenAct 1 = .ok (.iload_n 1, 1) := by decide +kernel
theorem dX5_whenAct_2 : decode cX5_whenAct 2 = .ok (.invokevirtual 80, 3) := by decide +kernel
theorem dX5_whenAct_5 : decode cX5_whenAct 5 = .ok (.ifCond .ne 5, 3) := by decide +kernel
theorem dX5_whenAct_8 : decode cX5_whenAct 8 = .ok (.iload_n 1, 1) := by decide +kernel
theorem dX5_whenAct_9 : decode cX5_whenAct 9 = .ok (.ireturn, 1) := by decide +kernel
theorem dX5_whenAct_10 : decode cX5_whenAct 10 = .ok (.aload_n 0, 1) := by decide +kernel
theorem dX5_whenAct_11 : decode cX5_whenAct 11 = .ok (.iload_n 1, 1) := by decide +kernel
theorem dX5_whenAct_12 : decode cX5_whenAct 12 = .ok (.iconst 3, 1) := by decide +kernel
theorem dX5_whenAct_13 : decode cX5_whenAct 13 = .ok (.iadd, 1) := by decide +kernel
theorem dX5_whenAct_14 : decode cX5_whenAct 14 = .ok (.putfield 21, 3) := by decide +kernel
theorem dX5_whenAct_17 : decode cX5_whenAct 17 = .ok (.aload_n 0, 1) := by decide +kernel
theorem dX5_whenAct_18 : decode cX5_whenAct 18 = .ok (.iload_n 1, 1) := by decide +kernel
theorem dX5_whenAct_19 : decode cX5_whenAct 19 = .ok (.invokevirtual 96, 3) := by decide +kernel
theorem dX5_whenAct_22 : decode cX5_whenAct 22 = .ok (.istore_n 2, 1) := by decide +kernel
theorem dX5_whenAct_23 : decode cX5_whenAct 23 = .ok (.aload_n 0, 1) := by decide +kernel
theorem dX5_whenAct_24 : decode cX5_whenAct 24 = .ok (.getfield 27, 3) := by decide +kernel
theorem dX5_whenAct_27 : decode cX5_whenAct 27 = .ok (.ifCond .ne 11, 3) := by decide +kernel
theorem dX5_whenAct_30 : decode cX5_whenAct 30 = .ok (.aload_n 0, 1) := by decide +kernel
theorem dX5_whenAct_31 : decode cX5_whenAct 31 = .ok (.iload_n 1, 1) := by decide +kernel
theorem dX5_whenAct_32 : decode cX5_whenAct 32 = .ok (.invokevirtual 96, 3) := by decide +kernel
theorem dX5_whenAct_35 : decode cX5_whenAct 35 = .ok (.goto 6, 3) := by decide +kernel
theorem dX5_whenAct_38 : decode cX5_whenAct 38 = .ok (.sipush 3047, 3) := by decide +kernel
theorem dX5_whenAct_41 : decode cX5_whenAct 41 = .ok (.istore_n 3, 1) := by decide +kernel
theorem dX5_whenAct_42 : decode cX5_whenAct 42 = .ok (.aload_n 0, 1) := by decide +kernel
theorem dX5_whenAct_43 : decode cX5_whenAct 43 = .ok (.getfield 27, 3) := by decide +kernel
theorem dX5_whenAct_46 : decode cX5_whenAct 46 = .ok (.ifCond .eq 5, 3) := by decide +kernel
theorem dX5_whenAct_49 : decode cX5_whenAct 49 = .ok (.iload_n 1, 1) := by decide +kernel
theorem dX5_whenAct_50 : decode cX5_whenAct 50 = .ok (.ireturn, 1) := by decide +kernel
theorem dX5_whenAct_51 : decode cX5_whenAct 51 = .ok (.aload_n 0, 1) := by decide +kernel
theorem dX5_whenAct_52 : decode cX5_whenAct 52 = .ok (.dup, 1) := by decide +kernel
theorem dX5_whenAct_53 : decode cX5_whenAct 53 = .ok (.getfield 24, 3) := by decide +kernel
theorem dX5_whenAct_56 : decode cX5_whenAct 56 = .ok (.iconst 1, 1) := by decide +kernel
theorem dX5_whenAct_57 : decode cX5_whenAct 57 = .ok (.iadd, 1) := by decide +kernel
theorem dX5_whenAct_58 : decode cX5_whenAct 58 = .ok (.putfield 24, 3) := by decide +kernel
theorem dX5_whenAct_61 : decode cX5_whenAct 61 = .ok (.iload_n 2, 1) := by decide +kernel
theorem dX5_whenAct_62 : decode cX5_whenAct 62 = .ok (.iload_n 3, 1) := by decide +kernel
theorem dX5_whenAct_63 : decode cX5_whenAct 63 = .ok (.if_icmp .ne 10, 3) := by decide +kernel
theorem dX5_whenAct_66 : decode cX5_whenAct 66 = .ok (.aload_n 0, 1) := by decide +kernel
theorem dX5_whenAct_67 : decode cX5_whenAct 67 = .ok (.getfield 21, 3) := by decide +kernel
theorem dX5_whenAct_70 : decode cX5_whenAct 70 = .ok (.goto 11, 3) := by decide +kernel
theorem dX5_whenAct_73 : decode cX5_whenAct 73 = .ok (.aload_n 0, 1) := by decide +kernel
theorem dX5_whenAct_74 : decode cX5_whenAct 74 = .ok (.getfield 52, 3) := by decide +kernel
theorem dX5_whenAct_77 : decode cX5_whenAct 77 = .ok (.iload_n 1, 1) := by decide +kernel
theorem dX5_whenAct_78 : decode cX5_whenAct 78 = .ok (.iconst 2, 1) := by decide +kernel
theorem dX5_whenAct_79 : decode cX5_whenAct 79 = .ok (.iadd, 1) := by decide +kernel
theorem dX5_whenAct_80 : decode cX5_whenAct 80 = .ok (.iaload, 1) := by decide +kernel
theorem dX5_whenAct_81 : decode cX5_whenAct 81 = .ok (.ireturn, 1) := by decide +kernel
theorem dX6_addressOf_0 : decode cX6_addressOf 0 = .ok (.iload_n 0, 1) := by decide +kernel
theorem dX6_addressOf_1 : decode cX6_addressOf 1 = .ok (.sipush 248, 3) := by decide +kernel
theorem dX6_addressOf_4 : decode cX6_addressOf 4 = .ok (.if_icmp .lt 11, 3) := by decide +kernel
theorem dX6_addressOf_7 : decode cX6_addressOf 7 = .ok (.iload_n 0, 1) := by decide +kernel
theorem dX6_addressOf_8 : decode cX6_addressOf 8 = .ok (.sipush 256, 3) := by decide +kernel
theorem dX6_addressOf_11 : decode cX6_addressOf 11 = .ok (.isub, 1) := by decide +kernel
theorem dX6_addressOf_12 : decode cX6_addressOf 12 = .ok (.goto 4, 3) := by decide +kernel
theorem dX6_addressOf_15 : decode cX6_addressOf 15 = .ok (.iload_n 0, 1) := by decide +kernel
theorem dX6_addressOf_16 : decode cX6_addressOf 16 = .ok (.ireturn, 1) := by decide +kernel
theorem dX6_init_0 : decode cX6_init 0 = .ok (.aload_n 0, 1) := by decide +kernel
theorem dX6_init_1 : decode cX6_init 1 = .ok (.invokespecial 3, 3) := by decide +kernel
theorem dX6_init_4 : decode cX6_init 4 = .ok (.aload_n 0, 1) := by decide +kernel
theorem dX6_init_5 : decode cX6_init 5 = .ok (.new 9, 3) := by decide +kernel
theorem dX6_init_8 : decode cX6_init 8 = .ok (.dup, 1) := by decide +kernel
theorem dX6_init_9 : decode cX6_init 9 = .ok (.invokespecial 11, 3) := by decide +kernel
theorem dX6_init_12 : decode cX6_init 12 = .ok (.putfield 12, 3) := by decide +kernel
theorem dX6_init_15 : decode cX6_init 15 = .ok (.aload_n 0, 1) := by decide +kernel
theorem dX6_init_16 : decode cX6_init 16 = .ok (.bipush 16, 2) := by decide +kernel
theorem dX6_init_18 : decode cX6_init 18 = .ok (.newarray .int, 2) := by decide +kernel
theorem dX6_init_20 : decode cX6_init 20 = .ok (.putfield 18, 3) := by decide +kernel
theorem dX6_init_23 : decode cX6_init 23 = .ok (.aload_n 0, 1) := by decide +kernel
theorem dX6_init_24 : decode cX6_init 24 = .ok (.bipush 16, 2) := by decide +kernel
theorem dX6_init_26 : decode cX6_init 26 = .ok (.newarray .int, 2) := by decide +kernel
theorem dX6_init_28 : decode cX6_init 28 = .ok (.putfield 22, 3) := by decide +kernel
theorem dX6_init_31 : decode cX6_init 31 = .ok (.aload_n 0, 1) := by decide +kernel
theorem dX6_init_32 : decode cX6_init 32 = .ok (.iconst 0, 1) := by decide +kernel
theorem dX6_init_33 : decode cX6_init 33 = .ok (.putfield 25, 3) := by decide +kernel
theorem dX6_init_36 : decode cX6_init 36 = .ok (.aload_n 0, 1) := by decide +kernel
theorem dX6_init_37 : decode cX6_init 37 = .ok (.sipush 331, 3) := by decide +kernel
theorem dX6_init_40 : decode cX6_init 40 = .ok (.newarray .int, 2) := by decide +kernel
theorem dX6_init_42 : decode cX6_init 42 = .ok (.putfield 29, 3) := by decide +kernel
theorem dX6_init_45 : decode cX6_init 45 = .ok (.aload_n 0, 1) := by decide +kernel
theorem dX6_init_46 : decode cX6_init 46 = .ok (.iconst 0, 1) := by decide +kernel
theorem dX6_init_47 : decode cX6_init 47 = .ok (.putfield 32, 3) := by decide +kernel
theorem dX6_init_50 : decode cX6_init 50 = .ok (.aload_n 0, 1) := by decide +kernel
theorem dX6_init_51 : decode cX6_init 51 = .ok (.iconst (-1), 1) := by decide +kernel
theorem dX6_init_52 : decode cX6_init 52 = .ok (.putfield 35, 3) := by decide +kernel
theorem dX6_init_55 : decode cX6_init 55 = .ok (.aload_n 0, 1) := by decide +kernel
theorem dX6_init_56 : decode cX6_init 56 = .ok (.iconst (-1), 1) := by decide +kernel
theorem dX6_init_57 : decode cX6_init 57 = .ok (.putfield 38, 3) := by decide +kernel
theorem dX6_init_60 : decode cX6_init 60 = .ok (.aload_n 0, 1) := by decide +kernel
theorem dX6_init_61 : decode cX6_init 61 = .ok (.aconst_null, 1) := by decide +kernel
theorem dX6_init_62 : decode cX6_init 62 = .ok (.putfield 41, 3) := by decide +kernel
theorem dX6_init_65 : decode cX6_init 65 = .ok (.aload_n 0, 1) := by decide +kernel
theorem dX6_init_66 : decode cX6_init 66 = .ok (.aconst_null, 1) := by decide +kernel
theorem dX6_init_67 : decode cX6_init 67 = .ok (.putfield 44, 3) := by decide +kernel
theorem dX6_init_70 : decode cX6_init 70 = .ok (.aload_n 0, 1) := by decide +kernel
theorem dX6_init_71 : decode cX6_init 71 = .ok (.aload_n 1, 1) := by decide +kernel
theorem dX6_init_72 : decode cX6_init 72 = .ok (.putfield 47, 3) := by decide +kernel
theorem dX6_init_75 : decode cX6_init 75 = .ok (.return_, 1) := by decide +kernel
theorem dX6_isAsSeen_0 : decode cX6_isAsSeen 0 = .ok (.iconst 0, 1) := by decide +kernel
theorem dX6_isAsSeen_1 : decode cX6_isAsSeen 1 = .ok (.istore_n 1, 1) := by decide +kernel
theorem dX6_isAsSeen_2 : decode cX6_isAsSeen 2 = .ok (.iload_n 1, 1) := by decide +kernel
theorem dX6_isAsSeen_3 : decode cX6_isAsSeen 3 = .ok (.aload_n 0, 1) := by decide +kernel
theorem dX6_isAsSeen_4 : decode cX6_isAsSeen 4 = .ok (.getfield 25, 3) := by decide +kernel
theorem dX6_isAsSeen_7 : decode cX6_isAsSeen 7 = .ok (.if_icmp .ge 37, 3) := by decide +kernel
theorem dX6_isAsSeen_10 : decode cX6_isAsSeen 10 = .ok (.aload_n 0, 1) := by decide +kernel
theorem dX6_isAsSeen_11 : decode cX6_isAsSeen 11 = .ok (.getfield 12, 3) := by decide +kernel
theorem dX6_isAsSeen_14 : decode cX6_isAsSeen 14 = .ok (.getfield 96, 3) := by decide +kernel
theorem dX6_isAsSeen_17 : decode cX6_isAsSeen 17 = .ok (.bipush 8, 2) := by decide +kernel
theorem dX6_isAsSeen_19 : decode cX6_isAsSeen 19 = .ok (.aload_n 0, 1) := by decide +kernel
theorem dX6_isAsSeen_20 : decode cX6_isAsSeen 20 = .ok (.getfield 18, 3) := by decide +kernel
theorem dX6_isAsSeen_23 : decode cX6_isAsSeen 23 = .ok (.iload_n 1, 1) := by decide +kernel
theorem dX6_isAsSeen_24 : decode cX6_isAsSeen 24 = .ok (.iaload, 1) := by decide +kernel
theorem dX6_isAsSeen_25 : decode cX6_isAsSeen 25 = .ok (.iadd, 1) := by decide +kernel
theorem dX6_isAsSeen_26 : decode cX6_isAsSeen 26 = .ok (.iaload, 1) := by decide +kernel
theorem dX6_isAsSeen_27 : decode cX6_isAsSeen 27 = .ok (.aload_n 0, 1) := by decide +kernel
theorem dX6_isAsSeen_28 : decode cX6_isAsSeen 28 = .ok (.getfield 22, 3) := by decide +kernel
theorem dX6_isAsSeen_31 : decode cX6_isAsSeen 31 = .ok (.iload_n 1, 1) := by decide +kernel
theorem dX6_isAsSeen_32 : decode cX6_isAsSeen 32 = .ok (.iaload, 1) := by decide +kernel
theorem dX6_isAsSeen_33 : decode cX6_isAsSeen 33 = .ok (.if_icmp .eq 5, 3) := by decide +kernel
theorem dX6_isAsSeen_36 : decode cX6_isAsSeen 36 = .ok (.iconst 0, 1) := by decide +kernel
theorem dX6_isAsSeen_37 : decode cX6_isAsSeen 37 = .ok (.ireturn, 1) := by decide +kernel
theorem dX6_isAsSeen_38 : decode cX6_isAsSeen 38 = .ok (.iinc 1 1, 3) := by decide +kernel
theorem dX6_isAsSeen_41 : decode cX6_isAsSeen 41 = .ok (.goto (-39), 3) := by decide +kernel
theorem dX6_isAsSeen_44 : decode cX6_isAsSeen 44 = .ok (.iconst 1, 1) := by decide +kernel
theorem dX6_isAsSeen_45 : decode cX6_isAsSeen 45 = .ok (.ireturn, 1) := by decide +kernel
theorem dX6_isRow_0 : decode cX6_isRow 0 = .ok (.aload_n 0, 1) := by decide +kernel
theorem dX6_isRow_1 : decode cX6_isRow 1 = .ok (.iload_n 1, 1) := by decide +kernel
theorem dX6_isRow_2 : decode cX6_isRow 2 = .ok (.iconst 2, 1) := by decide +kernel
theorem dX6_isRow_3 : decode cX6_isRow 3 = .ok (.iadd, 1) := by decide +kernel
theorem dX6_isRow_4 : decode cX6_isRow 4 = .ok (.invokestatic 67, 3) := by decide +kernel
theorem dX6_isRow_7 : decode cX6_isRow 7 = .ok (.sipush 1000, 3) := by decide +kernel
theorem dX6_isRow_10 : decode cX6_isRow 10 = .ok (.isub, 1) := by decide +kernel
theorem dX6_isRow_11 : decode cX6_isRow 11 = .ok (.istore 4, 2) := by decide +kernel
theorem dX6_isRow_13 : decode cX6_isRow 13 = .ok (.aload_n 0, 1) := by decide +kernel
theorem dX6_isRow_14 : decode cX6_isRow 14 = .ok (.iload_n 1, 1) := by decide +kernel
theorem dX6_isRow_15 : decode cX6_isRow 15 = .ok (.iaload, 1) := by decide +kernel
theorem dX6_isRow_16 : decode cX6_isRow 16 = .ok (.invokestatic 63, 3) := by decide +kernel
theorem dX6_isRow_19 : decode cX6_isRow 19 = .ok (.iload_n 2, 1) := by decide +kernel
theorem dX6_isRow_20 : decode cX6_isRow 20 = .ok (.if_icmp .lt 5, 3) := by decide +kernel
theorem dX6_isRow_23 : decode cX6_isRow 23 = .ok (.iconst 0, 1) := by decide +kernel
theorem dX6_isRow_24 : decode cX6_isRow 24 = .ok (.ireturn, 1) := by decide +kernel
theorem dX6_isRow_25 : decode cX6_isRow 25 = .ok (.aload_n 0, 1) := by decide +kernel
theorem dX6_isRow_26 : decode cX6_isRow 26 = .ok (.iload_n 1, 1) := by decide +kernel
theorem dX6_isRow_27 : decode cX6_isRow 27 = .ok (.iconst 1, 1) := by decide +kernel
theorem dX6_isRow_28 : decode cX6_isRow 28 = .ok (.iadd, 1) := by decide +kernel
theorem dX6_isRow_29 : decode cX6_isRow 29 = .ok (.iaload, 1) := by decide +kernel
theorem dX6_isRow_30 : decode cX6_isRow 30 = .ok (.tableswitch 106 0 3 #[30, 52, 70, 87], 30) := by decide +kernel
theorem dX6_isRow_60 : decode cX6_isRow 60 = .ok (.iload 4, 2) := by decide +kernel
theorem dX6_isRow_62 : decode cX6_isRow 62 = .ok (.sipush (-999), 3) := by decide +kernel
theorem dX6_isRow_65 : decode cX6_isRow 65 = .ok (.if_icmp .lt 15, 3) := by decide +kernel
theorem dX6_isRow_68 : decode cX6_isRow 68 = .ok (.iload 4, 2) := by decide +kernel
theorem dX6_isRow_70 : decode cX6_isRow 70 = .ok (.sipush 999, 3) := by decide +kernel
