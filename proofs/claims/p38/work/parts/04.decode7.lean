theorem dX9_writeShape_16 : decode cX9_writeShape 16 = .ok (.getfield 57, 3) := by decide +kernel
theorem dX9_writeShape_19 : decode cX9_writeShape 19 = .ok (.iload 4, 2) := by decide +kernel
theorem dX9_writeShape_21 : decode cX9_writeShape 21 = .ok (.iaload, 1) := by decide +kernel
theorem dX9_writeShape_22 : decode cX9_writeShape 22 = .ok (.invokevirtual 96, 3) := by decide +kernel
theorem dX9_writeShape_25 : decode cX9_writeShape 25 = .ok (.iastore, 1) := by decide +kernel
theorem dX9_writeShape_26 : decode cX9_writeShape 26 = .ok (.iinc 3 1, 3) := by decide +kernel
theorem dX9_writeShape_29 : decode cX9_writeShape 29 = .ok (.iinc 4 1, 3) := by decide +kernel
theorem dX9_writeShape_32 : decode cX9_writeShape 32 = .ok (.goto (-27), 3) := by decide +kernel
theorem dX9_writeShape_35 : decode cX9_writeShape 35 = .ok (.iconst 0, 1) := by decide +kernel
theorem dX9_writeShape_36 : decode cX9_writeShape 36 = .ok (.istore 4, 2) := by decide +kernel
theorem dX9_writeShape_38 : decode cX9_writeShape 38 = .ok (.iload 4, 2) := by decide +kernel
theorem dX9_writeShape_40 : decode cX9_writeShape 40 = .ok (.aload_n 0, 1) := by decide +kernel
theorem dX9_writeShape_41 : decode cX9_writeShape 41 = .ok (.getfield 33, 3) := by decide +kernel
theorem dX9_writeShape_44 : decode cX9_writeShape 44 = .ok (.if_icmp .ge 75, 3) := by decide +kernel
theorem dX9_writeShape_47 : decode cX9_writeShape 47 = .ok (.aload_n 0, 1) := by decide +kernel
theorem dX9_writeShape_48 : decode cX9_writeShape 48 = .ok (.getfield 43, 3) := by decide +kernel
theorem dX9_writeShape_51 : decode cX9_writeShape 51 = .ok (.aload_n 1, 1) := by decide +kernel
theorem dX9_writeShape_52 : decode cX9_writeShape 52 = .ok (.aload_n 0, 1) := by decide +kernel
theorem dX9_writeShape_53 : decode cX9_writeShape 53 = .ok (.getfield 18, 3) := by decide +kernel
theorem dX9_writeShape_56 : decode cX9_writeShape 56 = .ok (.iload 4, 2) := by decide +kernel
theorem dX9_writeShape_58 : decode cX9_writeShape 58 = .ok (.iaload, 1) := by decide +kernel
theorem dX9_writeShape_59 : decode cX9_writeShape 59 = .ok (.invokevirtual 93, 3) := by decide +kernel
theorem dX9_writeShape_62 : decode cX9_writeShape 62 = .ok (.invokevirtual 99, 3) := by decide +kernel
theorem dX9_writeShape_65 : decode cX9_writeShape 65 = .ok (.istore 5, 2) := by decide +kernel
theorem dX9_writeShape_67 : decode cX9_writeShape 67 = .ok (.iconst 0, 1) := by decide +kernel
theorem dX9_writeShape_68 : decode cX9_writeShape 68 = .ok (.istore 6, 2) := by decide +kernel
theorem dX9_writeShape_70 : decode cX9_writeShape 70 = .ok (.iload 6, 2) := by decide +kernel
theorem dX9_writeShape_72 : decode cX9_writeShape 72 = .ok (.iload 5, 2) := by decide +kernel
theorem dX9_writeShape_74 : decode cX9_writeShape 74 = .ok (.if_icmp .ge 39, 3) := by decide +kernel
theorem dX9_writeShape_77 : decode cX9_writeShape 77 = .ok (.iload_n 3, 1) := by decide +kernel
theorem dX9_writeShape_78 : decode cX9_writeShape 78 = .ok (.aload_n 2, 1) := by decide +kernel
theorem dX9_writeShape_79 : decode cX9_writeShape 79 = .ok (.arraylength, 1) := by decide +kernel
theorem dX9_writeShape_80 : decode cX9_writeShape 80 = .ok (.if_icmp .ge 33, 3) := by decide +kernel
theorem dX9_writeShape_83 : decode cX9_writeShape 83 = .ok (.aload_n 2, 1) := by decide +kernel
theorem dX9_writeShape_84 : decode cX9_writeShape 84 = .ok (.iload_n 3, 1) := by decide +kernel
theorem dX9_writeShape_85 : decode cX9_writeShape 85 = .ok (.aload_n 0, 1) := by decide +kernel
theorem dX9_writeShape_86 : decode cX9_writeShape 86 = .ok (.aload_n 1, 1) := by decide +kernel
theorem dX9_writeShape_87 : decode cX9_writeShape 87 = .ok (.aload_n 0, 1) := by decide +kernel
theorem dX9_writeShape_88 : decode cX9_writeShape 88 = .ok (.getfield 18, 3) := by decide +kernel
theorem dX9_writeShape_91 : decode cX9_writeShape 91 = .ok (.iload 4, 2) := by decide +kernel
theorem dX9_writeShape_93 : decode cX9_writeShape 93 = .ok (.iaload, 1) := by decide +kernel
theorem dX9_writeShape_94 : decode cX9_writeShape 94 = .ok (.iload 6, 2) := by decide +kernel
theorem dX9_writeShape_96 : decode cX9_writeShape 96 = .ok (.iadd, 1) := by decide +kernel
theorem dX9_writeShape_97 : decode cX9_writeShape 97 = .ok (.invokevirtual 93, 3) := by decide +kernel
theorem dX9_writeShape_100 : decode cX9_writeShape 100 = .ok (.invokevirtual 96, 3) := by decide +kernel
theorem dX9_writeShape_103 : decode cX9_writeShape 103 = .ok (.iastore, 1) := by decide +kernel
theorem dX9_writeShape_104 : decode cX9_writeShape 104 = .ok (.iinc 3 1, 3) := by decide +kernel
theorem dX9_writeShape_107 : decode cX9_writeShape 107 = .ok (.iinc 6 1, 3) := by decide +kernel
theorem dX9_writeShape_110 : decode cX9_writeShape 110 = .ok (.goto (-40), 3) := by decide +kernel
theorem dX9_writeShape_113 : decode cX9_writeShape 113 = .ok (.iinc 4 1, 3) := by decide +kernel
theorem dX9_writeShape_116 : decode cX9_writeShape 116 = .ok (.goto (-78), 3) := by decide +kernel
theorem dX9_writeShape_119 : decode cX9_writeShape 119 = .ok (.iload_n 3, 1) := by decide +kernel
theorem dX9_writeShape_120 : decode cX9_writeShape 120 = .ok (.ireturn, 1) := by decide +kernel
