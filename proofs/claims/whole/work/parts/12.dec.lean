theorem dX7_weigh_0 : decode cX7_weigh 0 = .ok (.iconst 0, 1) := by decide +kernel
theorem dX7_weigh_1 : decode cX7_weigh 1 = .ok (.istore_n 3, 1) := by decide +kernel
theorem dX7_weigh_2 : decode cX7_weigh 2 = .ok (.iload_n 3, 1) := by decide +kernel
theorem dX7_weigh_3 : decode cX7_weigh 3 = .ok (.iload_n 1, 1) := by decide +kernel
theorem dX7_weigh_4 : decode cX7_weigh 4 = .ok (.if_icmp .ge 96, 3) := by decide +kernel
theorem dX7_weigh_7 : decode cX7_weigh 7 = .ok (.aload_n 0, 1) := by decide +kernel
theorem dX7_weigh_8 : decode cX7_weigh 8 = .ok (.getfield 9, 3) := by decide +kernel
theorem dX7_weigh_11 : decode cX7_weigh 11 = .ok (.iload_n 3, 1) := by decide +kernel
theorem dX7_weigh_12 : decode cX7_weigh 12 = .ok (.iaload, 1) := by decide +kernel
theorem dX7_weigh_13 : decode cX7_weigh 13 = .ok (.istore 4, 2) := by decide +kernel
theorem dX7_weigh_15 : decode cX7_weigh 15 = .ok (.bipush (-60), 2) := by decide +kernel
theorem dX7_weigh_17 : decode cX7_weigh 17 = .ok (.istore 5, 2) := by decide +kernel
theorem dX7_weigh_19 : decode cX7_weigh 19 = .ok (.aload_n 0, 1) := by decide +kernel
theorem dX7_weigh_20 : decode cX7_weigh 20 = .ok (.getfield 30, 3) := by decide +kernel
theorem dX7_weigh_23 : decode cX7_weigh 23 = .ok (.getfield 56, 3) := by decide +kernel
theorem dX7_weigh_26 : decode cX7_weigh 26 = .ok (.iload 4, 2) := by decide +kernel
theorem dX7_weigh_28 : decode cX7_weigh 28 = .ok (.iaload, 1) := by decide +kernel
theorem dX7_weigh_29 : decode cX7_weigh 29 = .ok (.istore 6, 2) := by decide +kernel
theorem dX7_weigh_31 : decode cX7_weigh 31 = .ok (.iload 6, 2) := by decide +kernel
theorem dX7_weigh_33 : decode cX7_weigh 33 = .ok (.aload_n 0, 1) := by decide +kernel
theorem dX7_weigh_34 : decode cX7_weigh 34 = .ok (.getfield 30, 3) := by decide +kernel
theorem dX7_weigh_37 : decode cX7_weigh 37 = .ok (.getfield 56, 3) := by decide +kernel
theorem dX7_weigh_40 : decode cX7_weigh 40 = .ok (.iload 4, 2) := by decide +kernel
theorem dX7_weigh_42 : decode cX7_weigh 42 = .ok (.iconst 1, 1) := by decide +kernel
theorem dX7_weigh_43 : decode cX7_weigh 43 = .ok (.iadd, 1) := by decide +kernel
theorem dX7_weigh_44 : decode cX7_weigh 44 = .ok (.iaload, 1) := by decide +kernel
theorem dX7_weigh_45 : decode cX7_weigh 45 = .ok (.if_icmp .ge 41, 3) := by decide +kernel
theorem dX7_weigh_48 : decode cX7_weigh 48 = .ok (.aload_n 0, 1) := by decide +kernel
theorem dX7_weigh_49 : decode cX7_weigh 49 = .ok (.getfield 30, 3) := by decide +kernel
theorem dX7_weigh_52 : decode cX7_weigh 52 = .ok (.getfield 59, 3) := by decide +kernel
theorem dX7_weigh_55 : decode cX7_weigh 55 = .ok (.iload 6, 2) := by decide +kernel
theorem dX7_weigh_57 : decode cX7_weigh 57 = .ok (.iaload, 1) := by decide +kernel
theorem dX7_weigh_58 : decode cX7_weigh 58 = .ok (.istore 7, 2) := by decide +kernel
theorem dX7_weigh_60 : decode cX7_weigh 60 = .ok (.iload 5, 2) := by decide +kernel
theorem dX7_weigh_62 : decode cX7_weigh 62 = .ok (.iload 7, 2) := by decide +kernel
theorem dX7_weigh_64 : decode cX7_weigh 64 = .ok (.invokestatic 66, 3) := by decide +kernel
theorem dX7_weigh_67 : decode cX7_weigh 67 = .ok (.aload_n 2, 1) := by decide +kernel
theorem dX7_weigh_68 : decode cX7_weigh 68 = .ok (.iload 7, 2) := by decide +kernel
theorem dX7_weigh_70 : decode cX7_weigh 70 = .ok (.invokestatic 62, 3) := by decide +kernel
theorem dX7_weigh_73 : decode cX7_weigh 73 = .ok (.iaload, 1) := by decide +kernel
theorem dX7_weigh_74 : decode cX7_weigh 74 = .ok (.isub, 1) := by decide +kernel
theorem dX7_weigh_75 : decode cX7_weigh 75 = .ok (.invokestatic 69, 3) := by decide +kernel
theorem dX7_weigh_78 : decode cX7_weigh 78 = .ok (.istore 5, 2) := by decide +kernel
theorem dX7_weigh_80 : decode cX7_weigh 80 = .ok (.iinc 6 1, 3) := by decide +kernel
theorem dX7_weigh_83 : decode cX7_weigh 83 = .ok (.goto (-52), 3) := by decide +kernel
theorem dX7_weigh_86 : decode cX7_weigh 86 = .ok (.aload_n 0, 1) := by decide +kernel
theorem dX7_weigh_87 : decode cX7_weigh 87 = .ok (.getfield 15, 3) := by decide +kernel
theorem dX7_weigh_90 : decode cX7_weigh 90 = .ok (.iload_n 3, 1) := by decide +kernel
theorem dX7_weigh_91 : decode cX7_weigh 91 = .ok (.iload 5, 2) := by decide +kernel
theorem dX7_weigh_93 : decode cX7_weigh 93 = .ok (.iastore, 1) := by decide +kernel
theorem dX7_weigh_94 : decode cX7_weigh 94 = .ok (.iinc 3 1, 3) := by decide +kernel
theorem dX7_weigh_97 : decode cX7_weigh 97 = .ok (.goto (-95), 3) := by decide +kernel
theorem dX7_weigh_100 : decode cX7_weigh 100 = .ok (.return_, 1) := by decide +kernel
theorem dX7_settle_0 : decode cX7_settle 0 = .ok (.iconst 0, 1) := by decide +kernel
theorem dX7_settle_1 : decode cX7_settle 1 = .ok (.istore 5, 2) := by decide +kernel
theorem dX7_settle_3 : decode cX7_settle 3 = .ok (.iconst 0, 1) := by decide +kernel
theorem dX7_settle_4 : decode cX7_settle 4 = .ok (.istore 6, 2) := by decide +kernel
theorem dX7_settle_6 : decode cX7_settle 6 = .ok (.iload 6, 2) := by decide +kernel
theorem dX7_settle_8 : decode cX7_settle 8 = .ok (.iload_n 1, 1) := by decide +kernel
theorem dX7_settle_9 : decode cX7_settle 9 = .ok (.if_icmp .ge 124, 3) := by decide +kernel
theorem dX7_settle_12 : decode cX7_settle 12 = .ok (.aload_n 0, 1) := by decide +kernel
theorem dX7_settle_13 : decode cX7_settle 13 = .ok (.getfield 9, 3) := by decide +kernel
theorem dX7_settle_16 : decode cX7_settle 16 = .ok (.iload 6, 2) := by decide +kernel
theorem dX7_settle_18 : decode cX7_settle 18 = .ok (.iaload, 1) := by decide +kernel
theorem dX7_settle_19 : decode cX7_settle 19 = .ok (.istore 7, 2) := by decide +kernel
theorem dX7_settle_21 : decode cX7_settle 21 = .ok (.aload_n 0, 1) := by decide +kernel
theorem dX7_settle_22 : decode cX7_settle 22 = .ok (.getfield 15, 3) := by decide +kernel
theorem dX7_settle_25 : decode cX7_settle 25 = .ok (.iload 6, 2) := by decide +kernel
theorem dX7_settle_27 : decode cX7_settle 27 = .ok (.iaload, 1) := by decide +kernel
theorem dX7_settle_28 : decode cX7_settle 28 = .ok (.aload_n 3, 1) := by decide +kernel
theorem dX7_settle_29 : decode cX7_settle 29 = .ok (.iload 7, 2) := by decide +kernel
theorem dX7_settle_31 : decode cX7_settle 31 = .ok (.iaload, 1) := by decide +kernel
theorem dX7_settle_32 : decode cX7_settle 32 = .ok (.if_icmp .eq 95, 3) := by decide +kernel
theorem dX7_settle_35 : decode cX7_settle 35 = .ok (.aload_n 3, 1) := by decide +kernel
theorem dX7_settle_36 : decode cX7_settle 36 = .ok (.iload 7, 2) := by decide +kernel
theorem dX7_settle_38 : decode cX7_settle 38 = .ok (.aload_n 0, 1) := by decide +kernel
theorem dX7_settle_39 : decode cX7_settle 39 = .ok (.getfield 15, 3) := by decide +kernel
theorem dX7_settle_42 : decode cX7_settle 42 = .ok (.iload 6, 2) := by decide +kernel
theorem dX7_settle_44 : decode cX7_settle 44 = .ok (.iaload, 1) := by decide +kernel
theorem dX7_settle_45 : decode cX7_settle 45 = .ok (.iastore, 1) := by decide +kernel
theorem dX7_settle_46 : decode cX7_settle 46 = .ok (.aload 4, 2) := by decide +kernel
theorem dX7_settle_48 : decode cX7_settle 48 = .ok (.iload 7, 2) := by decide +kernel
theorem dX7_settle_50 : decode cX7_settle 50 = .ok (.iload_n 2, 1) := by decide +kernel
theorem dX7_settle_51 : decode cX7_settle 51 = .ok (.iastore, 1) := by decide +kernel
theorem dX7_settle_52 : decode cX7_settle 52 = .ok (.aload_n 0, 1) := by decide +kernel
theorem dX7_settle_53 : decode cX7_settle 53 = .ok (.getfield 24, 3) := by decide +kernel
theorem dX7_settle_56 : decode cX7_settle 56 = .ok (.iload 7, 2) := by decide +kernel
theorem dX7_settle_58 : decode cX7_settle 58 = .ok (.iaload, 1) := by decide +kernel
theorem dX7_settle_59 : decode cX7_settle 59 = .ok (.istore 8, 2) := by decide +kernel
theorem dX7_settle_61 : decode cX7_settle 61 = .ok (.iload 8, 2) := by decide +kernel
theorem dX7_settle_63 : decode cX7_settle 63 = .ok (.aload_n 0, 1) := by decide +kernel
theorem dX7_settle_64 : decode cX7_settle 64 = .ok (.getfield 24, 3) := by decide +kernel
theorem dX7_settle_67 : decode cX7_settle 67 = .ok (.iload 7, 2) := by decide +kernel
theorem dX7_settle_69 : decode cX7_settle 69 = .ok (.iconst 1, 1) := by decide +kernel
theorem dX7_settle_70 : decode cX7_settle 70 = .ok (.iadd, 1) := by decide +kernel
theorem dX7_settle_71 : decode cX7_settle 71 = .ok (.iaload, 1) := by decide +kernel
theorem dX7_settle_72 : decode cX7_settle 72 = .ok (.if_icmp .ge 55, 3) := by decide +kernel
theorem dX7_settle_75 : decode cX7_settle 75 = .ok (.aload_n 0, 1) := by decide +kernel
theorem dX7_settle_76 : decode cX7_settle 76 = .ok (.getfield 21, 3) := by decide +kernel
theorem dX7_settle_79 : decode cX7_settle 79 = .ok (.aload_n 0, 1) := by decide +kernel
theorem dX7_settle_80 : decode cX7_settle 80 = .ok (.getfield 27, 3) := by decide +kernel
theorem dX7_settle_83 : decode cX7_settle 83 = .ok (.iload 8, 2) := by decide +kernel
theorem dX7_settle_85 : decode cX7_settle 85 = .ok (.iaload, 1) := by decide +kernel
theorem dX7_settle_86 : decode cX7_settle 86 = .ok (.iaload, 1) := by decide +kernel
theorem dX7_settle_87 : decode cX7_settle 87 = .ok (.iload_n 2, 1) := by decide +kernel
theorem dX7_settle_88 : decode cX7_settle 88 = .ok (.if_icmp .eq 33, 3) := by decide +kernel
theorem dX7_settle_91 : decode cX7_settle 91 = .ok (.aload_n 0, 1) := by decide +kernel
theorem dX7_settle_92 : decode cX7_settle 92 = .ok (.getfield 21, 3) := by decide +kernel
theorem dX7_settle_95 : decode cX7_settle 95 = .ok (.aload_n 0, 1) := by decide +kernel
theorem dX7_settle_96 : decode cX7_settle 96 = .ok (.getfield 27, 3) := by decide +kernel
theorem dX7_settle_99 : decode cX7_settle 99 = .ok (.iload 8, 2) := by decide +kernel
theorem dX7_settle_101 : decode cX7_settle 101 = .ok (.iaload, 1) := by decide +kernel
theorem dX7_settle_102 : decode cX7_settle 102 = .ok (.iload_n 2, 1) := by decide +kernel
theorem dX7_settle_103 : decode cX7_settle 103 = .ok (.iastore, 1) := by decide +kernel
theorem dX7_settle_104 : decode cX7_settle 104 = .ok (.aload_n 0, 1) := by decide +kernel
theorem dX7_settle_105 : decode cX7_settle 105 = .ok (.getfield 18, 3) := by decide +kernel
theorem dX7_settle_108 : decode cX7_settle 108 = .ok (.iload 5, 2) := by decide +kernel
theorem dX7_settle_110 : decode cX7_settle 110 = .ok (.aload_n 0, 1) := by decide +kernel
theorem dX7_settle_111 : decode cX7_settle 111 = .ok (.getfield 27, 3) := by decide +kernel
theorem dX7_settle_114 : decode cX7_settle 114 = .ok (.iload 8, 2) := by decide +kernel
theorem dX7_settle_116 : decode cX7_settle 116 = .ok (.iaload, 1) := by decide +kernel
theorem dX7_settle_117 : decode cX7_settle 117 = .ok (.iastore, 1) := by decide +kernel
theorem dX7_settle_118 : decode cX7_settle 118 = .ok (.iinc 5 1, 3) := by decide +kernel
theorem dX7_settle_121 : decode cX7_settle 121 = .ok (.iinc 8 1, 3) := by decide +kernel
theorem dX7_settle_124 : decode cX7_settle 124 = .ok (.goto (-63), 3) := by decide +kernel
theorem dX7_settle_127 : decode cX7_settle 127 = .ok (.iinc 6 1, 3) := by decide +kernel
theorem dX7_settle_130 : decode cX7_settle 130 = .ok (.goto (-124), 3) := by decide +kernel
theorem dX7_settle_133 : decode cX7_settle 133 = .ok (.aload_n 0, 1) := by decide +kernel
theorem dX7_settle_134 : decode cX7_settle 134 = .ok (.getfield 9, 3) := by decide +kernel
theorem dX7_settle_137 : decode cX7_settle 137 = .ok (.astore 6, 2) := by decide +kernel
theorem dX7_settle_139 : decode cX7_settle 139 = .ok (.aload_n 0, 1) := by decide +kernel
theorem dX7_settle_140 : decode cX7_settle 140 = .ok (.aload_n 0, 1) := by decide +kernel
theorem dX7_settle_141 : decode cX7_settle 141 = .ok (.getfield 18, 3) := by decide +kernel
theorem dX7_settle_144 : decode cX7_settle 144 = .ok (.putfield 9, 3) := by decide +kernel
theorem dX7_settle_147 : decode cX7_settle 147 = .ok (.aload_n 0, 1) := by decide +kernel
theorem dX7_settle_148 : decode cX7_settle 148 = .ok (.aload 6, 2) := by decide +kernel
theorem dX7_settle_150 : decode cX7_settle 150 = .ok (.putfield 18, 3) := by decide +kernel
theorem dX7_settle_153 : decode cX7_settle 153 = .ok (.iload 5, 2) := by decide +kernel
theorem dX7_settle_155 : decode cX7_settle 155 = .ok (.ireturn, 1) := by decide +kernel
theorem dX7_solveLayer_0 : decode cX7_solveLayer 0 = .ok (.aload_n 0, 1) := by decide +kernel
theorem dX7_solveLayer_1 : decode cX7_solveLayer 1 = .ok (.iload_n 1, 1) := by decide +kernel
theorem dX7_solveLayer_2 : decode cX7_solveLayer 2 = .ok (.iload_n 2, 1) := by decide +kernel
theorem dX7_solveLayer_3 : decode cX7_solveLayer 3 = .ok (.invokevirtual 34, 3) := by decide +kernel
theorem dX7_solveLayer_6 : decode cX7_solveLayer 6 = .ok (.iconst 0, 1) := by decide +kernel
theorem dX7_solveLayer_7 : decode cX7_solveLayer 7 = .ok (.istore 5, 2) := by decide +kernel
theorem dX7_solveLayer_9 : decode cX7_solveLayer 9 = .ok (.iload_n 1, 1) := by decide +kernel
theorem dX7_solveLayer_10 : decode cX7_solveLayer 10 = .ok (.istore 6, 2) := by decide +kernel
theorem dX7_solveLayer_12 : decode cX7_solveLayer 12 = .ok (.iload 6, 2) := by decide +kernel
theorem dX7_solveLayer_14 : decode cX7_solveLayer 14 = .ok (.iload_n 2, 1) := by decide +kernel
theorem dX7_solveLayer_15 : decode cX7_solveLayer 15 = .ok (.if_icmp .ge 69, 3) := by decide +kernel
theorem dX7_solveLayer_18 : decode cX7_solveLayer 18 = .ok (.aload 4, 2) := by decide +kernel
theorem dX7_solveLayer_20 : decode cX7_solveLayer 20 = .ok (.iload 6, 2) := by decide +kernel
theorem dX7_solveLayer_22 : decode cX7_solveLayer 22 = .ok (.iconst 0, 1) := by decide +kernel
theorem dX7_solveLayer_23 : decode cX7_solveLayer 23 = .ok (.iastore, 1) := by decide +kernel
theorem dX7_solveLayer_24 : decode cX7_solveLayer 24 = .ok (.aload_n 0, 1) := by decide +kernel
theorem dX7_solveLayer_25 : decode cX7_solveLayer 25 = .ok (.getfield 21, 3) := by decide +kernel
theorem dX7_solveLayer_28 : decode cX7_solveLayer 28 = .ok (.iload 6, 2) := by decide +kernel
theorem dX7_solveLayer_30 : decode cX7_solveLayer 30 = .ok (.iconst 0, 1) := by decide +kernel
theorem dX7_solveLayer_31 : decode cX7_solveLayer 31 = .ok (.iastore, 1) := by decide +kernel
theorem dX7_solveLayer_32 : decode cX7_solveLayer 32 = .ok (.aload_n 3, 1) := by decide +kernel
theorem dX7_solveLayer_33 : decode cX7_solveLayer 33 = .ok (.iload 6, 2) := by decide +kernel
theorem dX7_solveLayer_35 : decode cX7_solveLayer 35 = .ok (.iconst 0, 1) := by decide +kernel
theorem dX7_solveLayer_36 : decode cX7_solveLayer 36 = .ok (.iastore, 1) := by decide +kernel
theorem dX7_solveLayer_37 : decode cX7_solveLayer 37 = .ok (.aload_n 0, 1) := by decide +kernel
theorem dX7_solveLayer_38 : decode cX7_solveLayer 38 = .ok (.getfield 30, 3) := by decide +kernel
theorem dX7_solveLayer_41 : decode cX7_solveLayer 41 = .ok (.iload 6, 2) := by decide +kernel
theorem dX7_solveLayer_43 : decode cX7_solveLayer 43 = .ok (.invokevirtual 38, 3) := by decide +kernel
theorem dX7_solveLayer_46 : decode cX7_solveLayer 46 = .ok (.ifCond .eq 18, 3) := by decide +kernel
theorem dX7_solveLayer_49 : decode cX7_solveLayer 49 = .ok (.aload_n 0, 1) := by decide +kernel
theorem dX7_solveLayer_50 : decode cX7_solveLayer 50 = .ok (.getfield 9, 3) := by decide +kernel
theorem dX7_solveLayer_53 : decode cX7_solveLayer 53 = .ok (.iload 5, 2) := by decide +kernel
theorem dX7_solveLayer_55 : decode cX7_solveLayer 55 = .ok (.iload 6, 2) := by decide +kernel
theorem dX7_solveLayer_57 : decode cX7_solveLayer 57 = .ok (.iastore, 1) := by decide +kernel
theorem dX7_solveLayer_58 : decode cX7_solveLayer 58 = .ok (.iinc 5 1, 3) := by decide +kernel
theorem dX7_solveLayer_61 : decode cX7_solveLayer 61 = .ok (.goto 17, 3) := by decide +kernel
theorem dX7_solveLayer_64 : decode cX7_solveLayer 64 = .ok (.aload_n 3, 1) := by decide +kernel
theorem dX7_solveLayer_65 : decode cX7_solveLayer 65 = .ok (.iload 6, 2) := by decide +kernel
theorem dX7_solveLayer_67 : decode cX7_solveLayer 67 = .ok (.aload_n 0, 1) := by decide +kernel
theorem dX7_solveLayer_68 : decode cX7_solveLayer 68 = .ok (.getfield 30, 3) := by decide +kernel
theorem dX7_solveLayer_71 : decode cX7_solveLayer 71 = .ok (.getfield 44, 3) := by decide +kernel
theorem dX7_solveLayer_74 : decode cX7_solveLayer 74 = .ok (.iload 6, 2) := by decide +kernel
theorem dX7_solveLayer_76 : decode cX7_solveLayer 76 = .ok (.iaload, 1) := by decide +kernel
theorem dX7_solveLayer_77 : decode cX7_solveLayer 77 = .ok (.iastore, 1) := by decide +kernel
theorem dX7_solveLayer_78 : decode cX7_solveLayer 78 = .ok (.iinc 6 1, 3) := by decide +kernel
theorem dX7_solveLayer_81 : decode cX7_solveLayer 81 = .ok (.goto (-69), 3) := by decide +kernel
theorem dX7_solveLayer_84 : decode cX7_solveLayer 84 = .ok (.iconst 1, 1) := by decide +kernel
theorem dX7_solveLayer_85 : decode cX7_solveLayer 85 = .ok (.istore 6, 2) := by decide +kernel
theorem dX7_solveLayer_87 : decode cX7_solveLayer 87 = .ok (.iload 5, 2) := by decide +kernel
theorem dX7_solveLayer_89 : decode cX7_solveLayer 89 = .ok (.ifCond .le 36, 3) := by decide +kernel
theorem dX7_solveLayer_92 : decode cX7_solveLayer 92 = .ok (.iload 6, 2) := by decide +kernel
theorem dX7_solveLayer_94 : decode cX7_solveLayer 94 = .ok (.ldc 47, 2) := by decide +kernel
theorem dX7_solveLayer_96 : decode cX7_solveLayer 96 = .ok (.if_icmp .ge 29, 3) := by decide +kernel
theorem dX7_solveLayer_99 : decode cX7_solveLayer 99 = .ok (.aload_n 0, 1) := by decide +kernel
theorem dX7_solveLayer_100 : decode cX7_solveLayer 100 = .ok (.iload 5, 2) := by decide +kernel
theorem dX7_solveLayer_102 : decode cX7_solveLayer 102 = .ok (.aload_n 3, 1) := by decide +kernel
theorem dX7_solveLayer_103 : decode cX7_solveLayer 103 = .ok (.invokevirtual 48, 3) := by decide +kernel
theorem dX7_solveLayer_106 : decode cX7_solveLayer 106 = .ok (.aload_n 0, 1) := by decide +kernel
theorem dX7_solveLayer_107 : decode cX7_solveLayer 107 = .ok (.iload 5, 2) := by decide +kernel
theorem dX7_solveLayer_109 : decode cX7_solveLayer 109 = .ok (.iload 6, 2) := by decide +kernel
theorem dX7_solveLayer_111 : decode cX7_solveLayer 111 = .ok (.aload_n 3, 1) := by decide +kernel
theorem dX7_solveLayer_112 : decode cX7_solveLayer 112 = .ok (.aload 4, 2) := by decide +kernel
theorem dX7_solveLayer_114 : decode cX7_solveLayer 114 = .ok (.invokevirtual 52, 3) := by decide +kernel
theorem dX7_solveLayer_117 : decode cX7_solveLayer 117 = .ok (.istore 5, 2) := by decide +kernel
theorem dX7_solveLayer_119 : decode cX7_solveLayer 119 = .ok (.iinc 6 1, 3) := by decide +kernel
theorem dX7_solveLayer_122 : decode cX7_solveLayer 122 = .ok (.goto (-35), 3) := by decide +kernel
theorem dX7_solveLayer_125 : decode cX7_solveLayer 125 = .ok (.return_, 1) := by decide +kernel
theorem dX8_init_0 : decode cX8_init 0 = .ok (.aload_n 0, 1) := by decide +kernel
theorem dX8_init_1 : decode cX8_init 1 = .ok (.invokespecial 3, 3) := by decide +kernel
theorem dX8_init_4 : decode cX8_init 4 = .ok (.return_, 1) := by decide +kernel
theorem dX8_become_0 : decode cX8_become 0 = .ok (.aload_n 0, 1) := by decide +kernel
theorem dX8_become_1 : decode cX8_become 1 = .ok (.iload_n 1, 1) := by decide +kernel
theorem dX8_become_2 : decode cX8_become 2 = .ok (.putfield 9, 3) := by decide +kernel
theorem dX8_become_5 : decode cX8_become 5 = .ok (.aload_n 0, 1) := by decide +kernel
theorem dX8_become_6 : decode cX8_become 6 = .ok (.bipush 10, 2) := by decide +kernel
theorem dX8_become_8 : decode cX8_become 8 = .ok (.putfield 15, 3) := by decide +kernel
theorem dX8_become_11 : decode cX8_become 11 = .ok (.aload_n 0, 1) := by decide +kernel
theorem dX8_become_12 : decode cX8_become 12 = .ok (.iconst 2, 1) := by decide +kernel
theorem dX8_become_13 : decode cX8_become 13 = .ok (.putfield 18, 3) := by decide +kernel
theorem dX8_become_16 : decode cX8_become 16 = .ok (.aload_n 0, 1) := by decide +kernel
theorem dX8_become_17 : decode cX8_become 17 = .ok (.iconst 3, 1) := by decide +kernel
theorem dX8_become_18 : decode cX8_become 18 = .ok (.putfield 21, 3) := by decide +kernel
theorem dX8_become_21 : decode cX8_become 21 = .ok (.return_, 1) := by decide +kernel
theorem dX8_becomeFirst_0 : decode cX8_becomeFirst 0 = .ok (.aload_n 0, 1) := by decide +kernel
theorem dX8_becomeFirst_1 : decode cX8_becomeFirst 1 = .ok (.iconst 0, 1) := by decide +kernel
theorem dX8_becomeFirst_2 : decode cX8_becomeFirst 2 = .ok (.invokevirtual 24, 3) := by decide +kernel
theorem dX8_becomeFirst_5 : decode cX8_becomeFirst 5 = .ok (.aload_n 0, 1) := by decide +kernel
theorem dX8_becomeFirst_6 : decode cX8_becomeFirst 6 = .ok (.iconst 1, 1) := by decide +kernel
theorem dX8_becomeFirst_7 : decode cX8_becomeFirst 7 = .ok (.putfield 28, 3) := by decide +kernel
theorem dX8_becomeFirst_10 : decode cX8_becomeFirst 10 = .ok (.aload_n 0, 1) := by decide +kernel
theorem dX8_becomeFirst_11 : decode cX8_becomeFirst 11 = .ok (.iconst 0, 1) := by decide +kernel
theorem dX8_becomeFirst_12 : decode cX8_becomeFirst 12 = .ok (.putfield 31, 3) := by decide +kernel
theorem dX8_becomeFirst_15 : decode cX8_becomeFirst 15 = .ok (.aload_n 0, 1) := by decide +kernel
theorem dX8_becomeFirst_16 : decode cX8_becomeFirst 16 = .ok (.iconst 0, 1) := by decide +kernel
theorem dX8_becomeFirst_17 : decode cX8_becomeFirst 17 = .ok (.putfield 35, 3) := by decide +kernel
theorem dX8_becomeFirst_20 : decode cX8_becomeFirst 20 = .ok (.return_, 1) := by decide +kernel
theorem dX9_init_0 : decode cX9_init 0 = .ok (.aload_n 0, 1) := by decide +kernel
theorem dX9_init_1 : decode cX9_init 1 = .ok (.invokespecial 3, 3) := by decide +kernel
theorem dX9_init_4 : decode cX9_init 4 = .ok (.aload_n 0, 1) := by decide +kernel
theorem dX9_init_5 : decode cX9_init 5 = .ok (.iconst 0, 1) := by decide +kernel
theorem dX9_init_6 : decode cX9_init 6 = .ok (.newarray .int, 2) := by decide +kernel
theorem dX9_init_8 : decode cX9_init 8 = .ok (.putfield 9, 3) := by decide +kernel
theorem dX9_init_11 : decode cX9_init 11 = .ok (.aload_n 0, 1) := by decide +kernel
theorem dX9_init_12 : decode cX9_init 12 = .ok (.iconst 0, 1) := by decide +kernel
theorem dX9_init_13 : decode cX9_init 13 = .ok (.newarray .int, 2) := by decide +kernel
theorem dX9_init_15 : decode cX9_init 15 = .ok (.putfield 15, 3) := by decide +kernel
theorem dX9_init_18 : decode cX9_init 18 = .ok (.aload_n 0, 1) := by decide +kernel
theorem dX9_init_19 : decode cX9_init 19 = .ok (.iconst 0, 1) := by decide +kernel
theorem dX9_init_20 : decode cX9_init 20 = .ok (.newarray .int, 2) := by decide +kernel
theorem dX9_init_22 : decode cX9_init 22 = .ok (.putfield 18, 3) := by decide +kernel
theorem dX9_init_25 : decode cX9_init 25 = .ok (.aload_n 0, 1) := by decide +kernel
theorem dX9_init_26 : decode cX9_init 26 = .ok (.iconst 0, 1) := by decide +kernel
theorem dX9_init_27 : decode cX9_init 27 = .ok (.newarray .int, 2) := by decide +kernel
theorem dX9_init_29 : decode cX9_init 29 = .ok (.putfield 21, 3) := by decide +kernel
theorem dX9_init_32 : decode cX9_init 32 = .ok (.aload_n 0, 1) := by decide +kernel
theorem dX9_init_33 : decode cX9_init 33 = .ok (.new 24, 3) := by decide +kernel
theorem dX9_init_36 : decode cX9_init 36 = .ok (.dup, 1) := by decide +kernel
theorem dX9_init_37 : decode cX9_init 37 = .ok (.aload_n 3, 1) := by decide +kernel
theorem dX9_init_38 : decode cX9_init 38 = .ok (.invokespecial 26, 3) := by decide +kernel
theorem dX9_init_41 : decode cX9_init 41 = .ok (.putfield 29, 3) := by decide +kernel
theorem dX9_init_44 : decode cX9_init 44 = .ok (.aload_n 0, 1) := by decide +kernel
theorem dX9_init_45 : decode cX9_init 45 = .ok (.aload_n 1, 1) := by decide +kernel
theorem dX9_init_46 : decode cX9_init 46 = .ok (.putfield 33, 3) := by decide +kernel
theorem dX9_init_49 : decode cX9_init 49 = .ok (.aload_n 0, 1) := by decide +kernel
theorem dX9_init_50 : decode cX9_init 50 = .ok (.aload_n 2, 1) := by decide +kernel
theorem dX9_init_51 : decode cX9_init 51 = .ok (.putfield 37, 3) := by decide +kernel
theorem dX9_init_54 : decode cX9_init 54 = .ok (.aload_n 0, 1) := by decide +kernel
theorem dX9_init_55 : decode cX9_init 55 = .ok (.aload_n 3, 1) := by decide +kernel
theorem dX9_init_56 : decode cX9_init 56 = .ok (.putfield 41, 3) := by decide +kernel
theorem dX9_init_59 : decode cX9_init 59 = .ok (.return_, 1) := by decide +kernel
theorem dX9_forget_0 : decode cX9_forget 0 = .ok (.aload_n 0, 1) := by decide +kernel
theorem dX9_forget_1 : decode cX9_forget 1 = .ok (.iconst 0, 1) := by decide +kernel
theorem dX9_forget_2 : decode cX9_forget 2 = .ok (.putfield 45, 3) := by decide +kernel
theorem dX9_forget_5 : decode cX9_forget 5 = .ok (.aload_n 0, 1) := by decide +kernel
theorem dX9_forget_6 : decode cX9_forget 6 = .ok (.getfield 41, 3) := by decide +kernel
theorem dX9_forget_9 : decode cX9_forget 9 = .ok (.invokevirtual 49, 3) := by decide +kernel
theorem dX9_forget_12 : decode cX9_forget 12 = .ok (.return_, 1) := by decide +kernel
theorem dX9_makeRoom_0 : decode cX9_makeRoom 0 = .ok (.aload_n 0, 1) := by decide +kernel
theorem dX9_makeRoom_1 : decode cX9_makeRoom 1 = .ok (.getfield 64, 3) := by decide +kernel
theorem dX9_makeRoom_4 : decode cX9_makeRoom 4 = .ok (.aload_n 0, 1) := by decide +kernel
theorem dX9_makeRoom_5 : decode cX9_makeRoom 5 = .ok (.getfield 9, 3) := by decide +kernel
theorem dX9_makeRoom_8 : decode cX9_makeRoom 8 = .ok (.arraylength, 1) := by decide +kernel
theorem dX9_makeRoom_9 : decode cX9_makeRoom 9 = .ok (.if_icmp .le 67, 3) := by decide +kernel
theorem dX9_makeRoom_12 : decode cX9_makeRoom 12 = .ok (.aload_n 0, 1) := by decide +kernel
theorem dX9_makeRoom_13 : decode cX9_makeRoom 13 = .ok (.getfield 64, 3) := by decide +kernel
theorem dX9_makeRoom_16 : decode cX9_makeRoom 16 = .ok (.iconst 2, 1) := by decide +kernel
theorem dX9_makeRoom_17 : decode cX9_makeRoom 17 = .ok (.aload_n 0, 1) := by decide +kernel
theorem dX9_makeRoom_18 : decode cX9_makeRoom 18 = .ok (.getfield 9, 3) := by decide +kernel
theorem dX9_makeRoom_21 : decode cX9_makeRoom 21 = .ok (.arraylength, 1) := by decide +kernel
theorem dX9_makeRoom_22 : decode cX9_makeRoom 22 = .ok (.imul, 1) := by decide +kernel
theorem dX9_makeRoom_23 : decode cX9_makeRoom 23 = .ok (.invokestatic 127, 3) := by decide +kernel
theorem dX9_makeRoom_26 : decode cX9_makeRoom 26 = .ok (.ldc 133, 2) := by decide +kernel
theorem dX9_makeRoom_28 : decode cX9_makeRoom 28 = .ok (.invokestatic 134, 3) := by decide +kernel
theorem dX9_makeRoom_31 : decode cX9_makeRoom 31 = .ok (.istore_n 1, 1) := by decide +kernel
theorem dX9_makeRoom_32 : decode cX9_makeRoom 32 = .ok (.aload_n 0, 1) := by decide +kernel
theorem dX9_makeRoom_33 : decode cX9_makeRoom 33 = .ok (.iload_n 1, 1) := by decide +kernel
theorem dX9_makeRoom_34 : decode cX9_makeRoom 34 = .ok (.newarray .int, 2) := by decide +kernel
theorem dX9_makeRoom_36 : decode cX9_makeRoom 36 = .ok (.putfield 9, 3) := by decide +kernel
theorem dX9_makeRoom_39 : decode cX9_makeRoom 39 = .ok (.aload_n 0, 1) := by decide +kernel
theorem dX9_makeRoom_40 : decode cX9_makeRoom 40 = .ok (.iload_n 1, 1) := by decide +kernel
theorem dX9_makeRoom_41 : decode cX9_makeRoom 41 = .ok (.newarray .int, 2) := by decide +kernel
theorem dX9_makeRoom_43 : decode cX9_makeRoom 43 = .ok (.putfield 15, 3) := by decide +kernel
theorem dX9_makeRoom_46 : decode cX9_makeRoom 46 = .ok (.aload_n 0, 1) := by decide +kernel
theorem dX9_makeRoom_47 : decode cX9_makeRoom 47 = .ok (.iload_n 1, 1) := by decide +kernel
theorem dX9_makeRoom_48 : decode cX9_makeRoom 48 = .ok (.newarray .int, 2) := by decide +kernel
theorem dX9_makeRoom_50 : decode cX9_makeRoom 50 = .ok (.putfield 18, 3) := by decide +kernel
theorem dX9_makeRoom_53 : decode cX9_makeRoom 53 = .ok (.aload_n 0, 1) := by decide +kernel
theorem dX9_makeRoom_54 : decode cX9_makeRoom 54 = .ok (.iload_n 1, 1) := by decide +kernel
theorem dX9_makeRoom_55 : decode cX9_makeRoom 55 = .ok (.newarray .int, 2) := by decide +kernel
theorem dX9_makeRoom_57 : decode cX9_makeRoom 57 = .ok (.putfield 21, 3) := by decide +kernel
theorem dX9_makeRoom_60 : decode cX9_makeRoom 60 = .ok (.aload_n 0, 1) := by decide +kernel
theorem dX9_makeRoom_61 : decode cX9_makeRoom 61 = .ok (.getfield 41, 3) := by decide +kernel
theorem dX9_makeRoom_64 : decode cX9_makeRoom 64 = .ok (.iload_n 1, 1) := by decide +kernel
theorem dX9_makeRoom_65 : decode cX9_makeRoom 65 = .ok (.invokevirtual 137, 3) := by decide +kernel
theorem dX9_makeRoom_68 : decode cX9_makeRoom 68 = .ok (.aload_n 0, 1) := by decide +kernel
theorem dX9_makeRoom_69 : decode cX9_makeRoom 69 = .ok (.getfield 29, 3) := by decide +kernel
theorem dX9_makeRoom_72 : decode cX9_makeRoom 72 = .ok (.iload_n 1, 1) := by decide +kernel
theorem dX9_makeRoom_73 : decode cX9_makeRoom 73 = .ok (.invokevirtual 139, 3) := by decide +kernel
theorem dX9_makeRoom_76 : decode cX9_makeRoom 76 = .ok (.return_, 1) := by decide +kernel
theorem dX9_makeMoveRoom_0 : decode cX9_makeMoveRoom 0 = .ok (.iload_n 1, 1) := by decide +kernel
theorem dX9_makeMoveRoom_1 : decode cX9_makeMoveRoom 1 = .ok (.aload_n 0, 1) := by decide +kernel
theorem dX9_makeMoveRoom_2 : decode cX9_makeMoveRoom 2 = .ok (.getfield 41, 3) := by decide +kernel
theorem dX9_makeMoveRoom_5 : decode cX9_makeMoveRoom 5 = .ok (.getfield 106, 3) := by decide +kernel
theorem dX9_makeMoveRoom_8 : decode cX9_makeMoveRoom 8 = .ok (.arraylength, 1) := by decide +kernel
theorem dX9_makeMoveRoom_9 : decode cX9_makeMoveRoom 9 = .ok (.if_icmp .le 34, 3) := by decide +kernel
theorem dX9_makeMoveRoom_12 : decode cX9_makeMoveRoom 12 = .ok (.iload_n 1, 1) := by decide +kernel
theorem dX9_makeMoveRoom_13 : decode cX9_makeMoveRoom 13 = .ok (.iconst 2, 1) := by decide +kernel
theorem dX9_makeMoveRoom_14 : decode cX9_makeMoveRoom 14 = .ok (.aload_n 0, 1) := by decide +kernel
theorem dX9_makeMoveRoom_15 : decode cX9_makeMoveRoom 15 = .ok (.getfield 41, 3) := by decide +kernel
theorem dX9_makeMoveRoom_18 : decode cX9_makeMoveRoom 18 = .ok (.getfield 106, 3) := by decide +kernel
theorem dX9_makeMoveRoom_21 : decode cX9_makeMoveRoom 21 = .ok (.arraylength, 1) := by decide +kernel
theorem dX9_makeMoveRoom_22 : decode cX9_makeMoveRoom 22 = .ok (.imul, 1) := by decide +kernel
theorem dX9_makeMoveRoom_23 : decode cX9_makeMoveRoom 23 = .ok (.invokestatic 127, 3) := by decide +kernel
theorem dX9_makeMoveRoom_26 : decode cX9_makeMoveRoom 26 = .ok (.istore_n 2, 1) := by decide +kernel
theorem dX9_makeMoveRoom_27 : decode cX9_makeMoveRoom 27 = .ok (.aload_n 0, 1) := by decide +kernel
theorem dX9_makeMoveRoom_28 : decode cX9_makeMoveRoom 28 = .ok (.getfield 41, 3) := by decide +kernel
theorem dX9_makeMoveRoom_31 : decode cX9_makeMoveRoom 31 = .ok (.iload_n 2, 1) := by decide +kernel
theorem dX9_makeMoveRoom_32 : decode cX9_makeMoveRoom 32 = .ok (.invokevirtual 140, 3) := by decide +kernel
theorem dX9_makeMoveRoom_35 : decode cX9_makeMoveRoom 35 = .ok (.aload_n 0, 1) := by decide +kernel
theorem dX9_makeMoveRoom_36 : decode cX9_makeMoveRoom 36 = .ok (.getfield 29, 3) := by decide +kernel
theorem dX9_makeMoveRoom_39 : decode cX9_makeMoveRoom 39 = .ok (.iload_n 2, 1) := by decide +kernel
theorem dX9_makeMoveRoom_40 : decode cX9_makeMoveRoom 40 = .ok (.invokevirtual 141, 3) := by decide +kernel
theorem dX9_makeMoveRoom_43 : decode cX9_makeMoveRoom 43 = .ok (.return_, 1) := by decide +kernel
theorem dX9_begin_0 : decode cX9_begin 0 = .ok (.aload_n 0, 1) := by decide +kernel
theorem dX9_begin_1 : decode cX9_begin 1 = .ok (.iconst 1, 1) := by decide +kernel
theorem dX9_begin_2 : decode cX9_begin 2 = .ok (.putfield 45, 3) := by decide +kernel
theorem dX9_begin_5 : decode cX9_begin 5 = .ok (.aload_n 0, 1) := by decide +kernel
theorem dX9_begin_6 : decode cX9_begin 6 = .ok (.iload_n 1, 1) := by decide +kernel
theorem dX9_begin_7 : decode cX9_begin 7 = .ok (.iconst 1, 1) := by decide +kernel
theorem dX9_begin_8 : decode cX9_begin 8 = .ok (.iadd, 1) := by decide +kernel
theorem dX9_begin_9 : decode cX9_begin 9 = .ok (.putfield 54, 3) := by decide +kernel
theorem dX9_begin_12 : decode cX9_begin 12 = .ok (.aload_n 0, 1) := by decide +kernel
theorem dX9_begin_13 : decode cX9_begin 13 = .ok (.iconst 2, 1) := by decide +kernel
theorem dX9_begin_14 : decode cX9_begin 14 = .ok (.aload_n 0, 1) := by decide +kernel
theorem dX9_begin_15 : decode cX9_begin 15 = .ok (.getfield 37, 3) := by decide +kernel
theorem dX9_begin_18 : decode cX9_begin 18 = .ok (.iload_n 1, 1) := by decide +kernel
theorem dX9_begin_19 : decode cX9_begin 19 = .ok (.invokevirtual 58, 3) := by decide +kernel
theorem dX9_begin_22 : decode cX9_begin 22 = .ok (.l2i, 1) := by decide +kernel
theorem dX9_begin_23 : decode cX9_begin 23 = .ok (.imul, 1) := by decide +kernel
theorem dX9_begin_24 : decode cX9_begin 24 = .ok (.putfield 64, 3) := by decide +kernel
theorem dX9_begin_27 : decode cX9_begin 27 = .ok (.aload_n 0, 1) := by decide +kernel
theorem dX9_begin_28 : decode cX9_begin 28 = .ok (.iconst 0, 1) := by decide +kernel
theorem dX9_begin_29 : decode cX9_begin 29 = .ok (.putfield 67, 3) := by decide +kernel
theorem dX9_begin_32 : decode cX9_begin 32 = .ok (.aload_n 0, 1) := by decide +kernel
theorem dX9_begin_33 : decode cX9_begin 33 = .ok (.iconst 0, 1) := by decide +kernel
theorem dX9_begin_34 : decode cX9_begin 34 = .ok (.putfield 70, 3) := by decide +kernel
theorem dX9_begin_37 : decode cX9_begin 37 = .ok (.aload_n 0, 1) := by decide +kernel
theorem dX9_begin_38 : decode cX9_begin 38 = .ok (.invokevirtual 73, 3) := by decide +kernel
theorem dX9_begin_41 : decode cX9_begin 41 = .ok (.aload_n 0, 1) := by decide +kernel
theorem dX9_begin_42 : decode cX9_begin 42 = .ok (.aload_n 0, 1) := by decide +kernel
theorem dX9_begin_43 : decode cX9_begin 43 = .ok (.getfield 33, 3) := by decide +kernel
theorem dX9_begin_46 : decode cX9_begin 46 = .ok (.getfield 76, 3) := by decide +kernel
theorem dX9_begin_49 : decode cX9_begin 49 = .ok (.aload_n 0, 1) := by decide +kernel
theorem dX9_begin_50 : decode cX9_begin 50 = .ok (.getfield 37, 3) := by decide +kernel
theorem dX9_begin_53 : decode cX9_begin 53 = .ok (.iload_n 1, 1) := by decide +kernel
theorem dX9_begin_54 : decode cX9_begin 54 = .ok (.iconst 1, 1) := by decide +kernel
theorem dX9_begin_55 : decode cX9_begin 55 = .ok (.isub, 1) := by decide +kernel
theorem dX9_begin_56 : decode cX9_begin 56 = .ok (.invokevirtual 58, 3) := by decide +kernel
theorem dX9_begin_59 : decode cX9_begin 59 = .ok (.l2i, 1) := by decide +kernel
theorem dX9_begin_60 : decode cX9_begin 60 = .ok (.imul, 1) := by decide +kernel
theorem dX9_begin_61 : decode cX9_begin 61 = .ok (.invokevirtual 81, 3) := by decide +kernel
theorem dX9_begin_64 : decode cX9_begin 64 = .ok (.iconst 0, 1) := by decide +kernel
theorem dX9_begin_65 : decode cX9_begin 65 = .ok (.istore_n 2, 1) := by decide +kernel
theorem dX9_begin_66 : decode cX9_begin 66 = .ok (.iload_n 2, 1) := by decide +kernel
theorem dX9_begin_67 : decode cX9_begin 67 = .ok (.aload_n 0, 1) := by decide +kernel
theorem dX9_begin_68 : decode cX9_begin 68 = .ok (.getfield 64, 3) := by decide +kernel
theorem dX9_begin_71 : decode cX9_begin 71 = .ok (.if_icmp .ge 23, 3) := by decide +kernel
theorem dX9_begin_74 : decode cX9_begin 74 = .ok (.aload_n 0, 1) := by decide +kernel
theorem dX9_begin_75 : decode cX9_begin 75 = .ok (.getfield 18, 3) := by decide +kernel
theorem dX9_begin_78 : decode cX9_begin 78 = .ok (.iload_n 2, 1) := by decide +kernel
theorem dX9_begin_79 : decode cX9_begin 79 = .ok (.iconst 0, 1) := by decide +kernel
theorem dX9_begin_80 : decode cX9_begin 80 = .ok (.iastore, 1) := by decide +kernel
theorem dX9_begin_81 : decode cX9_begin 81 = .ok (.aload_n 0, 1) := by decide +kernel
theorem dX9_begin_82 : decode cX9_begin 82 = .ok (.getfield 21, 3) := by decide +kernel
theorem dX9_begin_85 : decode cX9_begin 85 = .ok (.iload_n 2, 1) := by decide +kernel
theorem dX9_begin_86 : decode cX9_begin 86 = .ok (.iconst 0, 1) := by decide +kernel
theorem dX9_begin_87 : decode cX9_begin 87 = .ok (.iastore, 1) := by decide +kernel
theorem dX9_begin_88 : decode cX9_begin 88 = .ok (.iinc 2 1, 3) := by decide +kernel
theorem dX9_begin_91 : decode cX9_begin 91 = .ok (.goto (-25), 3) := by decide +kernel
theorem dX9_begin_94 : decode cX9_begin 94 = .ok (.return_, 1) := by decide +kernel
theorem dX9_layersLeft_0 : decode cX9_layersLeft 0 = .ok (.aload_n 0, 1) := by decide +kernel
theorem dX9_layersLeft_1 : decode cX9_layersLeft 1 = .ok (.getfield 54, 3) := by decide +kernel
theorem dX9_layersLeft_4 : decode cX9_layersLeft 4 = .ok (.aload_n 0, 1) := by decide +kernel
theorem dX9_layersLeft_5 : decode cX9_layersLeft 5 = .ok (.getfield 67, 3) := by decide +kernel
theorem dX9_layersLeft_8 : decode cX9_layersLeft 8 = .ok (.isub, 1) := by decide +kernel
theorem dX9_layersLeft_9 : decode cX9_layersLeft 9 = .ok (.ireturn, 1) := by decide +kernel
theorem dX9_has_0 : decode cX9_has 0 = .ok (.iload_n 1, 1) := by decide +kernel
theorem dX9_has_1 : decode cX9_has 1 = .ok (.ifCond .lt 15, 3) := by decide +kernel
theorem dX9_has_4 : decode cX9_has 4 = .ok (.iload_n 1, 1) := by decide +kernel
theorem dX9_has_5 : decode cX9_has 5 = .ok (.aload_n 0, 1) := by decide +kernel
theorem dX9_has_6 : decode cX9_has 6 = .ok (.getfield 64, 3) := by decide +kernel
theorem dX9_has_9 : decode cX9_has 9 = .ok (.if_icmp .ge 7, 3) := by decide +kernel
theorem dX9_has_12 : decode cX9_has 12 = .ok (.iconst 1, 1) := by decide +kernel
theorem dX9_has_13 : decode cX9_has 13 = .ok (.goto 4, 3) := by decide +kernel
theorem dX9_has_16 : decode cX9_has 16 = .ok (.iconst 0, 1) := by decide +kernel
theorem dX9_has_17 : decode cX9_has 17 = .ok (.ireturn, 1) := by decide +kernel
theorem dX9_whyNotSolved_0 : decode cX9_whyNotSolved 0 = .ok (.aload_n 0, 1) := by decide +kernel
theorem dX9_whyNotSolved_1 : decode cX9_whyNotSolved 1 = .ok (.getfield 45, 3) := by decide +kernel
theorem dX9_whyNotSolved_4 : decode cX9_whyNotSolved 4 = .ok (.ifCond .ne 6, 3) := by decide +kernel
theorem dX9_whyNotSolved_7 : decode cX9_whyNotSolved 7 = .ok (.bipush 9, 2) := by decide +kernel
theorem dX9_whyNotSolved_9 : decode cX9_whyNotSolved 9 = .ok (.ireturn, 1) := by decide +kernel
theorem dX9_whyNotSolved_10 : decode cX9_whyNotSolved 10 = .ok (.aload_n 0, 1) := by decide +kernel
theorem dX9_whyNotSolved_11 : decode cX9_whyNotSolved 11 = .ok (.iload_n 1, 1) := by decide +kernel
theorem dX9_whyNotSolved_12 : decode cX9_whyNotSolved 12 = .ok (.invokevirtual 85, 3) := by decide +kernel
theorem dX9_whyNotSolved_15 : decode cX9_whyNotSolved 15 = .ok (.ifCond .ne 5, 3) := by decide +kernel
theorem dX9_whyNotSolved_18 : decode cX9_whyNotSolved 18 = .ok (.iconst 3, 1) := by decide +kernel
theorem dX9_whyNotSolved_19 : decode cX9_whyNotSolved 19 = .ok (.ireturn, 1) := by decide +kernel
theorem dX9_whyNotSolved_20 : decode cX9_whyNotSolved 20 = .ok (.iload_n 1, 1) := by decide +kernel
theorem dX9_whyNotSolved_21 : decode cX9_whyNotSolved 21 = .ok (.aload_n 0, 1) := by decide +kernel
theorem dX9_whyNotSolved_22 : decode cX9_whyNotSolved 22 = .ok (.getfield 70, 3) := by decide +kernel
theorem dX9_whyNotSolved_25 : decode cX9_whyNotSolved 25 = .ok (.if_icmp .ge 7, 3) := by decide +kernel
theorem dX9_whyNotSolved_28 : decode cX9_whyNotSolved 28 = .ok (.iconst 0, 1) := by decide +kernel
theorem dX9_whyNotSolved_29 : decode cX9_whyNotSolved 29 = .ok (.goto 5, 3) := by decide +kernel
theorem dX9_whyNotSolved_32 : decode cX9_whyNotSolved 32 = .ok (.bipush 9, 2) := by decide +kernel
theorem dX9_whyNotSolved_34 : decode cX9_whyNotSolved 34 = .ok (.ireturn, 1) := by decide +kernel
theorem dX9_solveNextLayer_0 : decode cX9_solveNextLayer 0 = .ok (.iconst 2, 1) := by decide +kernel
theorem dX9_solveNextLayer_1 : decode cX9_solveNextLayer 1 = .ok (.aload_n 0, 1) := by decide +kernel
theorem dX9_solveNextLayer_2 : decode cX9_solveNextLayer 2 = .ok (.getfield 37, 3) := by decide +kernel
theorem dX9_solveNextLayer_5 : decode cX9_solveNextLayer 5 = .ok (.aload_n 0, 1) := by decide +kernel
theorem dX9_solveNextLayer_6 : decode cX9_solveNextLayer 6 = .ok (.getfield 67, 3) := by decide +kernel
theorem dX9_solveNextLayer_9 : decode cX9_solveNextLayer 9 = .ok (.invokevirtual 58, 3) := by decide +kernel
theorem dX9_solveNextLayer_12 : decode cX9_solveNextLayer 12 = .ok (.l2i, 1) := by decide +kernel
theorem dX9_solveNextLayer_13 : decode cX9_solveNextLayer 13 = .ok (.imul, 1) := by decide +kernel
theorem dX9_solveNextLayer_14 : decode cX9_solveNextLayer 14 = .ok (.istore_n 1, 1) := by decide +kernel
theorem dX9_solveNextLayer_15 : decode cX9_solveNextLayer 15 = .ok (.aload_n 0, 1) := by decide +kernel
theorem dX9_solveNextLayer_16 : decode cX9_solveNextLayer 16 = .ok (.getfield 41, 3) := by decide +kernel
theorem dX9_solveNextLayer_19 : decode cX9_solveNextLayer 19 = .ok (.aload_n 0, 1) := by decide +kernel
theorem dX9_solveNextLayer_20 : decode cX9_solveNextLayer 20 = .ok (.getfield 67, 3) := by decide +kernel
theorem dX9_solveNextLayer_23 : decode cX9_solveNextLayer 23 = .ok (.invokevirtual 89, 3) := by decide +kernel
theorem dX9_solveNextLayer_26 : decode cX9_solveNextLayer 26 = .ok (.aload_n 0, 1) := by decide +kernel
theorem dX9_solveNextLayer_27 : decode cX9_solveNextLayer 27 = .ok (.getfield 29, 3) := by decide +kernel
theorem dX9_solveNextLayer_30 : decode cX9_solveNextLayer 30 = .ok (.aload_n 0, 1) := by decide +kernel
theorem dX9_solveNextLayer_31 : decode cX9_solveNextLayer 31 = .ok (.getfield 70, 3) := by decide +kernel
theorem dX9_solveNextLayer_34 : decode cX9_solveNextLayer 34 = .ok (.iload_n 1, 1) := by decide +kernel
theorem dX9_solveNextLayer_35 : decode cX9_solveNextLayer 35 = .ok (.aload_n 0, 1) := by decide +kernel
theorem dX9_solveNextLayer_36 : decode cX9_solveNextLayer 36 = .ok (.getfield 9, 3) := by decide +kernel
theorem dX9_solveNextLayer_39 : decode cX9_solveNextLayer 39 = .ok (.aload_n 0, 1) := by decide +kernel
theorem dX9_solveNextLayer_40 : decode cX9_solveNextLayer 40 = .ok (.getfield 15, 3) := by decide +kernel
theorem dX9_solveNextLayer_43 : decode cX9_solveNextLayer 43 = .ok (.invokevirtual 92, 3) := by decide +kernel
theorem dX9_solveNextLayer_46 : decode cX9_solveNextLayer 46 = .ok (.aload_n 0, 1) := by decide +kernel
theorem dX9_solveNextLayer_47 : decode cX9_solveNextLayer 47 = .ok (.dup, 1) := by decide +kernel
theorem dX9_solveNextLayer_48 : decode cX9_solveNextLayer 48 = .ok (.getfield 67, 3) := by decide +kernel
theorem dX9_solveNextLayer_51 : decode cX9_solveNextLayer 51 = .ok (.iconst 1, 1) := by decide +kernel
theorem dX9_solveNextLayer_52 : decode cX9_solveNextLayer 52 = .ok (.iadd, 1) := by decide +kernel
theorem dX9_solveNextLayer_53 : decode cX9_solveNextLayer 53 = .ok (.putfield 67, 3) := by decide +kernel
theorem dX9_solveNextLayer_56 : decode cX9_solveNextLayer 56 = .ok (.aload_n 0, 1) := by decide +kernel
theorem dX9_solveNextLayer_57 : decode cX9_solveNextLayer 57 = .ok (.iload_n 1, 1) := by decide +kernel
theorem dX9_solveNextLayer_58 : decode cX9_solveNextLayer 58 = .ok (.putfield 70, 3) := by decide +kernel
theorem dX9_solveNextLayer_61 : decode cX9_solveNextLayer 61 = .ok (.return_, 1) := by decide +kernel
theorem dX9_countOf_0 : decode cX9_countOf 0 = .ok (.iconst 0, 1) := by decide +kernel
theorem dX9_countOf_1 : decode cX9_countOf 1 = .ok (.istore_n 2, 1) := by decide +kernel
theorem dX9_countOf_2 : decode cX9_countOf 2 = .ok (.iconst 0, 1) := by decide +kernel
theorem dX9_countOf_3 : decode cX9_countOf 3 = .ok (.istore_n 3, 1) := by decide +kernel
theorem dX9_countOf_4 : decode cX9_countOf 4 = .ok (.iload_n 3, 1) := by decide +kernel
theorem dX9_countOf_5 : decode cX9_countOf 5 = .ok (.aload_n 0, 1) := by decide +kernel
theorem dX9_countOf_6 : decode cX9_countOf 6 = .ok (.getfield 70, 3) := by decide +kernel
theorem dX9_countOf_9 : decode cX9_countOf 9 = .ok (.if_icmp .ge 22, 3) := by decide +kernel
theorem dX9_countOf_12 : decode cX9_countOf 12 = .ok (.aload_n 0, 1) := by decide +kernel
theorem dX9_countOf_13 : decode cX9_countOf 13 = .ok (.getfield 9, 3) := by decide +kernel
theorem dX9_countOf_16 : decode cX9_countOf 16 = .ok (.iload_n 3, 1) := by decide +kernel
theorem dX9_countOf_17 : decode cX9_countOf 17 = .ok (.iaload, 1) := by decide +kernel
theorem dX9_countOf_18 : decode cX9_countOf 18 = .ok (.iload_n 1, 1) := by decide +kernel
theorem dX9_countOf_19 : decode cX9_countOf 19 = .ok (.if_icmp .ne 6, 3) := by decide +kernel
theorem dX9_countOf_22 : decode cX9_countOf 22 = .ok (.iinc 2 1, 3) := by decide +kernel
theorem dX9_countOf_25 : decode cX9_countOf 25 = .ok (.iinc 3 1, 3) := by decide +kernel
theorem dX9_countOf_28 : decode cX9_countOf 28 = .ok (.goto (-24), 3) := by decide +kernel
theorem dX9_countOf_31 : decode cX9_countOf 31 = .ok (.iload_n 2, 1) := by decide +kernel
theorem dX9_countOf_32 : decode cX9_countOf 32 = .ok (.ireturn, 1) := by decide +kernel
theorem dX9_firstFrom_0 : decode cX9_firstFrom 0 = .ok (.iload_n 1, 1) := by decide +kernel
theorem dX9_firstFrom_1 : decode cX9_firstFrom 1 = .ok (.istore_n 3, 1) := by decide +kernel
theorem dX9_firstFrom_2 : decode cX9_firstFrom 2 = .ok (.iload_n 3, 1) := by decide +kernel
theorem dX9_firstFrom_3 : decode cX9_firstFrom 3 = .ok (.aload_n 0, 1) := by decide +kernel
theorem dX9_firstFrom_4 : decode cX9_firstFrom 4 = .ok (.getfield 70, 3) := by decide +kernel
theorem dX9_firstFrom_7 : decode cX9_firstFrom 7 = .ok (.if_icmp .ge 21, 3) := by decide +kernel
theorem dX9_firstFrom_10 : decode cX9_firstFrom 10 = .ok (.aload_n 0, 1) := by decide +kernel
theorem dX9_firstFrom_11 : decode cX9_firstFrom 11 = .ok (.getfield 9, 3) := by decide +kernel
theorem dX9_firstFrom_14 : decode cX9_firstFrom 14 = .ok (.iload_n 3, 1) := by decide +kernel
theorem dX9_firstFrom_15 : decode cX9_firstFrom 15 = .ok (.iaload, 1) := by decide +kernel
theorem dX9_firstFrom_16 : decode cX9_firstFrom 16 = .ok (.iload_n 2, 1) := by decide +kernel
theorem dX9_firstFrom_17 : decode cX9_firstFrom 17 = .ok (.if_icmp .ne 5, 3) := by decide +kernel
theorem dX9_firstFrom_20 : decode cX9_firstFrom 20 = .ok (.iload_n 3, 1) := by decide +kernel
theorem dX9_firstFrom_21 : decode cX9_firstFrom 21 = .ok (.ireturn, 1) := by decide +kernel
theorem dX9_firstFrom_22 : decode cX9_firstFrom 22 = .ok (.iinc 3 1, 3) := by decide +kernel
theorem dX9_firstFrom_25 : decode cX9_firstFrom 25 = .ok (.goto (-23), 3) := by decide +kernel
theorem dX9_firstFrom_28 : decode cX9_firstFrom 28 = .ok (.iconst (-1), 1) := by decide +kernel
theorem dX9_firstFrom_29 : decode cX9_firstFrom 29 = .ok (.ireturn, 1) := by decide +kernel
theorem dX9_claimWhatIsSolved_0 : decode cX9_claimWhatIsSolved 0 = .ok (.aload_n 0, 1) := by decide +kernel
theorem dX9_claimWhatIsSolved_1 : decode cX9_claimWhatIsSolved 1 = .ok (.getfield 9, 3) := by decide +kernel
theorem dX9_claimWhatIsSolved_4 : decode cX9_claimWhatIsSolved 4 = .ok (.iconst 0, 1) := by decide +kernel
theorem dX9_claimWhatIsSolved_5 : decode cX9_claimWhatIsSolved 5 = .ok (.aload_n 0, 1) := by decide +kernel
theorem dX9_claimWhatIsSolved_6 : decode cX9_claimWhatIsSolved 6 = .ok (.getfield 18, 3) := by decide +kernel
theorem dX9_claimWhatIsSolved_9 : decode cX9_claimWhatIsSolved 9 = .ok (.iconst 0, 1) := by decide +kernel
theorem dX9_claimWhatIsSolved_10 : decode cX9_claimWhatIsSolved 10 = .ok (.aload_n 0, 1) := by decide +kernel
theorem dX9_claimWhatIsSolved_11 : decode cX9_claimWhatIsSolved 11 = .ok (.getfield 70, 3) := by decide +kernel
theorem dX9_claimWhatIsSolved_14 : decode cX9_claimWhatIsSolved 14 = .ok (.invokestatic 116, 3) := by decide +kernel
theorem dX9_claimWhatIsSolved_17 : decode cX9_claimWhatIsSolved 17 = .ok (.aload_n 0, 1) := by decide +kernel
theorem dX9_claimWhatIsSolved_18 : decode cX9_claimWhatIsSolved 18 = .ok (.getfield 15, 3) := by decide +kernel
theorem dX9_claimWhatIsSolved_21 : decode cX9_claimWhatIsSolved 21 = .ok (.iconst 0, 1) := by decide +kernel
theorem dX9_claimWhatIsSolved_22 : decode cX9_claimWhatIsSolved 22 = .ok (.aload_n 0, 1) := by decide +kernel
theorem dX9_claimWhatIsSolved_23 : decode cX9_claimWhatIsSolved 23 = .ok (.getfield 21, 3) := by decide +kernel
theorem dX9_claimWhatIsSolved_26 : decode cX9_claimWhatIsSolved 26 = .ok (.iconst 0, 1) := by decide +kernel
theorem dX9_claimWhatIsSolved_27 : decode cX9_claimWhatIsSolved 27 = .ok (.aload_n 0, 1) := by decide +kernel
theorem dX9_claimWhatIsSolved_28 : decode cX9_claimWhatIsSolved 28 = .ok (.getfield 70, 3) := by decide +kernel
theorem dX9_claimWhatIsSolved_31 : decode cX9_claimWhatIsSolved 31 = .ok (.invokestatic 116, 3) := by decide +kernel
theorem dX9_claimWhatIsSolved_34 : decode cX9_claimWhatIsSolved 34 = .ok (.return_, 1) := by decide +kernel
theorem dX9_isClaimRight_0 : decode cX9_isClaimRight 0 = .ok (.aload_n 0, 1) := by decide +kernel
theorem dX9_isClaimRight_1 : decode cX9_isClaimRight 1 = .ok (.getfield 41, 3) := by decide +kernel
theorem dX9_isClaimRight_4 : decode cX9_isClaimRight 4 = .ok (.iload_n 1, 1) := by decide +kernel
theorem dX9_isClaimRight_5 : decode cX9_isClaimRight 5 = .ok (.invokevirtual 142, 3) := by decide +kernel
theorem dX9_isClaimRight_8 : decode cX9_isClaimRight 8 = .ok (.ifCond .ne 36, 3) := by decide +kernel
theorem dX9_isClaimRight_11 : decode cX9_isClaimRight 11 = .ok (.aload_n 0, 1) := by decide +kernel
theorem dX9_isClaimRight_12 : decode cX9_isClaimRight 12 = .ok (.getfield 18, 3) := by decide +kernel
theorem dX9_isClaimRight_15 : decode cX9_isClaimRight 15 = .ok (.iload_n 1, 1) := by decide +kernel
theorem dX9_isClaimRight_16 : decode cX9_isClaimRight 16 = .ok (.iaload, 1) := by decide +kernel
theorem dX9_isClaimRight_17 : decode cX9_isClaimRight 17 = .ok (.aload_n 0, 1) := by decide +kernel
theorem dX9_isClaimRight_18 : decode cX9_isClaimRight 18 = .ok (.getfield 41, 3) := by decide +kernel
theorem dX9_isClaimRight_21 : decode cX9_isClaimRight 21 = .ok (.getfield 145, 3) := by decide +kernel
theorem dX9_isClaimRight_24 : decode cX9_isClaimRight 24 = .ok (.iload_n 1, 1) := by decide +kernel
theorem dX9_isClaimRight_25 : decode cX9_isClaimRight 25 = .ok (.iaload, 1) := by decide +kernel
theorem dX9_isClaimRight_26 : decode cX9_isClaimRight 26 = .ok (.if_icmp .ne 16, 3) := by decide +kernel
theorem dX9_isClaimRight_29 : decode cX9_isClaimRight 29 = .ok (.aload_n 0, 1) := by decide +kernel
theorem dX9_isClaimRight_30 : decode cX9_isClaimRight 30 = .ok (.getfield 21, 3) := by decide +kernel
theorem dX9_isClaimRight_33 : decode cX9_isClaimRight 33 = .ok (.iload_n 1, 1) := by decide +kernel
theorem dX9_isClaimRight_34 : decode cX9_isClaimRight 34 = .ok (.iaload, 1) := by decide +kernel
theorem dX9_isClaimRight_35 : decode cX9_isClaimRight 35 = .ok (.ifCond .ne 7, 3) := by decide +kernel
theorem dX9_isClaimRight_38 : decode cX9_isClaimRight 38 = .ok (.iconst 1, 1) := by decide +kernel
theorem dX9_isClaimRight_39 : decode cX9_isClaimRight 39 = .ok (.goto 4, 3) := by decide +kernel
theorem dX9_isClaimRight_42 : decode cX9_isClaimRight 42 = .ok (.iconst 0, 1) := by decide +kernel
theorem dX9_isClaimRight_43 : decode cX9_isClaimRight 43 = .ok (.ireturn, 1) := by decide +kernel
theorem dX9_isClaimRight_44 : decode cX9_isClaimRight 44 = .ok (.aload_n 0, 1) := by decide +kernel
theorem dX9_isClaimRight_45 : decode cX9_isClaimRight 45 = .ok (.getfield 18, 3) := by decide +kernel
theorem dX9_isClaimRight_48 : decode cX9_isClaimRight 48 = .ok (.iload_n 1, 1) := by decide +kernel
theorem dX9_isClaimRight_49 : decode cX9_isClaimRight 49 = .ok (.iaload, 1) := by decide +kernel
theorem dX9_isClaimRight_50 : decode cX9_isClaimRight 50 = .ok (.istore_n 2, 1) := by decide +kernel
theorem dX9_isClaimRight_51 : decode cX9_isClaimRight 51 = .ok (.iconst 0, 1) := by decide +kernel
theorem dX9_isClaimRight_52 : decode cX9_isClaimRight 52 = .ok (.istore_n 3, 1) := by decide +kernel
theorem dX9_isClaimRight_53 : decode cX9_isClaimRight 53 = .ok (.iconst 0, 1) := by decide +kernel
theorem dX9_isClaimRight_54 : decode cX9_isClaimRight 54 = .ok (.istore 4, 2) := by decide +kernel
theorem dX9_isClaimRight_56 : decode cX9_isClaimRight 56 = .ok (.iconst 1, 1) := by decide +kernel
theorem dX9_isClaimRight_57 : decode cX9_isClaimRight 57 = .ok (.istore 5, 2) := by decide +kernel
theorem dX9_isClaimRight_59 : decode cX9_isClaimRight 59 = .ok (.aload_n 0, 1) := by decide +kernel
theorem dX9_isClaimRight_60 : decode cX9_isClaimRight 60 = .ok (.getfield 41, 3) := by decide +kernel
theorem dX9_isClaimRight_63 : decode cX9_isClaimRight 63 = .ok (.getfield 103, 3) := by decide +kernel
theorem dX9_isClaimRight_66 : decode cX9_isClaimRight 66 = .ok (.iload_n 1, 1) := by decide +kernel
theorem dX9_isClaimRight_67 : decode cX9_isClaimRight 67 = .ok (.iaload, 1) := by decide +kernel
theorem dX9_isClaimRight_68 : decode cX9_isClaimRight 68 = .ok (.istore 6, 2) := by decide +kernel
theorem dX9_isClaimRight_70 : decode cX9_isClaimRight 70 = .ok (.iload 6, 2) := by decide +kernel
theorem dX9_isClaimRight_72 : decode cX9_isClaimRight 72 = .ok (.aload_n 0, 1) := by decide +kernel
theorem dX9_isClaimRight_73 : decode cX9_isClaimRight 73 = .ok (.getfield 41, 3) := by decide +kernel
theorem dX9_isClaimRight_76 : decode cX9_isClaimRight 76 = .ok (.getfield 103, 3) := by decide +kernel
theorem dX9_isClaimRight_79 : decode cX9_isClaimRight 79 = .ok (.iload_n 1, 1) := by decide +kernel
theorem dX9_isClaimRight_80 : decode cX9_isClaimRight 80 = .ok (.iconst 1, 1) := by decide +kernel
theorem dX9_isClaimRight_81 : decode cX9_isClaimRight 81 = .ok (.iadd, 1) := by decide +kernel
theorem dX9_isClaimRight_82 : decode cX9_isClaimRight 82 = .ok (.iaload, 1) := by decide +kernel
theorem dX9_isClaimRight_83 : decode cX9_isClaimRight 83 = .ok (.if_icmp .ge 101, 3) := by decide +kernel
theorem dX9_isClaimRight_86 : decode cX9_isClaimRight 86 = .ok (.aload_n 0, 1) := by decide +kernel
theorem dX9_isClaimRight_87 : decode cX9_isClaimRight 87 = .ok (.getfield 41, 3) := by decide +kernel
theorem dX9_isClaimRight_90 : decode cX9_isClaimRight 90 = .ok (.getfield 106, 3) := by decide +kernel
theorem dX9_isClaimRight_93 : decode cX9_isClaimRight 93 = .ok (.iload 6, 2) := by decide +kernel
theorem dX9_isClaimRight_95 : decode cX9_isClaimRight 95 = .ok (.iaload, 1) := by decide +kernel
theorem dX9_isClaimRight_96 : decode cX9_isClaimRight 96 = .ok (.istore 7, 2) := by decide +kernel
theorem dX9_isClaimRight_98 : decode cX9_isClaimRight 98 = .ok (.iload 7, 2) := by decide +kernel
theorem dX9_isClaimRight_100 : decode cX9_isClaimRight 100 = .ok (.invokestatic 96, 3) := by decide +kernel
theorem dX9_isClaimRight_103 : decode cX9_isClaimRight 103 = .ok (.aload_n 0, 1) := by decide +kernel
theorem dX9_isClaimRight_104 : decode cX9_isClaimRight 104 = .ok (.getfield 18, 3) := by decide +kernel
theorem dX9_isClaimRight_107 : decode cX9_isClaimRight 107 = .ok (.iload 7, 2) := by decide +kernel
theorem dX9_isClaimRight_109 : decode cX9_isClaimRight 109 = .ok (.invokestatic 100, 3) := by decide +kernel
theorem dX9_isClaimRight_112 : decode cX9_isClaimRight 112 = .ok (.iaload, 1) := by decide +kernel
theorem dX9_isClaimRight_113 : decode cX9_isClaimRight 113 = .ok (.isub, 1) := by decide +kernel
theorem dX9_isClaimRight_114 : decode cX9_isClaimRight 114 = .ok (.istore 8, 2) := by decide +kernel
theorem dX9_isClaimRight_116 : decode cX9_isClaimRight 116 = .ok (.iload 8, 2) := by decide +kernel
theorem dX9_isClaimRight_118 : decode cX9_isClaimRight 118 = .ok (.iload_n 2, 1) := by decide +kernel
theorem dX9_isClaimRight_119 : decode cX9_isClaimRight 119 = .ok (.if_icmp .le 5, 3) := by decide +kernel
theorem dX9_isClaimRight_122 : decode cX9_isClaimRight 122 = .ok (.iconst 0, 1) := by decide +kernel
theorem dX9_isClaimRight_123 : decode cX9_isClaimRight 123 = .ok (.ireturn, 1) := by decide +kernel
theorem dX9_isClaimRight_124 : decode cX9_isClaimRight 124 = .ok (.iload 8, 2) := by decide +kernel
theorem dX9_isClaimRight_126 : decode cX9_isClaimRight 126 = .ok (.iload_n 2, 1) := by decide +kernel
theorem dX9_isClaimRight_127 : decode cX9_isClaimRight 127 = .ok (.if_icmp .ne 51, 3) := by decide +kernel
theorem dX9_isClaimRight_130 : decode cX9_isClaimRight 130 = .ok (.iconst 1, 1) := by decide +kernel
theorem dX9_isClaimRight_131 : decode cX9_isClaimRight 131 = .ok (.istore_n 3, 1) := by decide +kernel
theorem dX9_isClaimRight_132 : decode cX9_isClaimRight 132 = .ok (.iload 7, 2) := by decide +kernel
theorem dX9_isClaimRight_134 : decode cX9_isClaimRight 134 = .ok (.iload_n 1, 1) := by decide +kernel
theorem dX9_isClaimRight_135 : decode cX9_isClaimRight 135 = .ok (.aload_n 0, 1) := by decide +kernel
theorem dX9_isClaimRight_136 : decode cX9_isClaimRight 136 = .ok (.getfield 21, 3) := by decide +kernel
theorem dX9_isClaimRight_139 : decode cX9_isClaimRight 139 = .ok (.invokestatic 112, 3) := by decide +kernel
theorem dX9_isClaimRight_142 : decode cX9_isClaimRight 142 = .ok (.istore 9, 2) := by decide +kernel
theorem dX9_isClaimRight_144 : decode cX9_isClaimRight 144 = .ok (.iload 4, 2) := by decide +kernel
theorem dX9_isClaimRight_146 : decode cX9_isClaimRight 146 = .ok (.ifCond .ne 8, 3) := by decide +kernel
theorem dX9_isClaimRight_149 : decode cX9_isClaimRight 149 = .ok (.iload 9, 2) := by decide +kernel
theorem dX9_isClaimRight_151 : decode cX9_isClaimRight 151 = .ok (.ifCond .eq 7, 3) := by decide +kernel
theorem dX9_isClaimRight_154 : decode cX9_isClaimRight 154 = .ok (.iconst 1, 1) := by decide +kernel
theorem dX9_isClaimRight_155 : decode cX9_isClaimRight 155 = .ok (.goto 4, 3) := by decide +kernel
theorem dX9_isClaimRight_158 : decode cX9_isClaimRight 158 = .ok (.iconst 0, 1) := by decide +kernel
theorem dX9_isClaimRight_159 : decode cX9_isClaimRight 159 = .ok (.istore 4, 2) := by decide +kernel
theorem dX9_isClaimRight_161 : decode cX9_isClaimRight 161 = .ok (.iload 5, 2) := by decide +kernel
theorem dX9_isClaimRight_163 : decode cX9_isClaimRight 163 = .ok (.ifCond .eq 12, 3) := by decide +kernel
theorem dX9_isClaimRight_166 : decode cX9_isClaimRight 166 = .ok (.iload 9, 2) := by decide +kernel
theorem dX9_isClaimRight_168 : decode cX9_isClaimRight 168 = .ok (.ifCond .eq 7, 3) := by decide +kernel
theorem dX9_isClaimRight_171 : decode cX9_isClaimRight 171 = .ok (.iconst 1, 1) := by decide +kernel
theorem dX9_isClaimRight_172 : decode cX9_isClaimRight 172 = .ok (.goto 4, 3) := by decide +kernel
theorem dX9_isClaimRight_175 : decode cX9_isClaimRight 175 = .ok (.iconst 0, 1) := by decide +kernel
theorem dX9_isClaimRight_176 : decode cX9_isClaimRight 176 = .ok (.istore 5, 2) := by decide +kernel
theorem dX9_isClaimRight_178 : decode cX9_isClaimRight 178 = .ok (.iinc 6 1, 3) := by decide +kernel
theorem dX9_isClaimRight_181 : decode cX9_isClaimRight 181 = .ok (.goto (-111), 3) := by decide +kernel
theorem dX9_isClaimRight_184 : decode cX9_isClaimRight 184 = .ok (.iload_n 3, 1) := by decide +kernel
theorem dX9_isClaimRight_185 : decode cX9_isClaimRight 185 = .ok (.ifCond .eq 25, 3) := by decide +kernel
theorem dX9_isClaimRight_188 : decode cX9_isClaimRight 188 = .ok (.iload_n 2, 1) := by decide +kernel
theorem dX9_isClaimRight_189 : decode cX9_isClaimRight 189 = .ok (.ifCond .le 8, 3) := by decide +kernel
theorem dX9_isClaimRight_192 : decode cX9_isClaimRight 192 = .ok (.iload 4, 2) := by decide +kernel
theorem dX9_isClaimRight_194 : decode cX9_isClaimRight 194 = .ok (.ifCond .eq 16, 3) := by decide +kernel
theorem dX9_isClaimRight_197 : decode cX9_isClaimRight 197 = .ok (.iload_n 2, 1) := by decide +kernel
theorem dX9_isClaimRight_198 : decode cX9_isClaimRight 198 = .ok (.ifCond .ge 8, 3) := by decide +kernel
theorem dX9_isClaimRight_201 : decode cX9_isClaimRight 201 = .ok (.iload 5, 2) := by decide +kernel
theorem dX9_isClaimRight_203 : decode cX9_isClaimRight 203 = .ok (.ifCond .eq 7, 3) := by decide +kernel
theorem dX9_isClaimRight_206 : decode cX9_isClaimRight 206 = .ok (.iconst 1, 1) := by decide +kernel
theorem dX9_isClaimRight_207 : decode cX9_isClaimRight 207 = .ok (.goto 4, 3) := by decide +kernel
theorem dX9_isClaimRight_210 : decode cX9_isClaimRight 210 = .ok (.iconst 0, 1) := by decide +kernel
theorem dX9_isClaimRight_211 : decode cX9_isClaimRight 211 = .ok (.ireturn, 1) := by decide +kernel
theorem dX9_firstWrongClaim_0 : decode cX9_firstWrongClaim 0 = .ok (.iconst 0, 1) := by decide +kernel
theorem dX9_firstWrongClaim_1 : decode cX9_firstWrongClaim 1 = .ok (.istore_n 1, 1) := by decide +kernel
theorem dX9_firstWrongClaim_2 : decode cX9_firstWrongClaim 2 = .ok (.iconst 0, 1) := by decide +kernel
theorem dX9_firstWrongClaim_3 : decode cX9_firstWrongClaim 3 = .ok (.istore_n 2, 1) := by decide +kernel
theorem dX9_firstWrongClaim_4 : decode cX9_firstWrongClaim 4 = .ok (.iload_n 2, 1) := by decide +kernel
theorem dX9_firstWrongClaim_5 : decode cX9_firstWrongClaim 5 = .ok (.aload_n 0, 1) := by decide +kernel
theorem dX9_firstWrongClaim_6 : decode cX9_firstWrongClaim 6 = .ok (.getfield 54, 3) := by decide +kernel
theorem dX9_firstWrongClaim_9 : decode cX9_firstWrongClaim 9 = .ok (.if_icmp .ge 50, 3) := by decide +kernel
theorem dX9_firstWrongClaim_12 : decode cX9_firstWrongClaim 12 = .ok (.aload_n 0, 1) := by decide +kernel
theorem dX9_firstWrongClaim_13 : decode cX9_firstWrongClaim 13 = .ok (.getfield 41, 3) := by decide +kernel
theorem dX9_firstWrongClaim_16 : decode cX9_firstWrongClaim 16 = .ok (.iload_n 2, 1) := by decide +kernel
theorem dX9_firstWrongClaim_17 : decode cX9_firstWrongClaim 17 = .ok (.invokevirtual 89, 3) := by decide +kernel
theorem dX9_firstWrongClaim_20 : decode cX9_firstWrongClaim 20 = .ok (.iconst 2, 1) := by decide +kernel
theorem dX9_firstWrongClaim_21 : decode cX9_firstWrongClaim 21 = .ok (.aload_n 0, 1) := by decide +kernel
theorem dX9_firstWrongClaim_22 : decode cX9_firstWrongClaim 22 = .ok (.getfield 37, 3) := by decide +kernel
theorem dX9_firstWrongClaim_25 : decode cX9_firstWrongClaim 25 = .ok (.iload_n 2, 1) := by decide +kernel
theorem dX9_firstWrongClaim_26 : decode cX9_firstWrongClaim 26 = .ok (.invokevirtual 58, 3) := by decide +kernel
theorem dX9_firstWrongClaim_29 : decode cX9_firstWrongClaim 29 = .ok (.l2i, 1) := by decide +kernel
theorem dX9_firstWrongClaim_30 : decode cX9_firstWrongClaim 30 = .ok (.imul, 1) := by decide +kernel
theorem dX9_firstWrongClaim_31 : decode cX9_firstWrongClaim 31 = .ok (.istore_n 3, 1) := by decide +kernel
theorem dX9_firstWrongClaim_32 : decode cX9_firstWrongClaim 32 = .ok (.iload_n 1, 1) := by decide +kernel
theorem dX9_firstWrongClaim_33 : decode cX9_firstWrongClaim 33 = .ok (.iload_n 3, 1) := by decide +kernel
theorem dX9_firstWrongClaim_34 : decode cX9_firstWrongClaim 34 = .ok (.if_icmp .ge 19, 3) := by decide +kernel
theorem dX9_firstWrongClaim_37 : decode cX9_firstWrongClaim 37 = .ok (.aload_n 0, 1) := by decide +kernel
theorem dX9_firstWrongClaim_38 : decode cX9_firstWrongClaim 38 = .ok (.iload_n 1, 1) := by decide +kernel
theorem dX9_firstWrongClaim_39 : decode cX9_firstWrongClaim 39 = .ok (.invokevirtual 122, 3) := by decide +kernel
theorem dX9_firstWrongClaim_42 : decode cX9_firstWrongClaim 42 = .ok (.ifCond .ne 5, 3) := by decide +kernel
theorem dX9_firstWrongClaim_45 : decode cX9_firstWrongClaim 45 = .ok (.iload_n 1, 1) := by decide +kernel
theorem dX9_firstWrongClaim_46 : decode cX9_firstWrongClaim 46 = .ok (.ireturn, 1) := by decide +kernel
theorem dX9_firstWrongClaim_47 : decode cX9_firstWrongClaim 47 = .ok (.iinc 1 1, 3) := by decide +kernel
theorem dX9_firstWrongClaim_50 : decode cX9_firstWrongClaim 50 = .ok (.goto (-18), 3) := by decide +kernel
theorem dX9_firstWrongClaim_53 : decode cX9_firstWrongClaim 53 = .ok (.iinc 2 1, 3) := by decide +kernel
theorem dX9_firstWrongClaim_56 : decode cX9_firstWrongClaim 56 = .ok (.goto (-52), 3) := by decide +kernel
theorem dX9_firstWrongClaim_59 : decode cX9_firstWrongClaim 59 = .ok (.aload_n 0, 1) := by decide +kernel
theorem dX9_firstWrongClaim_60 : decode cX9_firstWrongClaim 60 = .ok (.getfield 64, 3) := by decide +kernel
theorem dX9_firstWrongClaim_63 : decode cX9_firstWrongClaim 63 = .ok (.ireturn, 1) := by decide +kernel
theorem dX9_digestFrom_0 : decode cX9_digestFrom 0 = .ok (.lload_n 1, 1) := by decide +kernel
theorem dX9_digestFrom_1 : decode cX9_digestFrom 1 = .ok (.ldc2_w 125, 3) := by decide +kernel
theorem dX9_digestFrom_4 : decode cX9_digestFrom 4 = .ok (.lmul, 1) := by decide +kernel
theorem dX9_digestFrom_5 : decode cX9_digestFrom 5 = .ok (.aload_n 0, 1) := by decide +kernel
theorem dX9_digestFrom_6 : decode cX9_digestFrom 6 = .ok (.getfield 70, 3) := by decide +kernel
theorem dX9_digestFrom_9 : decode cX9_digestFrom 9 = .ok (.i2l, 1) := by decide +kernel
theorem dX9_digestFrom_10 : decode cX9_digestFrom 10 = .ok (.ladd, 1) := by decide +kernel
theorem dX9_digestFrom_11 : decode cX9_digestFrom 11 = .ok (.lstore_n 3, 1) := by decide +kernel
theorem dX9_digestFrom_12 : decode cX9_digestFrom 12 = .ok (.iconst 0, 1) := by decide +kernel
theorem dX9_digestFrom_13 : decode cX9_digestFrom 13 = .ok (.istore 5, 2) := by decide +kernel
theorem dX9_digestFrom_15 : decode cX9_digestFrom 15 = .ok (.iload 5, 2) := by decide +kernel
theorem dX9_digestFrom_17 : decode cX9_digestFrom 17 = .ok (.aload_n 0, 1) := by decide +kernel
theorem dX9_digestFrom_18 : decode cX9_digestFrom 18 = .ok (.getfield 70, 3) := by decide +kernel
theorem dX9_digestFrom_21 : decode cX9_digestFrom 21 = .ok (.if_icmp .ge 69, 3) := by decide +kernel
theorem dX9_digestFrom_24 : decode cX9_digestFrom 24 = .ok (.lload_n 3, 1) := by decide +kernel
theorem dX9_digestFrom_25 : decode cX9_digestFrom 25 = .ok (.ldc2_w 125, 3) := by decide +kernel
theorem dX9_digestFrom_28 : decode cX9_digestFrom 28 = .ok (.lmul, 1) := by decide +kernel
theorem dX9_digestFrom_29 : decode cX9_digestFrom 29 = .ok (.aload_n 0, 1) := by decide +kernel
theorem dX9_digestFrom_30 : decode cX9_digestFrom 30 = .ok (.getfield 9, 3) := by decide +kernel
theorem dX9_digestFrom_33 : decode cX9_digestFrom 33 = .ok (.iload 5, 2) := by decide +kernel
theorem dX9_digestFrom_35 : decode cX9_digestFrom 35 = .ok (.iaload, 1) := by decide +kernel
theorem dX9_digestFrom_36 : decode cX9_digestFrom 36 = .ok (.i2l, 1) := by decide +kernel
theorem dX9_digestFrom_37 : decode cX9_digestFrom 37 = .ok (.ladd, 1) := by decide +kernel
theorem dX9_digestFrom_38 : decode cX9_digestFrom 38 = .ok (.lstore_n 3, 1) := by decide +kernel
theorem dX9_digestFrom_39 : decode cX9_digestFrom 39 = .ok (.lload_n 3, 1) := by decide +kernel
theorem dX9_digestFrom_40 : decode cX9_digestFrom 40 = .ok (.ldc2_w 125, 3) := by decide +kernel
theorem dX9_digestFrom_43 : decode cX9_digestFrom 43 = .ok (.lmul, 1) := by decide +kernel
theorem dX9_digestFrom_44 : decode cX9_digestFrom 44 = .ok (.aload_n 0, 1) := by decide +kernel
theorem dX9_digestFrom_45 : decode cX9_digestFrom 45 = .ok (.getfield 15, 3) := by decide +kernel
theorem dX9_digestFrom_48 : decode cX9_digestFrom 48 = .ok (.iload 5, 2) := by decide +kernel
theorem dX9_digestFrom_50 : decode cX9_digestFrom 50 = .ok (.iaload, 1) := by decide +kernel
theorem dX9_digestFrom_51 : decode cX9_digestFrom 51 = .ok (.i2l, 1) := by decide +kernel
theorem dX9_digestFrom_52 : decode cX9_digestFrom 52 = .ok (.ladd, 1) := by decide +kernel
theorem dX9_digestFrom_53 : decode cX9_digestFrom 53 = .ok (.lstore_n 3, 1) := by decide +kernel
theorem dX9_digestFrom_54 : decode cX9_digestFrom 54 = .ok (.lload_n 3, 1) := by decide +kernel
theorem dX9_digestFrom_55 : decode cX9_digestFrom 55 = .ok (.ldc2_w 125, 3) := by decide +kernel
theorem dX9_digestFrom_58 : decode cX9_digestFrom 58 = .ok (.lmul, 1) := by decide +kernel
theorem dX9_digestFrom_59 : decode cX9_digestFrom 59 = .ok (.aload_n 0, 1) := by decide +kernel
theorem dX9_digestFrom_60 : decode cX9_digestFrom 60 = .ok (.getfield 18, 3) := by decide +kernel
theorem dX9_digestFrom_63 : decode cX9_digestFrom 63 = .ok (.iload 5, 2) := by decide +kernel
theorem dX9_digestFrom_65 : decode cX9_digestFrom 65 = .ok (.iaload, 1) := by decide +kernel
theorem dX9_digestFrom_66 : decode cX9_digestFrom 66 = .ok (.i2l, 1) := by decide +kernel
theorem dX9_digestFrom_67 : decode cX9_digestFrom 67 = .ok (.ladd, 1) := by decide +kernel
theorem dX9_digestFrom_68 : decode cX9_digestFrom 68 = .ok (.lstore_n 3, 1) := by decide +kernel
theorem dX9_digestFrom_69 : decode cX9_digestFrom 69 = .ok (.lload_n 3, 1) := by decide +kernel
theorem dX9_digestFrom_70 : decode cX9_digestFrom 70 = .ok (.ldc2_w 125, 3) := by decide +kernel
theorem dX9_digestFrom_73 : decode cX9_digestFrom 73 = .ok (.lmul, 1) := by decide +kernel
theorem dX9_digestFrom_74 : decode cX9_digestFrom 74 = .ok (.aload_n 0, 1) := by decide +kernel
theorem dX9_digestFrom_75 : decode cX9_digestFrom 75 = .ok (.getfield 21, 3) := by decide +kernel
theorem dX9_digestFrom_78 : decode cX9_digestFrom 78 = .ok (.iload 5, 2) := by decide +kernel
theorem dX9_digestFrom_80 : decode cX9_digestFrom 80 = .ok (.iaload, 1) := by decide +kernel
theorem dX9_digestFrom_81 : decode cX9_digestFrom 81 = .ok (.i2l, 1) := by decide +kernel
theorem dX9_digestFrom_82 : decode cX9_digestFrom 82 = .ok (.ladd, 1) := by decide +kernel
theorem dX9_digestFrom_83 : decode cX9_digestFrom 83 = .ok (.lstore_n 3, 1) := by decide +kernel
theorem dX9_digestFrom_84 : decode cX9_digestFrom 84 = .ok (.iinc 5 1, 3) := by decide +kernel
theorem dX9_digestFrom_87 : decode cX9_digestFrom 87 = .ok (.goto (-72), 3) := by decide +kernel
theorem dX9_digestFrom_90 : decode cX9_digestFrom 90 = .ok (.lload_n 3, 1) := by decide +kernel
theorem dX9_digestFrom_91 : decode cX9_digestFrom 91 = .ok (.lreturn, 1) := by decide +kernel
theorem dX10_init_0 : decode cX10_init 0 = .ok (.aload_n 0, 1) := by decide +kernel
theorem dX10_init_1 : decode cX10_init 1 = .ok (.invokespecial 3, 3) := by decide +kernel
theorem dX10_init_4 : decode cX10_init 4 = .ok (.aload_n 0, 1) := by decide +kernel
theorem dX10_init_5 : decode cX10_init 5 = .ok (.bipush 32, 2) := by decide +kernel
theorem dX10_init_7 : decode cX10_init 7 = .ok (.newarray .boolean, 2) := by decide +kernel
theorem dX10_init_9 : decode cX10_init 9 = .ok (.putfield 9, 3) := by decide +kernel
theorem dX10_init_12 : decode cX10_init 12 = .ok (.aload_n 0, 1) := by decide +kernel
theorem dX10_init_13 : decode cX10_init 13 = .ok (.bipush 32, 2) := by decide +kernel
theorem dX10_init_15 : decode cX10_init 15 = .ok (.newarray .int, 2) := by decide +kernel
theorem dX10_init_17 : decode cX10_init 17 = .ok (.putfield 15, 3) := by decide +kernel
theorem dX10_init_20 : decode cX10_init 20 = .ok (.aload_n 0, 1) := by decide +kernel
theorem dX10_init_21 : decode cX10_init 21 = .ok (.bipush 32, 2) := by decide +kernel
theorem dX10_init_23 : decode cX10_init 23 = .ok (.bipush 32, 2) := by decide +kernel
theorem dX10_init_25 : decode cX10_init 25 = .ok (.multianewarray 19 2, 4) := by decide +kernel
theorem dX10_init_29 : decode cX10_init 29 = .ok (.putfield 21, 3) := by decide +kernel
theorem dX10_init_32 : decode cX10_init 32 = .ok (.aload_n 0, 1) := by decide +kernel
theorem dX10_init_33 : decode cX10_init 33 = .ok (.bipush 32, 2) := by decide +kernel
theorem dX10_init_35 : decode cX10_init 35 = .ok (.newarray .int, 2) := by decide +kernel
theorem dX10_init_37 : decode cX10_init 37 = .ok (.putfield 24, 3) := by decide +kernel
theorem dX10_init_40 : decode cX10_init 40 = .ok (.aload_n 0, 1) := by decide +kernel
theorem dX10_init_41 : decode cX10_init 41 = .ok (.aload_n 1, 1) := by decide +kernel
theorem dX10_init_42 : decode cX10_init 42 = .ok (.putfield 27, 3) := by decide +kernel
theorem dX10_init_45 : decode cX10_init 45 = .ok (.aload_n 0, 1) := by decide +kernel
theorem dX10_init_46 : decode cX10_init 46 = .ok (.aload_n 2, 1) := by decide +kernel
theorem dX10_init_47 : decode cX10_init 47 = .ok (.putfield 31, 3) := by decide +kernel
theorem dX10_init_50 : decode cX10_init 50 = .ok (.return_, 1) := by decide +kernel
theorem dX10_isLong_0 : decode cX10_isLong 0 = .ok (.aload_n 0, 1) := by decide +kernel
theorem dX10_isLong_1 : decode cX10_isLong 1 = .ok (.getfield 24, 3) := by decide +kernel
theorem dX10_isLong_4 : decode cX10_isLong 4 = .ok (.iload_n 1, 1) := by decide +kernel
theorem dX10_isLong_5 : decode cX10_isLong 5 = .ok (.iaload, 1) := by decide +kernel
theorem dX10_isLong_6 : decode cX10_isLong 6 = .ok (.iconst (-1), 1) := by decide +kernel
theorem dX10_isLong_7 : decode cX10_isLong 7 = .ok (.if_icmp .ne 7, 3) := by decide +kernel
theorem dX10_isLong_10 : decode cX10_isLong 10 = .ok (.iconst 1, 1) := by decide +kernel
theorem dX10_isLong_11 : decode cX10_isLong 11 = .ok (.goto 4, 3) := by decide +kernel
theorem dX10_isLong_14 : decode cX10_isLong 14 = .ok (.iconst 0, 1) := by decide +kernel
theorem dX10_isLong_15 : decode cX10_isLong 15 = .ok (.ireturn, 1) := by decide +kernel
theorem dX10_openAt_0 : decode cX10_openAt 0 = .ok (.iconst 0, 1) := by decide +kernel
theorem dX10_openAt_1 : decode cX10_openAt 1 = .ok (.istore_n 2, 1) := by decide +kernel
theorem dX10_openAt_2 : decode cX10_openAt 2 = .ok (.iconst 0, 1) := by decide +kernel
theorem dX10_openAt_3 : decode cX10_openAt 3 = .ok (.istore_n 3, 1) := by decide +kernel
theorem dX10_openAt_4 : decode cX10_openAt 4 = .ok (.iload_n 3, 1) := by decide +kernel
theorem dX10_openAt_5 : decode cX10_openAt 5 = .ok (.aload_n 0, 1) := by decide +kernel
theorem dX10_openAt_6 : decode cX10_openAt 6 = .ok (.getfield 27, 3) := by decide +kernel
theorem dX10_openAt_9 : decode cX10_openAt 9 = .ok (.getfield 35, 3) := by decide +kernel
theorem dX10_openAt_12 : decode cX10_openAt 12 = .ok (.if_icmp .ge 28, 3) := by decide +kernel
theorem dX10_openAt_15 : decode cX10_openAt 15 = .ok (.aload_n 0, 1) := by decide +kernel
theorem dX10_openAt_16 : decode cX10_openAt 16 = .ok (.getfield 9, 3) := by decide +kernel
theorem dX10_openAt_19 : decode cX10_openAt 19 = .ok (.iload_n 3, 1) := by decide +kernel
theorem dX10_openAt_20 : decode cX10_openAt 20 = .ok (.baload, 1) := by decide +kernel
theorem dX10_openAt_21 : decode cX10_openAt 21 = .ok (.ifCond .eq 13, 3) := by decide +kernel
theorem dX10_openAt_24 : decode cX10_openAt 24 = .ok (.iload_n 2, 1) := by decide +kernel
theorem dX10_openAt_25 : decode cX10_openAt 25 = .ok (.iload_n 1, 1) := by decide +kernel
theorem dX10_openAt_26 : decode cX10_openAt 26 = .ok (.if_icmp .ne 5, 3) := by decide +kernel
theorem dX10_openAt_29 : decode cX10_openAt 29 = .ok (.iload_n 3, 1) := by decide +kernel
theorem dX10_openAt_30 : decode cX10_openAt 30 = .ok (.ireturn, 1) := by decide +kernel
theorem dX10_openAt_31 : decode cX10_openAt 31 = .ok (.iinc 2 1, 3) := by decide +kernel
theorem dX10_openAt_34 : decode cX10_openAt 34 = .ok (.iinc 3 1, 3) := by decide +kernel
theorem dX10_openAt_37 : decode cX10_openAt 37 = .ok (.goto (-33), 3) := by decide +kernel
theorem dX10_openAt_40 : decode cX10_openAt 40 = .ok (.iconst 0, 1) := by decide +kernel
theorem dX10_openAt_41 : decode cX10_openAt 41 = .ok (.ireturn, 1) := by decide +kernel
theorem dX10_openTakingMost_0 : decode cX10_openTakingMost 0 = .ok (.aload_n 0, 1) := by decide +kernel
theorem dX10_openTakingMost_1 : decode cX10_openTakingMost 1 = .ok (.iconst 0, 1) := by decide +kernel
theorem dX10_openTakingMost_2 : decode cX10_openTakingMost 2 = .ok (.invokevirtual 54, 3) := by decide +kernel
theorem dX10_openTakingMost_5 : decode cX10_openTakingMost 5 = .ok (.istore_n 1, 1) := by decide +kernel
theorem dX10_openTakingMost_6 : decode cX10_openTakingMost 6 = .ok (.iconst 0, 1) := by decide +kernel
theorem dX10_openTakingMost_7 : decode cX10_openTakingMost 7 = .ok (.istore_n 2, 1) := by decide +kernel
theorem dX10_openTakingMost_8 : decode cX10_openTakingMost 8 = .ok (.iload_n 2, 1) := by decide +kernel
theorem dX10_openTakingMost_9 : decode cX10_openTakingMost 9 = .ok (.aload_n 0, 1) := by decide +kernel
theorem dX10_openTakingMost_10 : decode cX10_openTakingMost 10 = .ok (.getfield 27, 3) := by decide +kernel
theorem dX10_openTakingMost_13 : decode cX10_openTakingMost 13 = .ok (.getfield 35, 3) := by decide +kernel
theorem dX10_openTakingMost_16 : decode cX10_openTakingMost 16 = .ok (.if_icmp .ge 35, 3) := by decide +kernel
theorem dX10_openTakingMost_19 : decode cX10_openTakingMost 19 = .ok (.aload_n 0, 1) := by decide +kernel
theorem dX10_openTakingMost_20 : decode cX10_openTakingMost 20 = .ok (.getfield 9, 3) := by decide +kernel
theorem dX10_openTakingMost_23 : decode cX10_openTakingMost 23 = .ok (.iload_n 2, 1) := by decide +kernel
theorem dX10_openTakingMost_24 : decode cX10_openTakingMost 24 = .ok (.baload, 1) := by decide +kernel
theorem dX10_openTakingMost_25 : decode cX10_openTakingMost 25 = .ok (.ifCond .eq 20, 3) := by decide +kernel
theorem dX10_openTakingMost_28 : decode cX10_openTakingMost 28 = .ok (.aload_n 0, 1) := by decide +kernel
theorem dX10_openTakingMost_29 : decode cX10_openTakingMost 29 = .ok (.getfield 15, 3) := by decide +kernel
theorem dX10_openTakingMost_32 : decode cX10_openTakingMost 32 = .ok (.iload_n 2, 1) := by decide +kernel
theorem dX10_openTakingMost_33 : decode cX10_openTakingMost 33 = .ok (.iaload, 1) := by decide +kernel
theorem dX10_openTakingMost_34 : decode cX10_openTakingMost 34 = .ok (.aload_n 0, 1) := by decide +kernel
theorem dX10_openTakingMost_35 : decode cX10_openTakingMost 35 = .ok (.getfield 15, 3) := by decide +kernel
theorem dX10_openTakingMost_38 : decode cX10_openTakingMost 38 = .ok (.iload_n 1, 1) := by decide +kernel
theorem dX10_openTakingMost_39 : decode cX10_openTakingMost 39 = .ok (.iaload, 1) := by decide +kernel
theorem dX10_openTakingMost_40 : decode cX10_openTakingMost 40 = .ok (.if_icmp .le 5, 3) := by decide +kernel
theorem dX10_openTakingMost_43 : decode cX10_openTakingMost 43 = .ok (.iload_n 2, 1) := by decide +kernel
theorem dX10_openTakingMost_44 : decode cX10_openTakingMost 44 = .ok (.istore_n 1, 1) := by decide +kernel
theorem dX10_openTakingMost_45 : decode cX10_openTakingMost 45 = .ok (.iinc 2 1, 3) := by decide +kernel
theorem dX10_openTakingMost_48 : decode cX10_openTakingMost 48 = .ok (.goto (-40), 3) := by decide +kernel
theorem dX10_openTakingMost_51 : decode cX10_openTakingMost 51 = .ok (.iload_n 1, 1) := by decide +kernel
theorem dX10_openTakingMost_52 : decode cX10_openTakingMost 52 = .ok (.ireturn, 1) := by decide +kernel
theorem dX11_forgetRuling_0 : decode cX11_forgetRuling 0 = .ok (.aload_n 0, 1) := by decide +kernel
theorem dX11_forgetRuling_1 : decode cX11_forgetRuling 1 = .ok (.getfield 51, 3) := by decide +kernel
theorem dX11_forgetRuling_4 : decode cX11_forgetRuling 4 = .ok (.invokevirtual 122, 3) := by decide +kernel
theorem dX11_forgetRuling_7 : decode cX11_forgetRuling 7 = .ok (.aload_n 0, 1) := by decide +kernel
theorem dX11_forgetRuling_8 : decode cX11_forgetRuling 8 = .ok (.getfield 65, 3) := by decide +kernel
theorem dX11_forgetRuling_11 : decode cX11_forgetRuling 11 = .ok (.invokevirtual 349, 3) := by decide +kernel
theorem dX11_forgetRuling_14 : decode cX11_forgetRuling 14 = .ok (.return_, 1) := by decide +kernel
theorem dX11_layBoard_0 : decode cX11_layBoard 0 = .ok (.aload_n 0, 1) := by decide +kernel
theorem dX11_layBoard_1 : decode cX11_layBoard 1 = .ok (.getfield 12, 3) := by decide +kernel
theorem dX11_layBoard_4 : decode cX11_layBoard 4 = .ok (.iload_n 1, 1) := by decide +kernel
theorem dX11_layBoard_5 : decode cX11_layBoard 5 = .ok (.iload_n 2, 1) := by decide +kernel
theorem dX11_layBoard_6 : decode cX11_layBoard 6 = .ok (.invokevirtual 342, 3) := by decide +kernel
theorem dX11_layBoard_9 : decode cX11_layBoard 9 = .ok (.aload_n 0, 1) := by decide +kernel
theorem dX11_layBoard_10 : decode cX11_layBoard 10 = .ok (.getfield 19, 3) := by decide +kernel
theorem dX11_layBoard_13 : decode cX11_layBoard 13 = .ok (.invokevirtual 345, 3) := by decide +kernel
theorem dX11_layBoard_16 : decode cX11_layBoard 16 = .ok (.aload_n 0, 1) := by decide +kernel
theorem dX11_layBoard_17 : decode cX11_layBoard 17 = .ok (.getfield 26, 3) := by decide +kernel
theorem dX11_layBoard_20 : decode cX11_layBoard 20 = .ok (.invokevirtual 348, 3) := by decide +kernel
theorem dX11_layBoard_23 : decode cX11_layBoard 23 = .ok (.aload_n 0, 1) := by decide +kernel
theorem dX11_layBoard_24 : decode cX11_layBoard 24 = .ok (.getfield 79, 3) := by decide +kernel
theorem dX11_layBoard_27 : decode cX11_layBoard 27 = .ok (.iconst 0, 1) := by decide +kernel
theorem dX11_layBoard_28 : decode cX11_layBoard 28 = .ok (.aaload, 1) := by decide +kernel
theorem dX11_layBoard_29 : decode cX11_layBoard 29 = .ok (.iconst 0, 1) := by decide +kernel
theorem dX11_layBoard_30 : decode cX11_layBoard 30 = .ok (.lconst 0, 1) := by decide +kernel
theorem dX11_layBoard_31 : decode cX11_layBoard 31 = .ok (.invokevirtual 320, 3) := by decide +kernel
theorem dX11_layBoard_34 : decode cX11_layBoard 34 = .ok (.aload_n 0, 1) := by decide +kernel
theorem dX11_layBoard_35 : decode cX11_layBoard 35 = .ok (.getfield 79, 3) := by decide +kernel
theorem dX11_layBoard_38 : decode cX11_layBoard 38 = .ok (.iconst 1, 1) := by decide +kernel
theorem dX11_layBoard_39 : decode cX11_layBoard 39 = .ok (.aaload, 1) := by decide +kernel
theorem dX11_layBoard_40 : decode cX11_layBoard 40 = .ok (.iconst 0, 1) := by decide +kernel
theorem dX11_layBoard_41 : decode cX11_layBoard 41 = .ok (.lconst 0, 1) := by decide +kernel
theorem dX11_layBoard_42 : decode cX11_layBoard 42 = .ok (.invokevirtual 320, 3) := by decide +kernel
theorem dX11_layBoard_45 : decode cX11_layBoard 45 = .ok (.aload_n 0, 1) := by decide +kernel
theorem dX11_layBoard_46 : decode cX11_layBoard 46 = .ok (.getfield 72, 3) := by decide +kernel
theorem dX11_layBoard_49 : decode cX11_layBoard 49 = .ok (.invokevirtual 244, 3) := by decide +kernel
theorem dX11_layBoard_52 : decode cX11_layBoard 52 = .ok (.aload_n 0, 1) := by decide +kernel
theorem dX11_layBoard_53 : decode cX11_layBoard 53 = .ok (.invokevirtual 119, 3) := by decide +kernel
theorem dX11_layBoard_56 : decode cX11_layBoard 56 = .ok (.return_, 1) := by decide +kernel
theorem dX11_init_0 : decode cX11_init 0 = .ok (.aload_n 0, 1) := by decide +kernel
theorem dX11_init_1 : decode cX11_init 1 = .ok (.invokespecial 3, 3) := by decide +kernel
theorem dX11_init_4 : decode cX11_init 4 = .ok (.aload_n 0, 1) := by decide +kernel
theorem dX11_init_5 : decode cX11_init 5 = .ok (.new 9, 3) := by decide +kernel
theorem dX11_init_8 : decode cX11_init 8 = .ok (.dup, 1) := by decide +kernel
theorem dX11_init_9 : decode cX11_init 9 = .ok (.invokespecial 11, 3) := by decide +kernel
theorem dX11_init_12 : decode cX11_init 12 = .ok (.putfield 12, 3) := by decide +kernel
theorem dX11_init_15 : decode cX11_init 15 = .ok (.aload_n 0, 1) := by decide +kernel
theorem dX11_init_16 : decode cX11_init 16 = .ok (.new 16, 3) := by decide +kernel
theorem dX11_init_19 : decode cX11_init 19 = .ok (.dup, 1) := by decide +kernel
theorem dX11_init_20 : decode cX11_init 20 = .ok (.invokespecial 18, 3) := by decide +kernel
theorem dX11_init_23 : decode cX11_init 23 = .ok (.putfield 19, 3) := by decide +kernel
theorem dX11_init_26 : decode cX11_init 26 = .ok (.aload_n 0, 1) := by decide +kernel
theorem dX11_init_27 : decode cX11_init 27 = .ok (.new 23, 3) := by decide +kernel
theorem dX11_init_30 : decode cX11_init 30 = .ok (.dup, 1) := by decide +kernel
theorem dX11_init_31 : decode cX11_init 31 = .ok (.invokespecial 25, 3) := by decide +kernel
theorem dX11_init_34 : decode cX11_init 34 = .ok (.putfield 26, 3) := by decide +kernel
theorem dX11_init_37 : decode cX11_init 37 = .ok (.aload_n 0, 1) := by decide +kernel
theorem dX11_init_38 : decode cX11_init 38 = .ok (.new 30, 3) := by decide +kernel
theorem dX11_init_41 : decode cX11_init 41 = .ok (.dup, 1) := by decide +kernel
theorem dX11_init_42 : decode cX11_init 42 = .ok (.aload_n 0, 1) := by decide +kernel
theorem dX11_init_43 : decode cX11_init 43 = .ok (.getfield 12, 3) := by decide +kernel
theorem dX11_init_46 : decode cX11_init 46 = .ok (.aload_n 0, 1) := by decide +kernel
theorem dX11_init_47 : decode cX11_init 47 = .ok (.getfield 19, 3) := by decide +kernel
theorem dX11_init_50 : decode cX11_init 50 = .ok (.invokespecial 32, 3) := by decide +kernel
theorem dX11_init_53 : decode cX11_init 53 = .ok (.putfield 35, 3) := by decide +kernel
theorem dX11_init_56 : decode cX11_init 56 = .ok (.aload_n 0, 1) := by decide +kernel
theorem dX11_init_57 : decode cX11_init 57 = .ok (.new 39, 3) := by decide +kernel
theorem dX11_init_60 : decode cX11_init 60 = .ok (.dup, 1) := by decide +kernel
theorem dX11_init_61 : decode cX11_init 61 = .ok (.aload_n 0, 1) := by decide +kernel
theorem dX11_init_62 : decode cX11_init 62 = .ok (.getfield 12, 3) := by decide +kernel
theorem dX11_init_65 : decode cX11_init 65 = .ok (.invokespecial 41, 3) := by decide +kernel
theorem dX11_init_68 : decode cX11_init 68 = .ok (.putfield 44, 3) := by decide +kernel
theorem dX11_init_71 : decode cX11_init 71 = .ok (.aload_n 0, 1) := by decide +kernel
theorem dX11_init_72 : decode cX11_init 72 = .ok (.new 48, 3) := by decide +kernel
theorem dX11_init_75 : decode cX11_init 75 = .ok (.dup, 1) := by decide +kernel
theorem dX11_init_76 : decode cX11_init 76 = .ok (.invokespecial 50, 3) := by decide +kernel
theorem dX11_init_79 : decode cX11_init 79 = .ok (.putfield 51, 3) := by decide +kernel
theorem dX11_init_82 : decode cX11_init 82 = .ok (.aload_n 0, 1) := by decide +kernel
theorem dX11_init_83 : decode cX11_init 83 = .ok (.new 55, 3) := by decide +kernel
theorem dX11_init_86 : decode cX11_init 86 = .ok (.dup, 1) := by decide +kernel
theorem dX11_init_87 : decode cX11_init 87 = .ok (.aload_n 0, 1) := by decide +kernel
theorem dX11_init_88 : decode cX11_init 88 = .ok (.getfield 12, 3) := by decide +kernel
theorem dX11_init_91 : decode cX11_init 91 = .ok (.aload_n 0, 1) := by decide +kernel
theorem dX11_init_92 : decode cX11_init 92 = .ok (.getfield 44, 3) := by decide +kernel
theorem dX11_init_95 : decode cX11_init 95 = .ok (.new 57, 3) := by decide +kernel
theorem dX11_init_98 : decode cX11_init 98 = .ok (.dup, 1) := by decide +kernel
theorem dX11_init_99 : decode cX11_init 99 = .ok (.aload_n 0, 1) := by decide +kernel
theorem dX11_init_100 : decode cX11_init 100 = .ok (.getfield 12, 3) := by decide +kernel
theorem dX11_init_103 : decode cX11_init 103 = .ok (.aload_n 0, 1) := by decide +kernel
theorem dX11_init_104 : decode cX11_init 104 = .ok (.getfield 19, 3) := by decide +kernel
theorem dX11_init_107 : decode cX11_init 107 = .ok (.aload_n 0, 1) := by decide +kernel
theorem dX11_init_108 : decode cX11_init 108 = .ok (.getfield 35, 3) := by decide +kernel
theorem dX11_init_111 : decode cX11_init 111 = .ok (.aload_n 0, 1) := by decide +kernel
theorem dX11_init_112 : decode cX11_init 112 = .ok (.getfield 44, 3) := by decide +kernel
theorem dX11_init_115 : decode cX11_init 115 = .ok (.invokespecial 59, 3) := by decide +kernel
theorem dX11_init_118 : decode cX11_init 118 = .ok (.invokespecial 62, 3) := by decide +kernel
theorem dX11_init_121 : decode cX11_init 121 = .ok (.putfield 65, 3) := by decide +kernel
theorem dX11_init_124 : decode cX11_init 124 = .ok (.aload_n 0, 1) := by decide +kernel
theorem dX11_init_125 : decode cX11_init 125 = .ok (.new 69, 3) := by decide +kernel
theorem dX11_init_128 : decode cX11_init 128 = .ok (.dup, 1) := by decide +kernel
theorem dX11_init_129 : decode cX11_init 129 = .ok (.invokespecial 71, 3) := by decide +kernel
theorem dX11_init_132 : decode cX11_init 132 = .ok (.putfield 72, 3) := by decide +kernel
theorem dX11_init_135 : decode cX11_init 135 = .ok (.aload_n 0, 1) := by decide +kernel
theorem dX11_init_136 : decode cX11_init 136 = .ok (.iconst 2, 1) := by decide +kernel
theorem dX11_init_137 : decode cX11_init 137 = .ok (.anewarray 76, 3) := by decide +kernel
theorem dX11_init_140 : decode cX11_init 140 = .ok (.dup, 1) := by decide +kernel
theorem dX11_init_141 : decode cX11_init 141 = .ok (.iconst 0, 1) := by decide +kernel
theorem dX11_init_142 : decode cX11_init 142 = .ok (.new 76, 3) := by decide +kernel
theorem dX11_init_145 : decode cX11_init 145 = .ok (.dup, 1) := by decide +kernel
theorem dX11_init_146 : decode cX11_init 146 = .ok (.invokespecial 78, 3) := by decide +kernel
theorem dX11_init_149 : decode cX11_init 149 = .ok (.aastore, 1) := by decide +kernel
theorem dX11_init_150 : decode cX11_init 150 = .ok (.dup, 1) := by decide +kernel
theorem dX11_init_151 : decode cX11_init 151 = .ok (.iconst 1, 1) := by decide +kernel
theorem dX11_init_152 : decode cX11_init 152 = .ok (.new 76, 3) := by decide +kernel
theorem dX11_init_155 : decode cX11_init 155 = .ok (.dup, 1) := by decide +kernel
theorem dX11_init_156 : decode cX11_init 156 = .ok (.invokespecial 78, 3) := by decide +kernel
theorem dX11_init_159 : decode cX11_init 159 = .ok (.aastore, 1) := by decide +kernel
theorem dX11_init_160 : decode cX11_init 160 = .ok (.putfield 79, 3) := by decide +kernel
theorem dX11_init_163 : decode cX11_init 163 = .ok (.aload_n 0, 1) := by decide +kernel
theorem dX11_init_164 : decode cX11_init 164 = .ok (.iconst 0, 1) := by decide +kernel
theorem dX11_init_165 : decode cX11_init 165 = .ok (.putfield 83, 3) := by decide +kernel
theorem dX11_init_168 : decode cX11_init 168 = .ok (.aload_n 0, 1) := by decide +kernel
theorem dX11_init_169 : decode cX11_init 169 = .ok (.iconst 2, 1) := by decide +kernel
theorem dX11_init_170 : decode cX11_init 170 = .ok (.iconst 3, 1) := by decide +kernel
theorem dX11_init_171 : decode cX11_init 171 = .ok (.invokevirtual 87, 3) := by decide +kernel
theorem dX11_init_174 : decode cX11_init 174 = .ok (.return_, 1) := by decide +kernel
