theorem dX12_isOwn_0 : decode cX12_isOwn 0 = .ok (.aload_n 0, 1) := by decide +kernel
theorem dX12_isOwn_1 : decode cX12_isOwn 1 = .ok (.iload_n 3, 1) := by decide +kernel
theorem dX12_isOwn_2 : decode cX12_isOwn 2 = .ok (.invokevirtual 137, 3) := by decide +kernel
theorem dX12_isOwn_5 : decode cX12_isOwn 5 = .ok (.iload_n 2, 1) := by decide +kernel
theorem dX12_isOwn_6 : decode cX12_isOwn 6 = .ok (.if_icmp .ne 26, 3) := by decide +kernel
theorem dX12_isOwn_9 : decode cX12_isOwn 9 = .ok (.aload_n 0, 1) := by decide +kernel
theorem dX12_isOwn_10 : decode cX12_isOwn 10 = .ok (.getfield 9, 3) := by decide +kernel
theorem dX12_isOwn_13 : decode cX12_isOwn 13 = .ok (.iload_n 3, 1) := by decide +kernel
theorem dX12_isOwn_14 : decode cX12_isOwn 14 = .ok (.baload, 1) := by decide +kernel
theorem dX12_isOwn_15 : decode cX12_isOwn 15 = .ok (.ifCond .ne 17, 3) := by decide +kernel
theorem dX12_isOwn_18 : decode cX12_isOwn 18 = .ok (.aload_n 1, 1) := by decide +kernel
theorem dX12_isOwn_19 : decode cX12_isOwn 19 = .ok (.iload_n 3, 1) := by decide +kernel
theorem dX12_isOwn_20 : decode cX12_isOwn 20 = .ok (.iaload, 1) := by decide +kernel
theorem dX12_isOwn_21 : decode cX12_isOwn 21 = .ok (.aload_n 0, 1) := by decide +kernel
theorem dX12_isOwn_22 : decode cX12_isOwn 22 = .ok (.getfield 111, 3) := by decide +kernel
theorem dX12_isOwn_25 : decode cX12_isOwn 25 = .ok (.if_icmp .lt 7, 3) := by decide +kernel
theorem dX12_isOwn_28 : decode cX12_isOwn 28 = .ok (.iconst 1, 1) := by decide +kernel
theorem dX12_isOwn_29 : decode cX12_isOwn 29 = .ok (.goto 4, 3) := by decide +kernel
theorem dX12_isOwn_32 : decode cX12_isOwn 32 = .ok (.iconst 0, 1) := by decide +kernel
theorem dX12_isOwn_33 : decode cX12_isOwn 33 = .ok (.ireturn, 1) := by decide +kernel
theorem dX12_isFed_0 : decode cX12_isFed 0 = .ok (.iconst 0, 1) := by decide +kernel
theorem dX12_isFed_1 : decode cX12_isFed 1 = .ok (.istore_n 2, 1) := by decide +kernel
theorem dX12_isFed_2 : decode cX12_isFed 2 = .ok (.iconst 0, 1) := by decide +kernel
theorem dX12_isFed_3 : decode cX12_isFed 3 = .ok (.istore_n 3, 1) := by decide +kernel
theorem dX12_isFed_4 : decode cX12_isFed 4 = .ok (.iload_n 3, 1) := by decide +kernel
theorem dX12_isFed_5 : decode cX12_isFed 5 = .ok (.aload_n 0, 1) := by decide +kernel
theorem dX12_isFed_6 : decode cX12_isFed 6 = .ok (.invokevirtual 133, 3) := by decide +kernel
theorem dX12_isFed_9 : decode cX12_isFed 9 = .ok (.if_icmp .ge 37, 3) := by decide +kernel
theorem dX12_isFed_12 : decode cX12_isFed 12 = .ok (.iload_n 2, 1) := by decide +kernel
theorem dX12_isFed_13 : decode cX12_isFed 13 = .ok (.ifCond .ne 21, 3) := by decide +kernel
theorem dX12_isFed_16 : decode cX12_isFed 16 = .ok (.aload_n 0, 1) := by decide +kernel
theorem dX12_isFed_17 : decode cX12_isFed 17 = .ok (.iload_n 3, 1) := by decide +kernel
theorem dX12_isFed_18 : decode cX12_isFed 18 = .ok (.invokevirtual 137, 3) := by decide +kernel
theorem dX12_isFed_21 : decode cX12_isFed 21 = .ok (.iload_n 1, 1) := by decide +kernel
theorem dX12_isFed_22 : decode cX12_isFed 22 = .ok (.if_icmp .eq 16, 3) := by decide +kernel
theorem dX12_isFed_25 : decode cX12_isFed 25 = .ok (.aload_n 0, 1) := by decide +kernel
theorem dX12_isFed_26 : decode cX12_isFed 26 = .ok (.getfield 26, 3) := by decide +kernel
theorem dX12_isFed_29 : decode cX12_isFed 29 = .ok (.iload_n 3, 1) := by decide +kernel
theorem dX12_isFed_30 : decode cX12_isFed 30 = .ok (.iaload, 1) := by decide +kernel
theorem dX12_isFed_31 : decode cX12_isFed 31 = .ok (.ifCond .le 7, 3) := by decide +kernel
theorem dX12_isFed_34 : decode cX12_isFed 34 = .ok (.iconst 1, 1) := by decide +kernel
theorem dX12_isFed_35 : decode cX12_isFed 35 = .ok (.goto 4, 3) := by decide +kernel
theorem dX12_isFed_38 : decode cX12_isFed 38 = .ok (.iconst 0, 1) := by decide +kernel
theorem dX12_isFed_39 : decode cX12_isFed 39 = .ok (.istore_n 2, 1) := by decide +kernel
theorem dX12_isFed_40 : decode cX12_isFed 40 = .ok (.iinc 3 1, 3) := by decide +kernel
theorem dX12_isFed_43 : decode cX12_isFed 43 = .ok (.goto (-39), 3) := by decide +kernel
theorem dX12_isFed_46 : decode cX12_isFed 46 = .ok (.iload_n 2, 1) := by decide +kernel
theorem dX12_isFed_47 : decode cX12_isFed 47 = .ok (.ireturn, 1) := by decide +kernel
theorem dX12_mayMove_0 : decode cX12_mayMove 0 = .ok (.iconst 0, 1) := by decide +kernel
theorem dX12_mayMove_1 : decode cX12_mayMove 1 = .ok (.istore 4, 2) := by decide +kernel
theorem dX12_mayMove_3 : decode cX12_mayMove 3 = .ok (.iconst 0, 1) := by decide +kernel
theorem dX12_mayMove_4 : decode cX12_mayMove 4 = .ok (.istore 5, 2) := by decide +kernel
theorem dX12_mayMove_6 : decode cX12_mayMove 6 = .ok (.iconst 0, 1) := by decide +kernel
theorem dX12_mayMove_7 : decode cX12_mayMove 7 = .ok (.istore 6, 2) := by decide +kernel
theorem dX12_mayMove_9 : decode cX12_mayMove 9 = .ok (.iload 6, 2) := by decide +kernel
theorem dX12_mayMove_11 : decode cX12_mayMove 11 = .ok (.aload_n 0, 1) := by decide +kernel
theorem dX12_mayMove_12 : decode cX12_mayMove 12 = .ok (.invokevirtual 133, 3) := by decide +kernel
theorem dX12_mayMove_15 : decode cX12_mayMove 15 = .ok (.if_icmp .ge 82, 3) := by decide +kernel
theorem dX12_mayMove_18 : decode cX12_mayMove 18 = .ok (.aload_n 3, 1) := by decide +kernel
theorem dX12_mayMove_19 : decode cX12_mayMove 19 = .ok (.iload 6, 2) := by decide +kernel
theorem dX12_mayMove_21 : decode cX12_mayMove 21 = .ok (.aload_n 0, 1) := by decide +kernel
theorem dX12_mayMove_22 : decode cX12_mayMove 22 = .ok (.aload_n 1, 1) := by decide +kernel
theorem dX12_mayMove_23 : decode cX12_mayMove 23 = .ok (.iload_n 2, 1) := by decide +kernel
theorem dX12_mayMove_24 : decode cX12_mayMove 24 = .ok (.iload 6, 2) := by decide +kernel
theorem dX12_mayMove_26 : decode cX12_mayMove 26 = .ok (.invokevirtual 168, 3) := by decide +kernel
theorem dX12_mayMove_29 : decode cX12_mayMove 29 = .ok (.bastore, 1) := by decide +kernel
theorem dX12_mayMove_30 : decode cX12_mayMove 30 = .ok (.aload_n 3, 1) := by decide +kernel
theorem dX12_mayMove_31 : decode cX12_mayMove 31 = .ok (.iload 6, 2) := by decide +kernel
theorem dX12_mayMove_33 : decode cX12_mayMove 33 = .ok (.baload, 1) := by decide +kernel
theorem dX12_mayMove_34 : decode cX12_mayMove 34 = .ok (.ifCond .ne 6, 3) := by decide +kernel
theorem dX12_mayMove_37 : decode cX12_mayMove 37 = .ok (.goto 54, 3) := by decide +kernel
theorem dX12_mayMove_40 : decode cX12_mayMove 40 = .ok (.aload_n 0, 1) := by decide +kernel
theorem dX12_mayMove_41 : decode cX12_mayMove 41 = .ok (.aload_n 1, 1) := by decide +kernel
theorem dX12_mayMove_42 : decode cX12_mayMove 42 = .ok (.iload_n 2, 1) := by decide +kernel
theorem dX12_mayMove_43 : decode cX12_mayMove 43 = .ok (.iload 6, 2) := by decide +kernel
theorem dX12_mayMove_45 : decode cX12_mayMove 45 = .ok (.invokevirtual 172, 3) := by decide +kernel
theorem dX12_mayMove_48 : decode cX12_mayMove 48 = .ok (.aload_n 3, 1) := by decide +kernel
theorem dX12_mayMove_49 : decode cX12_mayMove 49 = .ok (.iload 6, 2) := by decide +kernel
theorem dX12_mayMove_51 : decode cX12_mayMove 51 = .ok (.aload_n 0, 1) := by decide +kernel
theorem dX12_mayMove_52 : decode cX12_mayMove 52 = .ok (.getfield 155, 3) := by decide +kernel
theorem dX12_mayMove_55 : decode cX12_mayMove 55 = .ok (.ifCond .ne 7, 3) := by decide +kernel
theorem dX12_mayMove_58 : decode cX12_mayMove 58 = .ok (.iconst 1, 1) := by decide +kernel
theorem dX12_mayMove_59 : decode cX12_mayMove 59 = .ok (.goto 4, 3) := by decide +kernel
theorem dX12_mayMove_62 : decode cX12_mayMove 62 = .ok (.iconst 0, 1) := by decide +kernel
theorem dX12_mayMove_63 : decode cX12_mayMove 63 = .ok (.bastore, 1) := by decide +kernel
theorem dX12_mayMove_64 : decode cX12_mayMove 64 = .ok (.iload 5, 2) := by decide +kernel
theorem dX12_mayMove_66 : decode cX12_mayMove 66 = .ok (.ifCond .ne 18, 3) := by decide +kernel
theorem dX12_mayMove_69 : decode cX12_mayMove 69 = .ok (.aload_n 0, 1) := by decide +kernel
theorem dX12_mayMove_70 : decode cX12_mayMove 70 = .ok (.getfield 155, 3) := by decide +kernel
theorem dX12_mayMove_73 : decode cX12_mayMove 73 = .ok (.ifCond .ne 15, 3) := by decide +kernel
theorem dX12_mayMove_76 : decode cX12_mayMove 76 = .ok (.aload_n 0, 1) := by decide +kernel
theorem dX12_mayMove_77 : decode cX12_mayMove 77 = .ok (.iload_n 2, 1) := by decide +kernel
theorem dX12_mayMove_78 : decode cX12_mayMove 78 = .ok (.invokevirtual 176, 3) := by decide +kernel
theorem dX12_mayMove_81 : decode cX12_mayMove 81 = .ok (.ifCond .eq 7, 3) := by decide +kernel
theorem dX12_mayMove_84 : decode cX12_mayMove 84 = .ok (.iconst 1, 1) := by decide +kernel
theorem dX12_mayMove_85 : decode cX12_mayMove 85 = .ok (.goto 4, 3) := by decide +kernel
theorem dX12_mayMove_88 : decode cX12_mayMove 88 = .ok (.iconst 0, 1) := by decide +kernel
theorem dX12_mayMove_89 : decode cX12_mayMove 89 = .ok (.istore 5, 2) := by decide +kernel
theorem dX12_mayMove_91 : decode cX12_mayMove 91 = .ok (.iinc 6 1, 3) := by decide +kernel
theorem dX12_mayMove_94 : decode cX12_mayMove 94 = .ok (.goto (-85), 3) := by decide +kernel
theorem dX12_mayMove_97 : decode cX12_mayMove 97 = .ok (.iconst 0, 1) := by decide +kernel
theorem dX12_mayMove_98 : decode cX12_mayMove 98 = .ok (.istore 6, 2) := by decide +kernel
theorem dX12_mayMove_100 : decode cX12_mayMove 100 = .ok (.iload 6, 2) := by decide +kernel
theorem dX12_mayMove_102 : decode cX12_mayMove 102 = .ok (.aload_n 0, 1) := by decide +kernel
theorem dX12_mayMove_103 : decode cX12_mayMove 103 = .ok (.invokevirtual 133, 3) := by decide +kernel
theorem dX12_mayMove_106 : decode cX12_mayMove 106 = .ok (.if_icmp .ge 62, 3) := by decide +kernel
theorem dX12_mayMove_109 : decode cX12_mayMove 109 = .ok (.aload_n 3, 1) := by decide +kernel
theorem dX12_mayMove_110 : decode cX12_mayMove 110 = .ok (.iload 6, 2) := by decide +kernel
theorem dX12_mayMove_112 : decode cX12_mayMove 112 = .ok (.baload, 1) := by decide +kernel
theorem dX12_mayMove_113 : decode cX12_mayMove 113 = .ok (.ifCond .eq 32, 3) := by decide +kernel
theorem dX12_mayMove_116 : decode cX12_mayMove 116 = .ok (.aload_n 0, 1) := by decide +kernel
theorem dX12_mayMove_117 : decode cX12_mayMove 117 = .ok (.getfield 114, 3) := by decide +kernel
theorem dX12_mayMove_120 : decode cX12_mayMove 120 = .ok (.ifCond .eq 25, 3) := by decide +kernel
theorem dX12_mayMove_123 : decode cX12_mayMove 123 = .ok (.iload 5, 2) := by decide +kernel
theorem dX12_mayMove_125 : decode cX12_mayMove 125 = .ok (.ifCond .eq 20, 3) := by decide +kernel
theorem dX12_mayMove_128 : decode cX12_mayMove 128 = .ok (.aload_n 0, 1) := by decide +kernel
theorem dX12_mayMove_129 : decode cX12_mayMove 129 = .ok (.aload_n 1, 1) := by decide +kernel
theorem dX12_mayMove_130 : decode cX12_mayMove 130 = .ok (.iload_n 2, 1) := by decide +kernel
theorem dX12_mayMove_131 : decode cX12_mayMove 131 = .ok (.iload 6, 2) := by decide +kernel
theorem dX12_mayMove_133 : decode cX12_mayMove 133 = .ok (.invokevirtual 172, 3) := by decide +kernel
theorem dX12_mayMove_136 : decode cX12_mayMove 136 = .ok (.aload_n 3, 1) := by decide +kernel
theorem dX12_mayMove_137 : decode cX12_mayMove 137 = .ok (.iload 6, 2) := by decide +kernel
theorem dX12_mayMove_139 : decode cX12_mayMove 139 = .ok (.aload_n 0, 1) := by decide +kernel
theorem dX12_mayMove_140 : decode cX12_mayMove 140 = .ok (.iload_n 2, 1) := by decide +kernel
theorem dX12_mayMove_141 : decode cX12_mayMove 141 = .ok (.invokevirtual 176, 3) := by decide +kernel
theorem dX12_mayMove_144 : decode cX12_mayMove 144 = .ok (.bastore, 1) := by decide +kernel
theorem dX12_mayMove_145 : decode cX12_mayMove 145 = .ok (.iload 4, 2) := by decide +kernel
theorem dX12_mayMove_147 : decode cX12_mayMove 147 = .ok (.aload_n 3, 1) := by decide +kernel
theorem dX12_mayMove_148 : decode cX12_mayMove 148 = .ok (.iload 6, 2) := by decide +kernel
theorem dX12_mayMove_150 : decode cX12_mayMove 150 = .ok (.baload, 1) := by decide +kernel
theorem dX12_mayMove_151 : decode cX12_mayMove 151 = .ok (.ifCond .eq 7, 3) := by decide +kernel
theorem dX12_mayMove_154 : decode cX12_mayMove 154 = .ok (.iconst 1, 1) := by decide +kernel
theorem dX12_mayMove_155 : decode cX12_mayMove 155 = .ok (.goto 4, 3) := by decide +kernel
theorem dX12_mayMove_158 : decode cX12_mayMove 158 = .ok (.iconst 0, 1) := by decide +kernel
theorem dX12_mayMove_159 : decode cX12_mayMove 159 = .ok (.iadd, 1) := by decide +kernel
theorem dX12_mayMove_160 : decode cX12_mayMove 160 = .ok (.istore 4, 2) := by decide +kernel
theorem dX12_mayMove_162 : decode cX12_mayMove 162 = .ok (.iinc 6 1, 3) := by decide +kernel
theorem dX12_mayMove_165 : decode cX12_mayMove 165 = .ok (.goto (-65), 3) := by decide +kernel
theorem dX12_mayMove_168 : decode cX12_mayMove 168 = .ok (.iload 4, 2) := by decide +kernel
theorem dX12_mayMove_170 : decode cX12_mayMove 170 = .ok (.ireturn, 1) := by decide +kernel
theorem dX12_counts_0 : decode cX12_counts 0 = .ok (.iconst 0, 1) := by decide +kernel
theorem dX12_counts_1 : decode cX12_counts 1 = .ok (.istore 4, 2) := by decide +kernel
theorem dX12_counts_3 : decode cX12_counts 3 = .ok (.iconst 0, 1) := by decide +kernel
theorem dX12_counts_4 : decode cX12_counts 4 = .ok (.istore 5, 2) := by decide +kernel
theorem dX12_counts_6 : decode cX12_counts 6 = .ok (.iload 5, 2) := by decide +kernel
theorem dX12_counts_8 : decode cX12_counts 8 = .ok (.aload_n 0, 1) := by decide +kernel
theorem dX12_counts_9 : decode cX12_counts 9 = .ok (.invokevirtual 133, 3) := by decide +kernel
theorem dX12_counts_12 : decode cX12_counts 12 = .ok (.if_icmp .ge 52, 3) := by decide +kernel
theorem dX12_counts_15 : decode cX12_counts 15 = .ok (.iload 4, 2) := by decide +kernel
theorem dX12_counts_17 : decode cX12_counts 17 = .ok (.aload_n 0, 1) := by decide +kernel
theorem dX12_counts_18 : decode cX12_counts 18 = .ok (.getfield 118, 3) := by decide +kernel
theorem dX12_counts_21 : decode cX12_counts 21 = .ok (.ifCond .ne 13, 3) := by decide +kernel
theorem dX12_counts_24 : decode cX12_counts 24 = .ok (.aload_n 0, 1) := by decide +kernel
theorem dX12_counts_25 : decode cX12_counts 25 = .ok (.iload 5, 2) := by decide +kernel
theorem dX12_counts_27 : decode cX12_counts 27 = .ok (.invokevirtual 137, 3) := by decide +kernel
theorem dX12_counts_30 : decode cX12_counts 30 = .ok (.iload_n 3, 1) := by decide +kernel
theorem dX12_counts_31 : decode cX12_counts 31 = .ok (.if_icmp .eq 16, 3) := by decide +kernel
theorem dX12_counts_34 : decode cX12_counts 34 = .ok (.aload_n 0, 1) := by decide +kernel
theorem dX12_counts_35 : decode cX12_counts 35 = .ok (.getfield 118, 3) := by decide +kernel
theorem dX12_counts_38 : decode cX12_counts 38 = .ok (.iconst 1, 1) := by decide +kernel
theorem dX12_counts_39 : decode cX12_counts 39 = .ok (.if_icmp .ne 15, 3) := by decide +kernel
theorem dX12_counts_42 : decode cX12_counts 42 = .ok (.iload_n 3, 1) := by decide +kernel
theorem dX12_counts_43 : decode cX12_counts 43 = .ok (.iload_n 2, 1) := by decide +kernel
theorem dX12_counts_44 : decode cX12_counts 44 = .ok (.if_icmp .eq 10, 3) := by decide +kernel
theorem dX12_counts_47 : decode cX12_counts 47 = .ok (.aload_n 1, 1) := by decide +kernel
theorem dX12_counts_48 : decode cX12_counts 48 = .ok (.iload 5, 2) := by decide +kernel
theorem dX12_counts_50 : decode cX12_counts 50 = .ok (.iaload, 1) := by decide +kernel
theorem dX12_counts_51 : decode cX12_counts 51 = .ok (.goto 4, 3) := by decide +kernel
theorem dX12_counts_54 : decode cX12_counts 54 = .ok (.iconst 0, 1) := by decide +kernel
theorem dX12_counts_55 : decode cX12_counts 55 = .ok (.iadd, 1) := by decide +kernel
theorem dX12_counts_56 : decode cX12_counts 56 = .ok (.istore 4, 2) := by decide +kernel
theorem dX12_counts_58 : decode cX12_counts 58 = .ok (.iinc 5 1, 3) := by decide +kernel
theorem dX12_counts_61 : decode cX12_counts 61 = .ok (.goto (-55), 3) := by decide +kernel
theorem dX12_counts_64 : decode cX12_counts 64 = .ok (.iload 4, 2) := by decide +kernel
theorem dX12_counts_66 : decode cX12_counts 66 = .ok (.ireturn, 1) := by decide +kernel
theorem dX12_there_0 : decode cX12_there 0 = .ok (.iconst 0, 1) := by decide +kernel
theorem dX12_there_1 : decode cX12_there 1 = .ok (.istore_n 1, 1) := by decide +kernel
theorem dX12_there_2 : decode cX12_there 2 = .ok (.iconst 0, 1) := by decide +kernel
theorem dX12_there_3 : decode cX12_there 3 = .ok (.istore_n 2, 1) := by decide +kernel
theorem dX12_there_4 : decode cX12_there 4 = .ok (.iload_n 2, 1) := by decide +kernel
theorem dX12_there_5 : decode cX12_there 5 = .ok (.aload_n 0, 1) := by decide +kernel
theorem dX12_there_6 : decode cX12_there 6 = .ok (.invokevirtual 133, 3) := by decide +kernel
theorem dX12_there_9 : decode cX12_there 9 = .ok (.if_icmp .ge 26, 3) := by decide +kernel
theorem dX12_there_12 : decode cX12_there 12 = .ok (.iload_n 1, 1) := by decide +kernel
theorem dX12_there_13 : decode cX12_there 13 = .ok (.aload_n 0, 1) := by decide +kernel
theorem dX12_there_14 : decode cX12_there 14 = .ok (.getfield 9, 3) := by decide +kernel
theorem dX12_there_17 : decode cX12_there 17 = .ok (.iload_n 2, 1) := by decide +kernel
theorem dX12_there_18 : decode cX12_there 18 = .ok (.baload, 1) := by decide +kernel
theorem dX12_there_19 : decode cX12_there 19 = .ok (.ifCond .eq 7, 3) := by decide +kernel
theorem dX12_there_22 : decode cX12_there 22 = .ok (.iconst 0, 1) := by decide +kernel
theorem dX12_there_23 : decode cX12_there 23 = .ok (.goto 4, 3) := by decide +kernel
theorem dX12_there_26 : decode cX12_there 26 = .ok (.iconst 1, 1) := by decide +kernel
theorem dX12_there_27 : decode cX12_there 27 = .ok (.iadd, 1) := by decide +kernel
theorem dX12_there_28 : decode cX12_there 28 = .ok (.istore_n 1, 1) := by decide +kernel
theorem dX12_there_29 : decode cX12_there 29 = .ok (.iinc 2 1, 3) := by decide +kernel
theorem dX12_there_32 : decode cX12_there 32 = .ok (.goto (-28), 3) := by decide +kernel
theorem dX12_there_35 : decode cX12_there 35 = .ok (.iload_n 1, 1) := by decide +kernel
theorem dX12_there_36 : decode cX12_there 36 = .ok (.ireturn, 1) := by decide +kernel
theorem dX12_ways_0 : decode cX12_ways 0 = .ok (.iload_n 1, 1) := by decide +kernel
theorem dX12_ways_1 : decode cX12_ways 1 = .ok (.ifCond .ne 13, 3) := by decide +kernel
theorem dX12_ways_4 : decode cX12_ways 4 = .ok (.iload_n 0, 1) := by decide +kernel
theorem dX12_ways_5 : decode cX12_ways 5 = .ok (.ifCond .ne 7, 3) := by decide +kernel
theorem dX12_ways_8 : decode cX12_ways 8 = .ok (.lconst 1, 1) := by decide +kernel
theorem dX12_ways_9 : decode cX12_ways 9 = .ok (.goto 4, 3) := by decide +kernel
theorem dX12_ways_12 : decode cX12_ways 12 = .ok (.lconst 0, 1) := by decide +kernel
theorem dX12_ways_13 : decode cX12_ways 13 = .ok (.lreturn, 1) := by decide +kernel
theorem dX12_ways_14 : decode cX12_ways 14 = .ok (.lconst 1, 1) := by decide +kernel
theorem dX12_ways_15 : decode cX12_ways 15 = .ok (.lstore_n 2, 1) := by decide +kernel
theorem dX12_ways_16 : decode cX12_ways 16 = .ok (.iconst 1, 1) := by decide +kernel
theorem dX12_ways_17 : decode cX12_ways 17 = .ok (.istore 4, 2) := by decide +kernel
theorem dX12_ways_19 : decode cX12_ways 19 = .ok (.iload 4, 2) := by decide +kernel
theorem dX12_ways_21 : decode cX12_ways 21 = .ok (.iload_n 0, 1) := by decide +kernel
theorem dX12_ways_22 : decode cX12_ways 22 = .ok (.if_icmp .gt 23, 3) := by decide +kernel
theorem dX12_ways_25 : decode cX12_ways 25 = .ok (.lload_n 2, 1) := by decide +kernel
theorem dX12_ways_26 : decode cX12_ways 26 = .ok (.iload_n 1, 1) := by decide +kernel
theorem dX12_ways_27 : decode cX12_ways 27 = .ok (.iconst 1, 1) := by decide +kernel
theorem dX12_ways_28 : decode cX12_ways 28 = .ok (.isub, 1) := by decide +kernel
theorem dX12_ways_29 : decode cX12_ways 29 = .ok (.iload 4, 2) := by decide +kernel
theorem dX12_ways_31 : decode cX12_ways 31 = .ok (.iadd, 1) := by decide +kernel
theorem dX12_ways_32 : decode cX12_ways 32 = .ok (.i2l, 1) := by decide +kernel
theorem dX12_ways_33 : decode cX12_ways 33 = .ok (.lmul, 1) := by decide +kernel
theorem dX12_ways_34 : decode cX12_ways 34 = .ok (.iload 4, 2) := by decide +kernel
theorem dX12_ways_36 : decode cX12_ways 36 = .ok (.i2l, 1) := by decide +kernel
theorem dX12_ways_37 : decode cX12_ways 37 = .ok (.ldiv, 1) := by decide +kernel
theorem dX12_ways_38 : decode cX12_ways 38 = .ok (.lstore_n 2, 1) := by decide +kernel
theorem dX12_ways_39 : decode cX12_ways 39 = .ok (.iinc 4 1, 3) := by decide +kernel
theorem dX12_ways_42 : decode cX12_ways 42 = .ok (.goto (-23), 3) := by decide +kernel
theorem dX12_ways_45 : decode cX12_ways 45 = .ok (.lload_n 2, 1) := by decide +kernel
theorem dX12_ways_46 : decode cX12_ways 46 = .ok (.lreturn, 1) := by decide +kernel
theorem dX12_placesTo_0 : decode cX12_placesTo 0 = .ok (.lconst 0, 1) := by decide +kernel
theorem dX12_placesTo_1 : decode cX12_placesTo 1 = .ok (.lstore_n 2, 1) := by decide +kernel
theorem dX12_placesTo_2 : decode cX12_placesTo 2 = .ok (.iconst 0, 1) := by decide +kernel
theorem dX12_placesTo_3 : decode cX12_placesTo 3 = .ok (.istore 4, 2) := by decide +kernel
theorem dX12_placesTo_5 : decode cX12_placesTo 5 = .ok (.iload 4, 2) := by decide +kernel
theorem dX12_placesTo_7 : decode cX12_placesTo 7 = .ok (.iload_n 1, 1) := by decide +kernel
theorem dX12_placesTo_8 : decode cX12_placesTo 8 = .ok (.if_icmp .gt 21, 3) := by decide +kernel
theorem dX12_placesTo_11 : decode cX12_placesTo 11 = .ok (.lload_n 2, 1) := by decide +kernel
theorem dX12_placesTo_12 : decode cX12_placesTo 12 = .ok (.iload 4, 2) := by decide +kernel
theorem dX12_placesTo_14 : decode cX12_placesTo 14 = .ok (.aload_n 0, 1) := by decide +kernel
theorem dX12_placesTo_15 : decode cX12_placesTo 15 = .ok (.invokevirtual 180, 3) := by decide +kernel
theorem dX12_placesTo_18 : decode cX12_placesTo 18 = .ok (.invokestatic 183, 3) := by decide +kernel
theorem dX12_placesTo_21 : decode cX12_placesTo 21 = .ok (.ladd, 1) := by decide +kernel
theorem dX12_placesTo_22 : decode cX12_placesTo 22 = .ok (.lstore_n 2, 1) := by decide +kernel
theorem dX12_placesTo_23 : decode cX12_placesTo 23 = .ok (.iinc 4 1, 3) := by decide +kernel
theorem dX12_placesTo_26 : decode cX12_placesTo 26 = .ok (.goto (-21), 3) := by decide +kernel
theorem dX12_placesTo_29 : decode cX12_placesTo 29 = .ok (.ldc2_w 187, 3) := by decide +kernel
theorem dX12_placesTo_32 : decode cX12_placesTo 32 = .ok (.lload_n 2, 1) := by decide +kernel
theorem dX12_placesTo_33 : decode cX12_placesTo 33 = .ok (.lmul, 1) := by decide +kernel
theorem dX12_placesTo_34 : decode cX12_placesTo 34 = .ok (.lreturn, 1) := by decide +kernel
theorem dX12_seedsOf_0 : decode cX12_seedsOf 0 = .ok (.iconst 0, 1) := by decide +kernel
theorem dX12_seedsOf_1 : decode cX12_seedsOf 1 = .ok (.istore_n 2, 1) := by decide +kernel
theorem dX12_seedsOf_2 : decode cX12_seedsOf 2 = .ok (.iconst 0, 1) := by decide +kernel
theorem dX12_seedsOf_3 : decode cX12_seedsOf 3 = .ok (.istore_n 3, 1) := by decide +kernel
theorem dX12_seedsOf_4 : decode cX12_seedsOf 4 = .ok (.iload_n 3, 1) := by decide +kernel
theorem dX12_seedsOf_5 : decode cX12_seedsOf 5 = .ok (.aload_n 0, 1) := by decide +kernel
theorem dX12_seedsOf_6 : decode cX12_seedsOf 6 = .ok (.invokevirtual 133, 3) := by decide +kernel
theorem dX12_seedsOf_9 : decode cX12_seedsOf 9 = .ok (.if_icmp .ge 15, 3) := by decide +kernel
theorem dX12_seedsOf_12 : decode cX12_seedsOf 12 = .ok (.iload_n 2, 1) := by decide +kernel
theorem dX12_seedsOf_13 : decode cX12_seedsOf 13 = .ok (.aload_n 1, 1) := by decide +kernel
theorem dX12_seedsOf_14 : decode cX12_seedsOf 14 = .ok (.iload_n 3, 1) := by decide +kernel
theorem dX12_seedsOf_15 : decode cX12_seedsOf 15 = .ok (.iaload, 1) := by decide +kernel
theorem dX12_seedsOf_16 : decode cX12_seedsOf 16 = .ok (.iadd, 1) := by decide +kernel
theorem dX12_seedsOf_17 : decode cX12_seedsOf 17 = .ok (.istore_n 2, 1) := by decide +kernel
theorem dX12_seedsOf_18 : decode cX12_seedsOf 18 = .ok (.iinc 3 1, 3) := by decide +kernel
theorem dX12_seedsOf_21 : decode cX12_seedsOf 21 = .ok (.goto (-17), 3) := by decide +kernel
theorem dX12_seedsOf_24 : decode cX12_seedsOf 24 = .ok (.iload_n 2, 1) := by decide +kernel
theorem dX12_seedsOf_25 : decode cX12_seedsOf 25 = .ok (.ireturn, 1) := by decide +kernel
theorem dX12_placeOf_0 : decode cX12_placeOf 0 = .ok (.aload_n 0, 1) := by decide +kernel
theorem dX12_placeOf_1 : decode cX12_placeOf 1 = .ok (.aload_n 1, 1) := by decide +kernel
theorem dX12_placeOf_2 : decode cX12_placeOf 2 = .ok (.invokevirtual 189, 3) := by decide +kernel
theorem dX12_placeOf_5 : decode cX12_placeOf 5 = .ok (.istore_n 3, 1) := by decide +kernel
theorem dX12_placeOf_6 : decode cX12_placeOf 6 = .ok (.aload_n 0, 1) := by decide +kernel
theorem dX12_placeOf_7 : decode cX12_placeOf 7 = .ok (.invokevirtual 180, 3) := by decide +kernel
theorem dX12_placeOf_10 : decode cX12_placeOf 10 = .ok (.istore 4, 2) := by decide +kernel
theorem dX12_placeOf_12 : decode cX12_placeOf 12 = .ok (.iload_n 3, 1) := by decide +kernel
theorem dX12_placeOf_13 : decode cX12_placeOf 13 = .ok (.ifCond .ne 7, 3) := by decide +kernel
theorem dX12_placeOf_16 : decode cX12_placeOf 16 = .ok (.lconst 0, 1) := by decide +kernel
theorem dX12_placeOf_17 : decode cX12_placeOf 17 = .ok (.goto 14, 3) := by decide +kernel
theorem dX12_placeOf_20 : decode cX12_placeOf 20 = .ok (.aload_n 0, 1) := by decide +kernel
theorem dX12_placeOf_21 : decode cX12_placeOf 21 = .ok (.iload_n 3, 1) := by decide +kernel
theorem dX12_placeOf_22 : decode cX12_placeOf 22 = .ok (.iconst 1, 1) := by decide +kernel
theorem dX12_placeOf_23 : decode cX12_placeOf 23 = .ok (.isub, 1) := by decide +kernel
theorem dX12_placeOf_24 : decode cX12_placeOf 24 = .ok (.invokevirtual 193, 3) := by decide +kernel
theorem dX12_placeOf_27 : decode cX12_placeOf 27 = .ok (.ldc2_w 187, 3) := by decide +kernel
theorem dX12_placeOf_30 : decode cX12_placeOf 30 = .ok (.ldiv, 1) := by decide +kernel
theorem dX12_placeOf_31 : decode cX12_placeOf 31 = .ok (.lstore 5, 2) := by decide +kernel
theorem dX12_placeOf_33 : decode cX12_placeOf 33 = .ok (.iconst 0, 1) := by decide +kernel
theorem dX12_placeOf_34 : decode cX12_placeOf 34 = .ok (.istore 7, 2) := by decide +kernel
theorem dX12_placeOf_36 : decode cX12_placeOf 36 = .ok (.iload 7, 2) := by decide +kernel
theorem dX12_placeOf_38 : decode cX12_placeOf 38 = .ok (.aload_n 0, 1) := by decide +kernel
theorem dX12_placeOf_39 : decode cX12_placeOf 39 = .ok (.invokevirtual 133, 3) := by decide +kernel
theorem dX12_placeOf_42 : decode cX12_placeOf 42 = .ok (.if_icmp .ge 64, 3) := by decide +kernel
theorem dX12_placeOf_45 : decode cX12_placeOf 45 = .ok (.aload_n 0, 1) := by decide +kernel
theorem dX12_placeOf_46 : decode cX12_placeOf 46 = .ok (.getfield 9, 3) := by decide +kernel
theorem dX12_placeOf_49 : decode cX12_placeOf 49 = .ok (.iload 7, 2) := by decide +kernel
theorem dX12_placeOf_51 : decode cX12_placeOf 51 = .ok (.baload, 1) := by decide +kernel
theorem dX12_placeOf_52 : decode cX12_placeOf 52 = .ok (.ifCond .eq 6, 3) := by decide +kernel
theorem dX12_placeOf_55 : decode cX12_placeOf 55 = .ok (.goto 45, 3) := by decide +kernel
theorem dX12_placeOf_58 : decode cX12_placeOf 58 = .ok (.iinc 4 (-1), 3) := by decide +kernel
theorem dX12_placeOf_61 : decode cX12_placeOf 61 = .ok (.iconst 0, 1) := by decide +kernel
theorem dX12_placeOf_62 : decode cX12_placeOf 62 = .ok (.istore 8, 2) := by decide +kernel
theorem dX12_placeOf_64 : decode cX12_placeOf 64 = .ok (.iload 8, 2) := by decide +kernel
theorem dX12_placeOf_66 : decode cX12_placeOf 66 = .ok (.aload_n 1, 1) := by decide +kernel
theorem dX12_placeOf_67 : decode cX12_placeOf 67 = .ok (.iload 7, 2) := by decide +kernel
theorem dX12_placeOf_69 : decode cX12_placeOf 69 = .ok (.iaload, 1) := by decide +kernel
theorem dX12_placeOf_70 : decode cX12_placeOf 70 = .ok (.if_icmp .ge 23, 3) := by decide +kernel
theorem dX12_placeOf_73 : decode cX12_placeOf 73 = .ok (.lload 5, 2) := by decide +kernel
theorem dX12_placeOf_75 : decode cX12_placeOf 75 = .ok (.iload_n 3, 1) := by decide +kernel
theorem dX12_placeOf_76 : decode cX12_placeOf 76 = .ok (.iload 8, 2) := by decide +kernel
theorem dX12_placeOf_78 : decode cX12_placeOf 78 = .ok (.isub, 1) := by decide +kernel
theorem dX12_placeOf_79 : decode cX12_placeOf 79 = .ok (.iload 4, 2) := by decide +kernel
theorem dX12_placeOf_81 : decode cX12_placeOf 81 = .ok (.invokestatic 183, 3) := by decide +kernel
theorem dX12_placeOf_84 : decode cX12_placeOf 84 = .ok (.ladd, 1) := by decide +kernel
theorem dX12_placeOf_85 : decode cX12_placeOf 85 = .ok (.lstore 5, 2) := by decide +kernel
theorem dX12_placeOf_87 : decode cX12_placeOf 87 = .ok (.iinc 8 1, 3) := by decide +kernel
theorem dX12_placeOf_90 : decode cX12_placeOf 90 = .ok (.goto (-26), 3) := by decide +kernel
theorem dX12_placeOf_93 : decode cX12_placeOf 93 = .ok (.iload_n 3, 1) := by decide +kernel
theorem dX12_placeOf_94 : decode cX12_placeOf 94 = .ok (.aload_n 1, 1) := by decide +kernel
theorem dX12_placeOf_95 : decode cX12_placeOf 95 = .ok (.iload 7, 2) := by decide +kernel
theorem dX12_placeOf_97 : decode cX12_placeOf 97 = .ok (.iaload, 1) := by decide +kernel
theorem dX12_placeOf_98 : decode cX12_placeOf 98 = .ok (.isub, 1) := by decide +kernel
theorem dX12_placeOf_99 : decode cX12_placeOf 99 = .ok (.istore_n 3, 1) := by decide +kernel
theorem dX12_placeOf_100 : decode cX12_placeOf 100 = .ok (.iinc 7 1, 3) := by decide +kernel
theorem dX12_placeOf_103 : decode cX12_placeOf 103 = .ok (.goto (-67), 3) := by decide +kernel
theorem dX12_placeOf_106 : decode cX12_placeOf 106 = .ok (.ldc2_w 187, 3) := by decide +kernel
theorem dX12_placeOf_109 : decode cX12_placeOf 109 = .ok (.lload 5, 2) := by decide +kernel
theorem dX12_placeOf_111 : decode cX12_placeOf 111 = .ok (.lmul, 1) := by decide +kernel
theorem dX12_placeOf_112 : decode cX12_placeOf 112 = .ok (.iload_n 2, 1) := by decide +kernel
theorem dX12_placeOf_113 : decode cX12_placeOf 113 = .ok (.i2l, 1) := by decide +kernel
theorem dX12_placeOf_114 : decode cX12_placeOf 114 = .ok (.ladd, 1) := by decide +kernel
theorem dX12_placeOf_115 : decode cX12_placeOf 115 = .ok (.lreturn, 1) := by decide +kernel
theorem dX12_layOut_0 : decode cX12_layOut 0 = .ok (.iconst 0, 1) := by decide +kernel
theorem dX12_layOut_1 : decode cX12_layOut 1 = .ok (.istore_n 3, 1) := by decide +kernel
theorem dX12_layOut_2 : decode cX12_layOut 2 = .ok (.aload_n 0, 1) := by decide +kernel
theorem dX12_layOut_3 : decode cX12_layOut 3 = .ok (.iload_n 3, 1) := by decide +kernel
theorem dX12_layOut_4 : decode cX12_layOut 4 = .ok (.invokevirtual 193, 3) := by decide +kernel
theorem dX12_layOut_7 : decode cX12_layOut 7 = .ok (.lload_n 1, 1) := by decide +kernel
theorem dX12_layOut_8 : decode cX12_layOut 8 = .ok (.lcmp, 1) := by decide +kernel
theorem dX12_layOut_9 : decode cX12_layOut 9 = .ok (.ifCond .gt 9, 3) := by decide +kernel
theorem dX12_layOut_12 : decode cX12_layOut 12 = .ok (.iinc 3 1, 3) := by decide +kernel
theorem dX12_layOut_15 : decode cX12_layOut 15 = .ok (.goto (-13), 3) := by decide +kernel
theorem dX12_layOut_18 : decode cX12_layOut 18 = .ok (.lload_n 1, 1) := by decide +kernel
theorem dX12_layOut_19 : decode cX12_layOut 19 = .ok (.iload_n 3, 1) := by decide +kernel
theorem dX12_layOut_20 : decode cX12_layOut 20 = .ok (.ifCond .ne 7, 3) := by decide +kernel
theorem dX12_layOut_23 : decode cX12_layOut 23 = .ok (.lconst 0, 1) := by decide +kernel
theorem dX12_layOut_24 : decode cX12_layOut 24 = .ok (.goto 10, 3) := by decide +kernel
theorem dX12_layOut_27 : decode cX12_layOut 27 = .ok (.aload_n 0, 1) := by decide +kernel
theorem dX12_layOut_28 : decode cX12_layOut 28 = .ok (.iload_n 3, 1) := by decide +kernel
theorem dX12_layOut_29 : decode cX12_layOut 29 = .ok (.iconst 1, 1) := by decide +kernel
theorem dX12_layOut_30 : decode cX12_layOut 30 = .ok (.isub, 1) := by decide +kernel
theorem dX12_layOut_31 : decode cX12_layOut 31 = .ok (.invokevirtual 193, 3) := by decide +kernel
theorem dX12_layOut_34 : decode cX12_layOut 34 = .ok (.lsub, 1) := by decide +kernel
theorem dX12_layOut_35 : decode cX12_layOut 35 = .ok (.ldc2_w 187, 3) := by decide +kernel
theorem dX12_layOut_38 : decode cX12_layOut 38 = .ok (.ldiv, 1) := by decide +kernel
theorem dX12_layOut_39 : decode cX12_layOut 39 = .ok (.lstore 4, 2) := by decide +kernel
theorem dX12_layOut_41 : decode cX12_layOut 41 = .ok (.aload_n 0, 1) := by decide +kernel
theorem dX12_layOut_42 : decode cX12_layOut 42 = .ok (.invokevirtual 180, 3) := by decide +kernel
theorem dX12_layOut_45 : decode cX12_layOut 45 = .ok (.istore 6, 2) := by decide +kernel
theorem dX12_layOut_47 : decode cX12_layOut 47 = .ok (.iconst 0, 1) := by decide +kernel
theorem dX12_layOut_48 : decode cX12_layOut 48 = .ok (.istore 7, 2) := by decide +kernel
theorem dX12_layOut_50 : decode cX12_layOut 50 = .ok (.iload 7, 2) := by decide +kernel
theorem dX12_layOut_52 : decode cX12_layOut 52 = .ok (.aload_n 0, 1) := by decide +kernel
theorem dX12_layOut_53 : decode cX12_layOut 53 = .ok (.invokevirtual 133, 3) := by decide +kernel
theorem dX12_layOut_56 : decode cX12_layOut 56 = .ok (.if_icmp .ge 73, 3) := by decide +kernel
theorem dX12_layOut_59 : decode cX12_layOut 59 = .ok (.aload_n 0, 1) := by decide +kernel
theorem dX12_layOut_60 : decode cX12_layOut 60 = .ok (.getfield 29, 3) := by decide +kernel
theorem dX12_layOut_63 : decode cX12_layOut 63 = .ok (.iload 7, 2) := by decide +kernel
theorem dX12_layOut_65 : decode cX12_layOut 65 = .ok (.iconst 0, 1) := by decide +kernel
theorem dX12_layOut_66 : decode cX12_layOut 66 = .ok (.iastore, 1) := by decide +kernel
theorem dX12_layOut_67 : decode cX12_layOut 67 = .ok (.aload_n 0, 1) := by decide +kernel
theorem dX12_layOut_68 : decode cX12_layOut 68 = .ok (.getfield 9, 3) := by decide +kernel
theorem dX12_layOut_71 : decode cX12_layOut 71 = .ok (.iload 7, 2) := by decide +kernel
theorem dX12_layOut_73 : decode cX12_layOut 73 = .ok (.baload, 1) := by decide +kernel
theorem dX12_layOut_74 : decode cX12_layOut 74 = .ok (.ifCond .eq 6, 3) := by decide +kernel
theorem dX12_layOut_77 : decode cX12_layOut 77 = .ok (.goto 46, 3) := by decide +kernel
theorem dX12_layOut_80 : decode cX12_layOut 80 = .ok (.iinc 6 (-1), 3) := by decide +kernel
theorem dX12_layOut_83 : decode cX12_layOut 83 = .ok (.lload 4, 2) := by decide +kernel
theorem dX12_layOut_85 : decode cX12_layOut 85 = .ok (.iload_n 3, 1) := by decide +kernel
theorem dX12_layOut_86 : decode cX12_layOut 86 = .ok (.iload 6, 2) := by decide +kernel
theorem dX12_layOut_88 : decode cX12_layOut 88 = .ok (.invokestatic 183, 3) := by decide +kernel
theorem dX12_layOut_91 : decode cX12_layOut 91 = .ok (.lcmp, 1) := by decide +kernel
theorem dX12_layOut_92 : decode cX12_layOut 92 = .ok (.ifCond .lt 31, 3) := by decide +kernel
theorem dX12_layOut_95 : decode cX12_layOut 95 = .ok (.lload 4, 2) := by decide +kernel
theorem dX12_layOut_97 : decode cX12_layOut 97 = .ok (.iload_n 3, 1) := by decide +kernel
theorem dX12_layOut_98 : decode cX12_layOut 98 = .ok (.iload 6, 2) := by decide +kernel
theorem dX12_layOut_100 : decode cX12_layOut 100 = .ok (.invokestatic 183, 3) := by decide +kernel
theorem dX12_layOut_103 : decode cX12_layOut 103 = .ok (.lsub, 1) := by decide +kernel
theorem dX12_layOut_104 : decode cX12_layOut 104 = .ok (.lstore 4, 2) := by decide +kernel
theorem dX12_layOut_106 : decode cX12_layOut 106 = .ok (.aload_n 0, 1) := by decide +kernel
theorem dX12_layOut_107 : decode cX12_layOut 107 = .ok (.getfield 29, 3) := by decide +kernel
theorem dX12_layOut_110 : decode cX12_layOut 110 = .ok (.iload 7, 2) := by decide +kernel
theorem dX12_layOut_112 : decode cX12_layOut 112 = .ok (.dup2, 1) := by decide +kernel
theorem dX12_layOut_113 : decode cX12_layOut 113 = .ok (.iaload, 1) := by decide +kernel
theorem dX12_layOut_114 : decode cX12_layOut 114 = .ok (.iconst 1, 1) := by decide +kernel
theorem dX12_layOut_115 : decode cX12_layOut 115 = .ok (.iadd, 1) := by decide +kernel
theorem dX12_layOut_116 : decode cX12_layOut 116 = .ok (.iastore, 1) := by decide +kernel
theorem dX12_layOut_117 : decode cX12_layOut 117 = .ok (.iinc 3 (-1), 3) := by decide +kernel
theorem dX12_layOut_120 : decode cX12_layOut 120 = .ok (.goto (-37), 3) := by decide +kernel
theorem dX12_layOut_123 : decode cX12_layOut 123 = .ok (.iinc 7 1, 3) := by decide +kernel
theorem dX12_layOut_126 : decode cX12_layOut 126 = .ok (.goto (-76), 3) := by decide +kernel
theorem dX12_layOut_129 : decode cX12_layOut 129 = .ok (.lload_n 1, 1) := by decide +kernel
theorem dX12_layOut_130 : decode cX12_layOut 130 = .ok (.ldc2_w 187, 3) := by decide +kernel
theorem dX12_layOut_133 : decode cX12_layOut 133 = .ok (.lrem, 1) := by decide +kernel
theorem dX12_layOut_134 : decode cX12_layOut 134 = .ok (.l2i, 1) := by decide +kernel
theorem dX12_layOut_135 : decode cX12_layOut 135 = .ok (.ireturn, 1) := by decide +kernel
theorem dX12_gather_0 : decode cX12_gather 0 = .ok (.iconst 0, 1) := by decide +kernel
theorem dX12_gather_1 : decode cX12_gather 1 = .ok (.istore_n 3, 1) := by decide +kernel
theorem dX12_gather_2 : decode cX12_gather 2 = .ok (.iload_n 1, 1) := by decide +kernel
theorem dX12_gather_3 : decode cX12_gather 3 = .ok (.istore 4, 2) := by decide +kernel
theorem dX12_gather_5 : decode cX12_gather 5 = .ok (.iload 4, 2) := by decide +kernel
theorem dX12_gather_7 : decode cX12_gather 7 = .ok (.iload_n 2, 1) := by decide +kernel
theorem dX12_gather_8 : decode cX12_gather 8 = .ok (.if_icmp .ge 166, 3) := by decide +kernel
theorem dX12_gather_11 : decode cX12_gather 11 = .ok (.aload_n 0, 1) := by decide +kernel
theorem dX12_gather_12 : decode cX12_gather 12 = .ok (.getfield 46, 3) := by decide +kernel
theorem dX12_gather_15 : decode cX12_gather 15 = .ok (.iload 4, 2) := by decide +kernel
theorem dX12_gather_17 : decode cX12_gather 17 = .ok (.iload_n 1, 1) := by decide +kernel
theorem dX12_gather_18 : decode cX12_gather 18 = .ok (.isub, 1) := by decide +kernel
theorem dX12_gather_19 : decode cX12_gather 19 = .ok (.iload_n 3, 1) := by decide +kernel
theorem dX12_gather_20 : decode cX12_gather 20 = .ok (.iastore, 1) := by decide +kernel
theorem dX12_gather_21 : decode cX12_gather 21 = .ok (.aload_n 0, 1) := by decide +kernel
theorem dX12_gather_22 : decode cX12_gather 22 = .ok (.iload 4, 2) := by decide +kernel
theorem dX12_gather_24 : decode cX12_gather 24 = .ok (.i2l, 1) := by decide +kernel
theorem dX12_gather_25 : decode cX12_gather 25 = .ok (.invokevirtual 197, 3) := by decide +kernel
theorem dX12_gather_28 : decode cX12_gather 28 = .ok (.istore 5, 2) := by decide +kernel
theorem dX12_gather_30 : decode cX12_gather 30 = .ok (.aload_n 0, 1) := by decide +kernel
theorem dX12_gather_31 : decode cX12_gather 31 = .ok (.getfield 56, 3) := by decide +kernel
theorem dX12_gather_34 : decode cX12_gather 34 = .ok (.iload 4, 2) := by decide +kernel
theorem dX12_gather_36 : decode cX12_gather 36 = .ok (.iload_n 1, 1) := by decide +kernel
theorem dX12_gather_37 : decode cX12_gather 37 = .ok (.isub, 1) := by decide +kernel
theorem dX12_gather_38 : decode cX12_gather 38 = .ok (.iconst 0, 1) := by decide +kernel
theorem dX12_gather_39 : decode cX12_gather 39 = .ok (.iastore, 1) := by decide +kernel
theorem dX12_gather_40 : decode cX12_gather 40 = .ok (.aload_n 0, 1) := by decide +kernel
theorem dX12_gather_41 : decode cX12_gather 41 = .ok (.aload_n 0, 1) := by decide +kernel
theorem dX12_gather_42 : decode cX12_gather 42 = .ok (.getfield 29, 3) := by decide +kernel
theorem dX12_gather_45 : decode cX12_gather 45 = .ok (.iload 5, 2) := by decide +kernel
theorem dX12_gather_47 : decode cX12_gather 47 = .ok (.aload_n 0, 1) := by decide +kernel
theorem dX12_gather_48 : decode cX12_gather 48 = .ok (.getfield 65, 3) := by decide +kernel
theorem dX12_gather_51 : decode cX12_gather 51 = .ok (.invokevirtual 201, 3) := by decide +kernel
theorem dX12_gather_54 : decode cX12_gather 54 = .ok (.ifCond .ne 39, 3) := by decide +kernel
theorem dX12_gather_57 : decode cX12_gather 57 = .ok (.aload_n 0, 1) := by decide +kernel
theorem dX12_gather_58 : decode cX12_gather 58 = .ok (.getfield 56, 3) := by decide +kernel
theorem dX12_gather_61 : decode cX12_gather 61 = .ok (.iload 4, 2) := by decide +kernel
theorem dX12_gather_63 : decode cX12_gather 63 = .ok (.iload_n 1, 1) := by decide +kernel
theorem dX12_gather_64 : decode cX12_gather 64 = .ok (.isub, 1) := by decide +kernel
theorem dX12_gather_65 : decode cX12_gather 65 = .ok (.aload_n 0, 1) := by decide +kernel
theorem dX12_gather_66 : decode cX12_gather 66 = .ok (.aload_n 0, 1) := by decide +kernel
theorem dX12_gather_67 : decode cX12_gather 67 = .ok (.getfield 29, 3) := by decide +kernel
theorem dX12_gather_70 : decode cX12_gather 70 = .ok (.iload 5, 2) := by decide +kernel
theorem dX12_gather_72 : decode cX12_gather 72 = .ok (.iload 5, 2) := by decide +kernel
theorem dX12_gather_74 : decode cX12_gather 74 = .ok (.invokevirtual 205, 3) := by decide +kernel
theorem dX12_gather_77 : decode cX12_gather 77 = .ok (.aload_n 0, 1) := by decide +kernel
theorem dX12_gather_78 : decode cX12_gather 78 = .ok (.aload_n 0, 1) := by decide +kernel
theorem dX12_gather_79 : decode cX12_gather 79 = .ok (.getfield 29, 3) := by decide +kernel
theorem dX12_gather_82 : decode cX12_gather 82 = .ok (.iload 5, 2) := by decide +kernel
theorem dX12_gather_84 : decode cX12_gather 84 = .ok (.iconst 1, 1) := by decide +kernel
theorem dX12_gather_85 : decode cX12_gather 85 = .ok (.iload 5, 2) := by decide +kernel
theorem dX12_gather_87 : decode cX12_gather 87 = .ok (.isub, 1) := by decide +kernel
theorem dX12_gather_88 : decode cX12_gather 88 = .ok (.invokevirtual 205, 3) := by decide +kernel
theorem dX12_gather_91 : decode cX12_gather 91 = .ok (.isub, 1) := by decide +kernel
theorem dX12_gather_92 : decode cX12_gather 92 = .ok (.iastore, 1) := by decide +kernel
theorem dX12_gather_93 : decode cX12_gather 93 = .ok (.iconst 0, 1) := by decide +kernel
theorem dX12_gather_94 : decode cX12_gather 94 = .ok (.istore 6, 2) := by decide +kernel
theorem dX12_gather_96 : decode cX12_gather 96 = .ok (.iload 6, 2) := by decide +kernel
theorem dX12_gather_98 : decode cX12_gather 98 = .ok (.aload_n 0, 1) := by decide +kernel
theorem dX12_gather_99 : decode cX12_gather 99 = .ok (.invokevirtual 133, 3) := by decide +kernel
theorem dX12_gather_102 : decode cX12_gather 102 = .ok (.if_icmp .ge 66, 3) := by decide +kernel
theorem dX12_gather_105 : decode cX12_gather 105 = .ok (.aload_n 0, 1) := by decide +kernel
theorem dX12_gather_106 : decode cX12_gather 106 = .ok (.getfield 65, 3) := by decide +kernel
theorem dX12_gather_109 : decode cX12_gather 109 = .ok (.iload 6, 2) := by decide +kernel
theorem dX12_gather_111 : decode cX12_gather 111 = .ok (.baload, 1) := by decide +kernel
theorem dX12_gather_112 : decode cX12_gather 112 = .ok (.ifCond .ne 6, 3) := by decide +kernel
theorem dX12_gather_115 : decode cX12_gather 115 = .ok (.goto 47, 3) := by decide +kernel
theorem dX12_gather_118 : decode cX12_gather 118 = .ok (.aload_n 0, 1) := by decide +kernel
theorem dX12_gather_119 : decode cX12_gather 119 = .ok (.aload_n 0, 1) := by decide +kernel
theorem dX12_gather_120 : decode cX12_gather 120 = .ok (.getfield 29, 3) := by decide +kernel
theorem dX12_gather_123 : decode cX12_gather 123 = .ok (.iload 5, 2) := by decide +kernel
theorem dX12_gather_125 : decode cX12_gather 125 = .ok (.iload 6, 2) := by decide +kernel
theorem dX12_gather_127 : decode cX12_gather 127 = .ok (.invokevirtual 172, 3) := by decide +kernel
theorem dX12_gather_130 : decode cX12_gather 130 = .ok (.aload_n 0, 1) := by decide +kernel
theorem dX12_gather_131 : decode cX12_gather 131 = .ok (.getfield 50, 3) := by decide +kernel
theorem dX12_gather_134 : decode cX12_gather 134 = .ok (.iload_n 3, 1) := by decide +kernel
theorem dX12_gather_135 : decode cX12_gather 135 = .ok (.aload_n 0, 1) := by decide +kernel
theorem dX12_gather_136 : decode cX12_gather 136 = .ok (.aload_n 0, 1) := by decide +kernel
theorem dX12_gather_137 : decode cX12_gather 137 = .ok (.getfield 26, 3) := by decide +kernel
theorem dX12_gather_140 : decode cX12_gather 140 = .ok (.iconst 1, 1) := by decide +kernel
theorem dX12_gather_141 : decode cX12_gather 141 = .ok (.iload 5, 2) := by decide +kernel
theorem dX12_gather_143 : decode cX12_gather 143 = .ok (.isub, 1) := by decide +kernel
theorem dX12_gather_144 : decode cX12_gather 144 = .ok (.invokevirtual 209, 3) := by decide +kernel
theorem dX12_gather_147 : decode cX12_gather 147 = .ok (.l2i, 1) := by decide +kernel
theorem dX12_gather_148 : decode cX12_gather 148 = .ok (.iastore, 1) := by decide +kernel
theorem dX12_gather_149 : decode cX12_gather 149 = .ok (.aload_n 0, 1) := by decide +kernel
theorem dX12_gather_150 : decode cX12_gather 150 = .ok (.getfield 53, 3) := by decide +kernel
theorem dX12_gather_153 : decode cX12_gather 153 = .ok (.iload_n 3, 1) := by decide +kernel
theorem dX12_gather_154 : decode cX12_gather 154 = .ok (.aload_n 0, 1) := by decide +kernel
theorem dX12_gather_155 : decode cX12_gather 155 = .ok (.getfield 148, 3) := by decide +kernel
theorem dX12_gather_158 : decode cX12_gather 158 = .ok (.iastore, 1) := by decide +kernel
theorem dX12_gather_159 : decode cX12_gather 159 = .ok (.iinc 3 1, 3) := by decide +kernel
theorem dX12_gather_162 : decode cX12_gather 162 = .ok (.iinc 6 1, 3) := by decide +kernel
theorem dX12_gather_165 : decode cX12_gather 165 = .ok (.goto (-69), 3) := by decide +kernel
theorem dX12_gather_168 : decode cX12_gather 168 = .ok (.iinc 4 1, 3) := by decide +kernel
theorem dX12_gather_171 : decode cX12_gather 171 = .ok (.goto (-166), 3) := by decide +kernel
theorem dX12_gather_174 : decode cX12_gather 174 = .ok (.aload_n 0, 1) := by decide +kernel
theorem dX12_gather_175 : decode cX12_gather 175 = .ok (.getfield 46, 3) := by decide +kernel
theorem dX12_gather_178 : decode cX12_gather 178 = .ok (.iload_n 2, 1) := by decide +kernel
theorem dX12_gather_179 : decode cX12_gather 179 = .ok (.iload_n 1, 1) := by decide +kernel
theorem dX12_gather_180 : decode cX12_gather 180 = .ok (.isub, 1) := by decide +kernel
theorem dX12_gather_181 : decode cX12_gather 181 = .ok (.iload_n 3, 1) := by decide +kernel
theorem dX12_gather_182 : decode cX12_gather 182 = .ok (.iastore, 1) := by decide +kernel
theorem dX12_gather_183 : decode cX12_gather 183 = .ok (.return_, 1) := by decide +kernel
theorem dX12_isEnd_0 : decode cX12_isEnd 0 = .ok (.aload_n 0, 1) := by decide +kernel
theorem dX12_isEnd_1 : decode cX12_isEnd 1 = .ok (.getfield 46, 3) := by decide +kernel
theorem dX12_isEnd_4 : decode cX12_isEnd 4 = .ok (.iload_n 1, 1) := by decide +kernel
theorem dX12_isEnd_5 : decode cX12_isEnd 5 = .ok (.iaload, 1) := by decide +kernel
theorem dX12_isEnd_6 : decode cX12_isEnd 6 = .ok (.aload_n 0, 1) := by decide +kernel
theorem dX12_isEnd_7 : decode cX12_isEnd 7 = .ok (.getfield 46, 3) := by decide +kernel
theorem dX12_isEnd_10 : decode cX12_isEnd 10 = .ok (.iload_n 1, 1) := by decide +kernel
theorem dX12_isEnd_11 : decode cX12_isEnd 11 = .ok (.iconst 1, 1) := by decide +kernel
theorem dX12_isEnd_12 : decode cX12_isEnd 12 = .ok (.iadd, 1) := by decide +kernel
theorem dX12_isEnd_13 : decode cX12_isEnd 13 = .ok (.iaload, 1) := by decide +kernel
theorem dX12_isEnd_14 : decode cX12_isEnd 14 = .ok (.if_icmp .ne 7, 3) := by decide +kernel
theorem dX12_isEnd_17 : decode cX12_isEnd 17 = .ok (.iconst 1, 1) := by decide +kernel
theorem dX12_isEnd_18 : decode cX12_isEnd 18 = .ok (.goto 4, 3) := by decide +kernel
theorem dX12_isEnd_21 : decode cX12_isEnd 21 = .ok (.iconst 0, 1) := by decide +kernel
theorem dX12_isEnd_22 : decode cX12_isEnd 22 = .ok (.ireturn, 1) := by decide +kernel
theorem dX12_round_0 : decode cX12_round 0 = .ok (.iconst 0, 1) := by decide +kernel
theorem dX12_round_1 : decode cX12_round 1 = .ok (.istore_n 3, 1) := by decide +kernel
theorem dX12_round_2 : decode cX12_round 2 = .ok (.iconst 0, 1) := by decide +kernel
theorem dX12_round_3 : decode cX12_round 3 = .ok (.istore 4, 2) := by decide +kernel
theorem dX12_round_5 : decode cX12_round 5 = .ok (.iload 4, 2) := by decide +kernel
theorem dX12_round_7 : decode cX12_round 7 = .ok (.iload_n 2, 1) := by decide +kernel
theorem dX12_round_8 : decode cX12_round 8 = .ok (.iload_n 1, 1) := by decide +kernel
theorem dX12_round_9 : decode cX12_round 9 = .ok (.isub, 1) := by decide +kernel
theorem dX12_round_10 : decode cX12_round 10 = .ok (.if_icmp .ge 154, 3) := by decide +kernel
theorem dX12_round_13 : decode cX12_round 13 = .ok (.aload_n 0, 1) := by decide +kernel
theorem dX12_round_14 : decode cX12_round 14 = .ok (.getfield 62, 3) := by decide +kernel
theorem dX12_round_17 : decode cX12_round 17 = .ok (.iload 4, 2) := by decide +kernel
theorem dX12_round_19 : decode cX12_round 19 = .ok (.aload_n 0, 1) := by decide +kernel
theorem dX12_round_20 : decode cX12_round 20 = .ok (.getfield 59, 3) := by decide +kernel
theorem dX12_round_23 : decode cX12_round 23 = .ok (.iload 4, 2) := by decide +kernel
theorem dX12_round_25 : decode cX12_round 25 = .ok (.iaload, 1) := by decide +kernel
theorem dX12_round_26 : decode cX12_round 26 = .ok (.iastore, 1) := by decide +kernel
theorem dX12_round_27 : decode cX12_round 27 = .ok (.aload_n 0, 1) := by decide +kernel
theorem dX12_round_28 : decode cX12_round 28 = .ok (.iload 4, 2) := by decide +kernel
theorem dX12_round_30 : decode cX12_round 30 = .ok (.invokevirtual 213, 3) := by decide +kernel
theorem dX12_round_33 : decode cX12_round 33 = .ok (.ifCond .eq 6, 3) := by decide +kernel
theorem dX12_round_36 : decode cX12_round 36 = .ok (.goto 122, 3) := by decide +kernel
theorem dX12_round_39 : decode cX12_round 39 = .ok (.ldc 218, 2) := by decide +kernel
theorem dX12_round_41 : decode cX12_round 41 = .ok (.istore 5, 2) := by decide +kernel
theorem dX12_round_43 : decode cX12_round 43 = .ok (.aload_n 0, 1) := by decide +kernel
theorem dX12_round_44 : decode cX12_round 44 = .ok (.getfield 46, 3) := by decide +kernel
theorem dX12_round_47 : decode cX12_round 47 = .ok (.iload 4, 2) := by decide +kernel
theorem dX12_round_49 : decode cX12_round 49 = .ok (.iaload, 1) := by decide +kernel
theorem dX12_round_50 : decode cX12_round 50 = .ok (.istore 6, 2) := by decide +kernel
theorem dX12_round_52 : decode cX12_round 52 = .ok (.iload 6, 2) := by decide +kernel
theorem dX12_round_54 : decode cX12_round 54 = .ok (.aload_n 0, 1) := by decide +kernel
theorem dX12_round_55 : decode cX12_round 55 = .ok (.getfield 46, 3) := by decide +kernel
theorem dX12_round_58 : decode cX12_round 58 = .ok (.iload 4, 2) := by decide +kernel
theorem dX12_round_60 : decode cX12_round 60 = .ok (.iconst 1, 1) := by decide +kernel
theorem dX12_round_61 : decode cX12_round 61 = .ok (.iadd, 1) := by decide +kernel
theorem dX12_round_62 : decode cX12_round 62 = .ok (.iaload, 1) := by decide +kernel
theorem dX12_round_63 : decode cX12_round 63 = .ok (.if_icmp .ge 64, 3) := by decide +kernel
theorem dX12_round_66 : decode cX12_round 66 = .ok (.iload 5, 2) := by decide +kernel
theorem dX12_round_68 : decode cX12_round 68 = .ok (.aload_n 0, 1) := by decide +kernel
theorem dX12_round_69 : decode cX12_round 69 = .ok (.getfield 53, 3) := by decide +kernel
theorem dX12_round_72 : decode cX12_round 72 = .ok (.iload 6, 2) := by decide +kernel
theorem dX12_round_74 : decode cX12_round 74 = .ok (.iaload, 1) := by decide +kernel
theorem dX12_round_75 : decode cX12_round 75 = .ok (.aload_n 0, 1) := by decide +kernel
theorem dX12_round_76 : decode cX12_round 76 = .ok (.getfield 50, 3) := by decide +kernel
theorem dX12_round_79 : decode cX12_round 79 = .ok (.iload 6, 2) := by decide +kernel
theorem dX12_round_81 : decode cX12_round 81 = .ok (.iaload, 1) := by decide +kernel
theorem dX12_round_82 : decode cX12_round 82 = .ok (.iload_n 1, 1) := by decide +kernel
theorem dX12_round_83 : decode cX12_round 83 = .ok (.if_icmp .lt 20, 3) := by decide +kernel
theorem dX12_round_86 : decode cX12_round 86 = .ok (.aload_n 0, 1) := by decide +kernel
theorem dX12_round_87 : decode cX12_round 87 = .ok (.getfield 59, 3) := by decide +kernel
theorem dX12_round_90 : decode cX12_round 90 = .ok (.aload_n 0, 1) := by decide +kernel
theorem dX12_round_91 : decode cX12_round 91 = .ok (.getfield 50, 3) := by decide +kernel
theorem dX12_round_94 : decode cX12_round 94 = .ok (.iload 6, 2) := by decide +kernel
theorem dX12_round_96 : decode cX12_round 96 = .ok (.iaload, 1) := by decide +kernel
theorem dX12_round_97 : decode cX12_round 97 = .ok (.iload_n 1, 1) := by decide +kernel
theorem dX12_round_98 : decode cX12_round 98 = .ok (.isub, 1) := by decide +kernel
theorem dX12_round_99 : decode cX12_round 99 = .ok (.iaload, 1) := by decide +kernel
theorem dX12_round_100 : decode cX12_round 100 = .ok (.goto 15, 3) := by decide +kernel
theorem dX12_round_103 : decode cX12_round 103 = .ok (.aload_n 0, 1) := by decide +kernel
theorem dX12_round_104 : decode cX12_round 104 = .ok (.getfield 33, 3) := by decide +kernel
theorem dX12_round_107 : decode cX12_round 107 = .ok (.aload_n 0, 1) := by decide +kernel
theorem dX12_round_108 : decode cX12_round 108 = .ok (.getfield 50, 3) := by decide +kernel
theorem dX12_round_111 : decode cX12_round 111 = .ok (.iload 6, 2) := by decide +kernel
theorem dX12_round_113 : decode cX12_round 113 = .ok (.iaload, 1) := by decide +kernel
theorem dX12_round_114 : decode cX12_round 114 = .ok (.iaload, 1) := by decide +kernel
theorem dX12_round_115 : decode cX12_round 115 = .ok (.isub, 1) := by decide +kernel
theorem dX12_round_116 : decode cX12_round 116 = .ok (.invokestatic 219, 3) := by decide +kernel
theorem dX12_round_119 : decode cX12_round 119 = .ok (.istore 5, 2) := by decide +kernel
theorem dX12_round_121 : decode cX12_round 121 = .ok (.iinc 6 1, 3) := by decide +kernel
theorem dX12_round_124 : decode cX12_round 124 = .ok (.goto (-72), 3) := by decide +kernel
theorem dX12_round_127 : decode cX12_round 127 = .ok (.aload_n 0, 1) := by decide +kernel
theorem dX12_round_128 : decode cX12_round 128 = .ok (.getfield 62, 3) := by decide +kernel
theorem dX12_round_131 : decode cX12_round 131 = .ok (.iload 4, 2) := by decide +kernel
theorem dX12_round_133 : decode cX12_round 133 = .ok (.iload 5, 2) := by decide +kernel
theorem dX12_round_135 : decode cX12_round 135 = .ok (.iastore, 1) := by decide +kernel
theorem dX12_round_136 : decode cX12_round 136 = .ok (.iload_n 3, 1) := by decide +kernel
theorem dX12_round_137 : decode cX12_round 137 = .ok (.ifCond .ne 15, 3) := by decide +kernel
theorem dX12_round_140 : decode cX12_round 140 = .ok (.iload 5, 2) := by decide +kernel
theorem dX12_round_142 : decode cX12_round 142 = .ok (.aload_n 0, 1) := by decide +kernel
theorem dX12_round_143 : decode cX12_round 143 = .ok (.getfield 59, 3) := by decide +kernel
theorem dX12_round_146 : decode cX12_round 146 = .ok (.iload 4, 2) := by decide +kernel
theorem dX12_round_148 : decode cX12_round 148 = .ok (.iaload, 1) := by decide +kernel
theorem dX12_round_149 : decode cX12_round 149 = .ok (.if_icmp .eq 7, 3) := by decide +kernel
theorem dX12_round_152 : decode cX12_round 152 = .ok (.iconst 1, 1) := by decide +kernel
theorem dX12_round_153 : decode cX12_round 153 = .ok (.goto 4, 3) := by decide +kernel
theorem dX12_round_156 : decode cX12_round 156 = .ok (.iconst 0, 1) := by decide +kernel
theorem dX12_round_157 : decode cX12_round 157 = .ok (.istore_n 3, 1) := by decide +kernel
theorem dX12_round_158 : decode cX12_round 158 = .ok (.iinc 4 1, 3) := by decide +kernel
theorem dX12_round_161 : decode cX12_round 161 = .ok (.goto (-156), 3) := by decide +kernel
theorem dX12_round_164 : decode cX12_round 164 = .ok (.aload_n 0, 1) := by decide +kernel
theorem dX12_round_165 : decode cX12_round 165 = .ok (.getfield 59, 3) := by decide +kernel
theorem dX12_round_168 : decode cX12_round 168 = .ok (.astore 4, 2) := by decide +kernel
theorem dX12_round_170 : decode cX12_round 170 = .ok (.aload_n 0, 1) := by decide +kernel
theorem dX12_round_171 : decode cX12_round 171 = .ok (.aload_n 0, 1) := by decide +kernel
theorem dX12_round_172 : decode cX12_round 172 = .ok (.getfield 62, 3) := by decide +kernel
theorem dX12_round_175 : decode cX12_round 175 = .ok (.putfield 59, 3) := by decide +kernel
theorem dX12_round_178 : decode cX12_round 178 = .ok (.aload_n 0, 1) := by decide +kernel
theorem dX12_round_179 : decode cX12_round 179 = .ok (.aload 4, 2) := by decide +kernel
theorem dX12_round_181 : decode cX12_round 181 = .ok (.putfield 62, 3) := by decide +kernel
theorem dX12_round_184 : decode cX12_round 184 = .ok (.iload_n 3, 1) := by decide +kernel
theorem dX12_round_185 : decode cX12_round 185 = .ok (.ireturn, 1) := by decide +kernel
theorem dX12_start_0 : decode cX12_start 0 = .ok (.iconst 0, 1) := by decide +kernel
theorem dX12_start_1 : decode cX12_start 1 = .ok (.istore_n 2, 1) := by decide +kernel
theorem dX12_start_2 : decode cX12_start 2 = .ok (.iload_n 2, 1) := by decide +kernel
theorem dX12_start_3 : decode cX12_start 3 = .ok (.iload_n 1, 1) := by decide +kernel
theorem dX12_start_4 : decode cX12_start 4 = .ok (.if_icmp .ge 33, 3) := by decide +kernel
theorem dX12_start_7 : decode cX12_start 7 = .ok (.aload_n 0, 1) := by decide +kernel
theorem dX12_start_8 : decode cX12_start 8 = .ok (.getfield 59, 3) := by decide +kernel
theorem dX12_start_11 : decode cX12_start 11 = .ok (.iload_n 2, 1) := by decide +kernel
theorem dX12_start_12 : decode cX12_start 12 = .ok (.aload_n 0, 1) := by decide +kernel
theorem dX12_start_13 : decode cX12_start 13 = .ok (.iload_n 2, 1) := by decide +kernel
theorem dX12_start_14 : decode cX12_start 14 = .ok (.invokevirtual 213, 3) := by decide +kernel
theorem dX12_start_17 : decode cX12_start 17 = .ok (.ifCond .eq 12, 3) := by decide +kernel
theorem dX12_start_20 : decode cX12_start 20 = .ok (.aload_n 0, 1) := by decide +kernel
theorem dX12_start_21 : decode cX12_start 21 = .ok (.getfield 56, 3) := by decide +kernel
theorem dX12_start_24 : decode cX12_start 24 = .ok (.iload_n 2, 1) := by decide +kernel
theorem dX12_start_25 : decode cX12_start 25 = .ok (.iaload, 1) := by decide +kernel
theorem dX12_start_26 : decode cX12_start 26 = .ok (.goto 4, 3) := by decide +kernel
theorem dX12_start_29 : decode cX12_start 29 = .ok (.iconst 0, 1) := by decide +kernel
theorem dX12_start_30 : decode cX12_start 30 = .ok (.iastore, 1) := by decide +kernel
theorem dX12_start_31 : decode cX12_start 31 = .ok (.iinc 2 1, 3) := by decide +kernel
theorem dX12_start_34 : decode cX12_start 34 = .ok (.goto (-32), 3) := by decide +kernel
theorem dX12_start_37 : decode cX12_start 37 = .ok (.return_, 1) := by decide +kernel
theorem dX12_solveLayer_0 : decode cX12_solveLayer 0 = .ok (.aload_n 0, 1) := by decide +kernel
theorem dX12_solveLayer_1 : decode cX12_solveLayer 1 = .ok (.getfield 225, 3) := by decide +kernel
theorem dX12_solveLayer_4 : decode cX12_solveLayer 4 = .ok (.ifCond .ne 7, 3) := by decide +kernel
theorem dX12_solveLayer_7 : decode cX12_solveLayer 7 = .ok (.iconst 0, 1) := by decide +kernel
theorem dX12_solveLayer_8 : decode cX12_solveLayer 8 = .ok (.goto 14, 3) := by decide +kernel
theorem dX12_solveLayer_11 : decode cX12_solveLayer 11 = .ok (.aload_n 0, 1) := by decide +kernel
theorem dX12_solveLayer_12 : decode cX12_solveLayer 12 = .ok (.aload_n 0, 1) := by decide +kernel
theorem dX12_solveLayer_13 : decode cX12_solveLayer 13 = .ok (.getfield 225, 3) := by decide +kernel
theorem dX12_solveLayer_16 : decode cX12_solveLayer 16 = .ok (.iconst 1, 1) := by decide +kernel
theorem dX12_solveLayer_17 : decode cX12_solveLayer 17 = .ok (.isub, 1) := by decide +kernel
theorem dX12_solveLayer_18 : decode cX12_solveLayer 18 = .ok (.invokevirtual 193, 3) := by decide +kernel
theorem dX12_solveLayer_21 : decode cX12_solveLayer 21 = .ok (.l2i, 1) := by decide +kernel
theorem dX12_solveLayer_22 : decode cX12_solveLayer 22 = .ok (.istore_n 1, 1) := by decide +kernel
theorem dX12_solveLayer_23 : decode cX12_solveLayer 23 = .ok (.aload_n 0, 1) := by decide +kernel
theorem dX12_solveLayer_24 : decode cX12_solveLayer 24 = .ok (.aload_n 0, 1) := by decide +kernel
theorem dX12_solveLayer_25 : decode cX12_solveLayer 25 = .ok (.getfield 225, 3) := by decide +kernel
theorem dX12_solveLayer_28 : decode cX12_solveLayer 28 = .ok (.invokevirtual 193, 3) := by decide +kernel
theorem dX12_solveLayer_31 : decode cX12_solveLayer 31 = .ok (.l2i, 1) := by decide +kernel
theorem dX12_solveLayer_32 : decode cX12_solveLayer 32 = .ok (.istore_n 2, 1) := by decide +kernel
theorem dX12_solveLayer_33 : decode cX12_solveLayer 33 = .ok (.aload_n 0, 1) := by decide +kernel
theorem dX12_solveLayer_34 : decode cX12_solveLayer 34 = .ok (.iload_n 1, 1) := by decide +kernel
theorem dX12_solveLayer_35 : decode cX12_solveLayer 35 = .ok (.iload_n 2, 1) := by decide +kernel
theorem dX12_solveLayer_36 : decode cX12_solveLayer 36 = .ok (.invokevirtual 228, 3) := by decide +kernel
theorem dX12_solveLayer_39 : decode cX12_solveLayer 39 = .ok (.aload_n 0, 1) := by decide +kernel
theorem dX12_solveLayer_40 : decode cX12_solveLayer 40 = .ok (.iload_n 2, 1) := by decide +kernel
theorem dX12_solveLayer_41 : decode cX12_solveLayer 41 = .ok (.iload_n 1, 1) := by decide +kernel
theorem dX12_solveLayer_42 : decode cX12_solveLayer 42 = .ok (.isub, 1) := by decide +kernel
theorem dX12_solveLayer_43 : decode cX12_solveLayer 43 = .ok (.invokevirtual 231, 3) := by decide +kernel
theorem dX12_solveLayer_46 : decode cX12_solveLayer 46 = .ok (.iconst 1, 1) := by decide +kernel
theorem dX12_solveLayer_47 : decode cX12_solveLayer 47 = .ok (.istore_n 3, 1) := by decide +kernel
theorem dX12_solveLayer_48 : decode cX12_solveLayer 48 = .ok (.iload_n 3, 1) := by decide +kernel
theorem dX12_solveLayer_49 : decode cX12_solveLayer 49 = .ok (.ifCond .eq 13, 3) := by decide +kernel
theorem dX12_solveLayer_52 : decode cX12_solveLayer 52 = .ok (.aload_n 0, 1) := by decide +kernel
theorem dX12_solveLayer_53 : decode cX12_solveLayer 53 = .ok (.iload_n 1, 1) := by decide +kernel
theorem dX12_solveLayer_54 : decode cX12_solveLayer 54 = .ok (.iload_n 2, 1) := by decide +kernel
theorem dX12_solveLayer_55 : decode cX12_solveLayer 55 = .ok (.invokevirtual 234, 3) := by decide +kernel
theorem dX12_solveLayer_58 : decode cX12_solveLayer 58 = .ok (.istore_n 3, 1) := by decide +kernel
theorem dX12_solveLayer_59 : decode cX12_solveLayer 59 = .ok (.goto (-11), 3) := by decide +kernel
theorem dX12_solveLayer_62 : decode cX12_solveLayer 62 = .ok (.iconst 0, 1) := by decide +kernel
theorem dX12_solveLayer_63 : decode cX12_solveLayer 63 = .ok (.istore 4, 2) := by decide +kernel
theorem dX12_solveLayer_65 : decode cX12_solveLayer 65 = .ok (.iload 4, 2) := by decide +kernel
theorem dX12_solveLayer_67 : decode cX12_solveLayer 67 = .ok (.iload_n 2, 1) := by decide +kernel
theorem dX12_solveLayer_68 : decode cX12_solveLayer 68 = .ok (.iload_n 1, 1) := by decide +kernel
theorem dX12_solveLayer_69 : decode cX12_solveLayer 69 = .ok (.isub, 1) := by decide +kernel
theorem dX12_solveLayer_70 : decode cX12_solveLayer 70 = .ok (.if_icmp .ge 58, 3) := by decide +kernel
theorem dX12_solveLayer_73 : decode cX12_solveLayer 73 = .ok (.aload_n 0, 1) := by decide +kernel
theorem dX12_solveLayer_74 : decode cX12_solveLayer 74 = .ok (.getfield 33, 3) := by decide +kernel
theorem dX12_solveLayer_77 : decode cX12_solveLayer 77 = .ok (.iload_n 1, 1) := by decide +kernel
theorem dX12_solveLayer_78 : decode cX12_solveLayer 78 = .ok (.iload 4, 2) := by decide +kernel
theorem dX12_solveLayer_80 : decode cX12_solveLayer 80 = .ok (.iadd, 1) := by decide +kernel
theorem dX12_solveLayer_81 : decode cX12_solveLayer 81 = .ok (.aload_n 0, 1) := by decide +kernel
theorem dX12_solveLayer_82 : decode cX12_solveLayer 82 = .ok (.getfield 59, 3) := by decide +kernel
theorem dX12_solveLayer_85 : decode cX12_solveLayer 85 = .ok (.iload 4, 2) := by decide +kernel
theorem dX12_solveLayer_87 : decode cX12_solveLayer 87 = .ok (.iaload, 1) := by decide +kernel
theorem dX12_solveLayer_88 : decode cX12_solveLayer 88 = .ok (.iastore, 1) := by decide +kernel
theorem dX12_solveLayer_89 : decode cX12_solveLayer 89 = .ok (.aload_n 0, 1) := by decide +kernel
theorem dX12_solveLayer_90 : decode cX12_solveLayer 90 = .ok (.getfield 36, 3) := by decide +kernel
theorem dX12_solveLayer_93 : decode cX12_solveLayer 93 = .ok (.iload_n 1, 1) := by decide +kernel
theorem dX12_solveLayer_94 : decode cX12_solveLayer 94 = .ok (.iload 4, 2) := by decide +kernel
theorem dX12_solveLayer_96 : decode cX12_solveLayer 96 = .ok (.iadd, 1) := by decide +kernel
theorem dX12_solveLayer_97 : decode cX12_solveLayer 97 = .ok (.aload_n 0, 1) := by decide +kernel
theorem dX12_solveLayer_98 : decode cX12_solveLayer 98 = .ok (.getfield 59, 3) := by decide +kernel
theorem dX12_solveLayer_101 : decode cX12_solveLayer 101 = .ok (.iload 4, 2) := by decide +kernel
theorem dX12_solveLayer_103 : decode cX12_solveLayer 103 = .ok (.iaload, 1) := by decide +kernel
theorem dX12_solveLayer_104 : decode cX12_solveLayer 104 = .ok (.ifCond .eq 12, 3) := by decide +kernel
theorem dX12_solveLayer_107 : decode cX12_solveLayer 107 = .ok (.aload_n 0, 1) := by decide +kernel
theorem dX12_solveLayer_108 : decode cX12_solveLayer 108 = .ok (.iload 4, 2) := by decide +kernel
theorem dX12_solveLayer_110 : decode cX12_solveLayer 110 = .ok (.invokevirtual 213, 3) := by decide +kernel
theorem dX12_solveLayer_113 : decode cX12_solveLayer 113 = .ok (.ifCond .eq 7, 3) := by decide +kernel
theorem dX12_solveLayer_116 : decode cX12_solveLayer 116 = .ok (.iconst 0, 1) := by decide +kernel
theorem dX12_solveLayer_117 : decode cX12_solveLayer 117 = .ok (.goto 4, 3) := by decide +kernel
theorem dX12_solveLayer_120 : decode cX12_solveLayer 120 = .ok (.iconst (-1), 1) := by decide +kernel
theorem dX12_solveLayer_121 : decode cX12_solveLayer 121 = .ok (.iastore, 1) := by decide +kernel
theorem dX12_solveLayer_122 : decode cX12_solveLayer 122 = .ok (.iinc 4 1, 3) := by decide +kernel
theorem dX12_solveLayer_125 : decode cX12_solveLayer 125 = .ok (.goto (-60), 3) := by decide +kernel
theorem dX12_solveLayer_128 : decode cX12_solveLayer 128 = .ok (.aload_n 0, 1) := by decide +kernel
theorem dX12_solveLayer_129 : decode cX12_solveLayer 129 = .ok (.iload_n 2, 1) := by decide +kernel
theorem dX12_solveLayer_130 : decode cX12_solveLayer 130 = .ok (.iload_n 1, 1) := by decide +kernel
theorem dX12_solveLayer_131 : decode cX12_solveLayer 131 = .ok (.isub, 1) := by decide +kernel
theorem dX12_solveLayer_132 : decode cX12_solveLayer 132 = .ok (.invokevirtual 231, 3) := by decide +kernel
theorem dX12_solveLayer_135 : decode cX12_solveLayer 135 = .ok (.iconst 0, 1) := by decide +kernel
theorem dX12_solveLayer_136 : decode cX12_solveLayer 136 = .ok (.istore 4, 2) := by decide +kernel
theorem dX12_solveLayer_138 : decode cX12_solveLayer 138 = .ok (.iconst 0, 1) := by decide +kernel
theorem dX12_solveLayer_139 : decode cX12_solveLayer 139 = .ok (.istore 5, 2) := by decide +kernel
theorem dX12_solveLayer_141 : decode cX12_solveLayer 141 = .ok (.iload 5, 2) := by decide +kernel
theorem dX12_solveLayer_143 : decode cX12_solveLayer 143 = .ok (.iload_n 2, 1) := by decide +kernel
theorem dX12_solveLayer_144 : decode cX12_solveLayer 144 = .ok (.iload_n 1, 1) := by decide +kernel
theorem dX12_solveLayer_145 : decode cX12_solveLayer 145 = .ok (.isub, 1) := by decide +kernel
theorem dX12_solveLayer_146 : decode cX12_solveLayer 146 = .ok (.if_icmp .ge 31, 3) := by decide +kernel
theorem dX12_solveLayer_149 : decode cX12_solveLayer 149 = .ok (.iload 4, 2) := by decide +kernel
theorem dX12_solveLayer_151 : decode cX12_solveLayer 151 = .ok (.aload_n 0, 1) := by decide +kernel
theorem dX12_solveLayer_152 : decode cX12_solveLayer 152 = .ok (.getfield 36, 3) := by decide +kernel
theorem dX12_solveLayer_155 : decode cX12_solveLayer 155 = .ok (.iload_n 1, 1) := by decide +kernel
theorem dX12_solveLayer_156 : decode cX12_solveLayer 156 = .ok (.iload 5, 2) := by decide +kernel
theorem dX12_solveLayer_158 : decode cX12_solveLayer 158 = .ok (.iadd, 1) := by decide +kernel
theorem dX12_solveLayer_159 : decode cX12_solveLayer 159 = .ok (.iaload, 1) := by decide +kernel
theorem dX12_solveLayer_160 : decode cX12_solveLayer 160 = .ok (.ifCond .ge 7, 3) := by decide +kernel
theorem dX12_solveLayer_163 : decode cX12_solveLayer 163 = .ok (.iconst 1, 1) := by decide +kernel
theorem dX12_solveLayer_164 : decode cX12_solveLayer 164 = .ok (.goto 4, 3) := by decide +kernel
theorem dX12_solveLayer_167 : decode cX12_solveLayer 167 = .ok (.iconst 0, 1) := by decide +kernel
theorem dX12_solveLayer_168 : decode cX12_solveLayer 168 = .ok (.iadd, 1) := by decide +kernel
theorem dX12_solveLayer_169 : decode cX12_solveLayer 169 = .ok (.istore 4, 2) := by decide +kernel
theorem dX12_solveLayer_171 : decode cX12_solveLayer 171 = .ok (.iinc 5 1, 3) := by decide +kernel
theorem dX12_solveLayer_174 : decode cX12_solveLayer 174 = .ok (.goto (-33), 3) := by decide +kernel
theorem dX12_solveLayer_177 : decode cX12_solveLayer 177 = .ok (.iconst 1, 1) := by decide +kernel
theorem dX12_solveLayer_178 : decode cX12_solveLayer 178 = .ok (.istore 5, 2) := by decide +kernel
theorem dX12_solveLayer_180 : decode cX12_solveLayer 180 = .ok (.iload 4, 2) := by decide +kernel
theorem dX12_solveLayer_182 : decode cX12_solveLayer 182 = .ok (.ifCond .le 82, 3) := by decide +kernel
theorem dX12_solveLayer_185 : decode cX12_solveLayer 185 = .ok (.aload_n 0, 1) := by decide +kernel
theorem dX12_solveLayer_186 : decode cX12_solveLayer 186 = .ok (.iload_n 1, 1) := by decide +kernel
theorem dX12_solveLayer_187 : decode cX12_solveLayer 187 = .ok (.iload_n 2, 1) := by decide +kernel
theorem dX12_solveLayer_188 : decode cX12_solveLayer 188 = .ok (.invokevirtual 234, 3) := by decide +kernel
theorem dX12_solveLayer_191 : decode cX12_solveLayer 191 = .ok (.istore 6, 2) := by decide +kernel
theorem dX12_solveLayer_193 : decode cX12_solveLayer 193 = .ok (.iconst 0, 1) := by decide +kernel
theorem dX12_solveLayer_194 : decode cX12_solveLayer 194 = .ok (.istore 7, 2) := by decide +kernel
theorem dX12_solveLayer_196 : decode cX12_solveLayer 196 = .ok (.iload 7, 2) := by decide +kernel
theorem dX12_solveLayer_198 : decode cX12_solveLayer 198 = .ok (.iload_n 2, 1) := by decide +kernel
theorem dX12_solveLayer_199 : decode cX12_solveLayer 199 = .ok (.iload_n 1, 1) := by decide +kernel
theorem dX12_solveLayer_200 : decode cX12_solveLayer 200 = .ok (.isub, 1) := by decide +kernel
theorem dX12_solveLayer_201 : decode cX12_solveLayer 201 = .ok (.if_icmp .ge 57, 3) := by decide +kernel
theorem dX12_solveLayer_204 : decode cX12_solveLayer 204 = .ok (.aload_n 0, 1) := by decide +kernel
theorem dX12_solveLayer_205 : decode cX12_solveLayer 205 = .ok (.getfield 36, 3) := by decide +kernel
theorem dX12_solveLayer_208 : decode cX12_solveLayer 208 = .ok (.iload_n 1, 1) := by decide +kernel
theorem dX12_solveLayer_209 : decode cX12_solveLayer 209 = .ok (.iload 7, 2) := by decide +kernel
theorem dX12_solveLayer_211 : decode cX12_solveLayer 211 = .ok (.iadd, 1) := by decide +kernel
theorem dX12_solveLayer_212 : decode cX12_solveLayer 212 = .ok (.iaload, 1) := by decide +kernel
theorem dX12_solveLayer_213 : decode cX12_solveLayer 213 = .ok (.ifCond .ge 39, 3) := by decide +kernel
theorem dX12_solveLayer_216 : decode cX12_solveLayer 216 = .ok (.aload_n 0, 1) := by decide +kernel
theorem dX12_solveLayer_217 : decode cX12_solveLayer 217 = .ok (.getfield 59, 3) := by decide +kernel
theorem dX12_solveLayer_220 : decode cX12_solveLayer 220 = .ok (.iload 7, 2) := by decide +kernel
theorem dX12_solveLayer_222 : decode cX12_solveLayer 222 = .ok (.iaload, 1) := by decide +kernel
theorem dX12_solveLayer_223 : decode cX12_solveLayer 223 = .ok (.aload_n 0, 1) := by decide +kernel
theorem dX12_solveLayer_224 : decode cX12_solveLayer 224 = .ok (.getfield 33, 3) := by decide +kernel
theorem dX12_solveLayer_227 : decode cX12_solveLayer 227 = .ok (.iload_n 1, 1) := by decide +kernel
theorem dX12_solveLayer_228 : decode cX12_solveLayer 228 = .ok (.iload 7, 2) := by decide +kernel
theorem dX12_solveLayer_230 : decode cX12_solveLayer 230 = .ok (.iadd, 1) := by decide +kernel
theorem dX12_solveLayer_231 : decode cX12_solveLayer 231 = .ok (.iaload, 1) := by decide +kernel
theorem dX12_solveLayer_232 : decode cX12_solveLayer 232 = .ok (.if_icmp .eq 6, 3) := by decide +kernel
theorem dX12_solveLayer_235 : decode cX12_solveLayer 235 = .ok (.goto 17, 3) := by decide +kernel
theorem dX12_solveLayer_238 : decode cX12_solveLayer 238 = .ok (.aload_n 0, 1) := by decide +kernel
theorem dX12_solveLayer_239 : decode cX12_solveLayer 239 = .ok (.getfield 36, 3) := by decide +kernel
theorem dX12_solveLayer_242 : decode cX12_solveLayer 242 = .ok (.iload_n 1, 1) := by decide +kernel
theorem dX12_solveLayer_243 : decode cX12_solveLayer 243 = .ok (.iload 7, 2) := by decide +kernel
theorem dX12_solveLayer_245 : decode cX12_solveLayer 245 = .ok (.iadd, 1) := by decide +kernel
theorem dX12_solveLayer_246 : decode cX12_solveLayer 246 = .ok (.iload 5, 2) := by decide +kernel
theorem dX12_solveLayer_248 : decode cX12_solveLayer 248 = .ok (.iastore, 1) := by decide +kernel
theorem dX12_solveLayer_249 : decode cX12_solveLayer 249 = .ok (.iinc 4 (-1), 3) := by decide +kernel
theorem dX12_solveLayer_252 : decode cX12_solveLayer 252 = .ok (.iinc 7 1, 3) := by decide +kernel
theorem dX12_solveLayer_255 : decode cX12_solveLayer 255 = .ok (.goto (-59), 3) := by decide +kernel
theorem dX12_solveLayer_258 : decode cX12_solveLayer 258 = .ok (.iinc 5 1, 3) := by decide +kernel
theorem dX12_solveLayer_261 : decode cX12_solveLayer 261 = .ok (.goto (-81), 3) := by decide +kernel
theorem dX12_solveLayer_264 : decode cX12_solveLayer 264 = .ok (.aload_n 0, 1) := by decide +kernel
theorem dX12_solveLayer_265 : decode cX12_solveLayer 265 = .ok (.dup, 1) := by decide +kernel
theorem dX12_solveLayer_266 : decode cX12_solveLayer 266 = .ok (.getfield 225, 3) := by decide +kernel
theorem dX12_solveLayer_269 : decode cX12_solveLayer 269 = .ok (.iconst 1, 1) := by decide +kernel
theorem dX12_solveLayer_270 : decode cX12_solveLayer 270 = .ok (.iadd, 1) := by decide +kernel
theorem dX12_solveLayer_271 : decode cX12_solveLayer 271 = .ok (.putfield 225, 3) := by decide +kernel
theorem dX12_solveLayer_274 : decode cX12_solveLayer 274 = .ok (.aload_n 0, 1) := by decide +kernel
theorem dX12_solveLayer_275 : decode cX12_solveLayer 275 = .ok (.iload_n 2, 1) := by decide +kernel
theorem dX12_solveLayer_276 : decode cX12_solveLayer 276 = .ok (.putfield 238, 3) := by decide +kernel
theorem dX12_solveLayer_279 : decode cX12_solveLayer 279 = .ok (.return_, 1) := by decide +kernel
theorem dX12_reached_0 : decode cX12_reached 0 = .ok (.aload_n 0, 1) := by decide +kernel
theorem dX12_reached_1 : decode cX12_reached 1 = .ok (.getfield 148, 3) := by decide +kernel
theorem dX12_reached_4 : decode cX12_reached 4 = .ok (.aload_n 2, 1) := by decide +kernel
theorem dX12_reached_5 : decode cX12_reached 5 = .ok (.aload_n 0, 1) := by decide +kernel
theorem dX12_reached_6 : decode cX12_reached 6 = .ok (.aload_n 0, 1) := by decide +kernel
theorem dX12_reached_7 : decode cX12_reached 7 = .ok (.getfield 26, 3) := by decide +kernel
theorem dX12_reached_10 : decode cX12_reached 10 = .ok (.iconst 1, 1) := by decide +kernel
theorem dX12_reached_11 : decode cX12_reached 11 = .ok (.iload_n 1, 1) := by decide +kernel
theorem dX12_reached_12 : decode cX12_reached 12 = .ok (.isub, 1) := by decide +kernel
theorem dX12_reached_13 : decode cX12_reached 13 = .ok (.invokevirtual 209, 3) := by decide +kernel
theorem dX12_reached_16 : decode cX12_reached 16 = .ok (.l2i, 1) := by decide +kernel
theorem dX12_reached_17 : decode cX12_reached 17 = .ok (.iaload, 1) := by decide +kernel
theorem dX12_reached_18 : decode cX12_reached 18 = .ok (.isub, 1) := by decide +kernel
theorem dX12_reached_19 : decode cX12_reached 19 = .ok (.ireturn, 1) := by decide +kernel
theorem dX12_bestOf_0 : decode cX12_bestOf 0 = .ok (.aload_n 0, 1) := by decide +kernel
theorem dX12_bestOf_1 : decode cX12_bestOf 1 = .ok (.iload_n 1, 1) := by decide +kernel
theorem dX12_bestOf_2 : decode cX12_bestOf 2 = .ok (.i2l, 1) := by decide +kernel
theorem dX12_bestOf_3 : decode cX12_bestOf 3 = .ok (.invokevirtual 197, 3) := by decide +kernel
theorem dX12_bestOf_6 : decode cX12_bestOf 6 = .ok (.istore_n 2, 1) := by decide +kernel
theorem dX12_bestOf_7 : decode cX12_bestOf 7 = .ok (.aload_n 0, 1) := by decide +kernel
theorem dX12_bestOf_8 : decode cX12_bestOf 8 = .ok (.aload_n 0, 1) := by decide +kernel
theorem dX12_bestOf_9 : decode cX12_bestOf 9 = .ok (.getfield 29, 3) := by decide +kernel
theorem dX12_bestOf_12 : decode cX12_bestOf 12 = .ok (.iload_n 2, 1) := by decide +kernel
theorem dX12_bestOf_13 : decode cX12_bestOf 13 = .ok (.aload_n 0, 1) := by decide +kernel
theorem dX12_bestOf_14 : decode cX12_bestOf 14 = .ok (.getfield 65, 3) := by decide +kernel
theorem dX12_bestOf_17 : decode cX12_bestOf 17 = .ok (.invokevirtual 201, 3) := by decide +kernel
theorem dX12_bestOf_20 : decode cX12_bestOf 20 = .ok (.pop, 1) := by decide +kernel
theorem dX12_bestOf_21 : decode cX12_bestOf 21 = .ok (.iconst 0, 1) := by decide +kernel
theorem dX12_bestOf_22 : decode cX12_bestOf 22 = .ok (.istore_n 3, 1) := by decide +kernel
theorem dX12_bestOf_23 : decode cX12_bestOf 23 = .ok (.iload_n 3, 1) := by decide +kernel
theorem dX12_bestOf_24 : decode cX12_bestOf 24 = .ok (.aload_n 0, 1) := by decide +kernel
theorem dX12_bestOf_25 : decode cX12_bestOf 25 = .ok (.invokevirtual 133, 3) := by decide +kernel
theorem dX12_bestOf_28 : decode cX12_bestOf 28 = .ok (.if_icmp .ge 96, 3) := by decide +kernel
theorem dX12_bestOf_31 : decode cX12_bestOf 31 = .ok (.aload_n 0, 1) := by decide +kernel
theorem dX12_bestOf_32 : decode cX12_bestOf 32 = .ok (.getfield 65, 3) := by decide +kernel
theorem dX12_bestOf_35 : decode cX12_bestOf 35 = .ok (.iload_n 3, 1) := by decide +kernel
theorem dX12_bestOf_36 : decode cX12_bestOf 36 = .ok (.baload, 1) := by decide +kernel
theorem dX12_bestOf_37 : decode cX12_bestOf 37 = .ok (.ifCond .ne 6, 3) := by decide +kernel
theorem dX12_bestOf_40 : decode cX12_bestOf 40 = .ok (.goto 78, 3) := by decide +kernel
theorem dX12_bestOf_43 : decode cX12_bestOf 43 = .ok (.aload_n 0, 1) := by decide +kernel
theorem dX12_bestOf_44 : decode cX12_bestOf 44 = .ok (.aload_n 0, 1) := by decide +kernel
theorem dX12_bestOf_45 : decode cX12_bestOf 45 = .ok (.getfield 29, 3) := by decide +kernel
theorem dX12_bestOf_48 : decode cX12_bestOf 48 = .ok (.iload_n 2, 1) := by decide +kernel
theorem dX12_bestOf_49 : decode cX12_bestOf 49 = .ok (.iload_n 3, 1) := by decide +kernel
theorem dX12_bestOf_50 : decode cX12_bestOf 50 = .ok (.invokevirtual 172, 3) := by decide +kernel
theorem dX12_bestOf_53 : decode cX12_bestOf 53 = .ok (.aload_n 0, 1) := by decide +kernel
theorem dX12_bestOf_54 : decode cX12_bestOf 54 = .ok (.iload_n 2, 1) := by decide +kernel
theorem dX12_bestOf_55 : decode cX12_bestOf 55 = .ok (.aload_n 0, 1) := by decide +kernel
theorem dX12_bestOf_56 : decode cX12_bestOf 56 = .ok (.getfield 33, 3) := by decide +kernel
theorem dX12_bestOf_59 : decode cX12_bestOf 59 = .ok (.invokevirtual 241, 3) := by decide +kernel
theorem dX12_bestOf_62 : decode cX12_bestOf 62 = .ok (.aload_n 0, 1) := by decide +kernel
theorem dX12_bestOf_63 : decode cX12_bestOf 63 = .ok (.getfield 33, 3) := by decide +kernel
theorem dX12_bestOf_66 : decode cX12_bestOf 66 = .ok (.iload_n 1, 1) := by decide +kernel
theorem dX12_bestOf_67 : decode cX12_bestOf 67 = .ok (.iaload, 1) := by decide +kernel
theorem dX12_bestOf_68 : decode cX12_bestOf 68 = .ok (.if_icmp .eq 6, 3) := by decide +kernel
theorem dX12_bestOf_71 : decode cX12_bestOf 71 = .ok (.goto 47, 3) := by decide +kernel
theorem dX12_bestOf_74 : decode cX12_bestOf 74 = .ok (.aload_n 0, 1) := by decide +kernel
theorem dX12_bestOf_75 : decode cX12_bestOf 75 = .ok (.getfield 33, 3) := by decide +kernel
theorem dX12_bestOf_78 : decode cX12_bestOf 78 = .ok (.iload_n 1, 1) := by decide +kernel
theorem dX12_bestOf_79 : decode cX12_bestOf 79 = .ok (.iaload, 1) := by decide +kernel
theorem dX12_bestOf_80 : decode cX12_bestOf 80 = .ok (.ifCond .le 36, 3) := by decide +kernel
theorem dX12_bestOf_83 : decode cX12_bestOf 83 = .ok (.aload_n 0, 1) := by decide +kernel
theorem dX12_bestOf_84 : decode cX12_bestOf 84 = .ok (.getfield 148, 3) := by decide +kernel
theorem dX12_bestOf_87 : decode cX12_bestOf 87 = .ok (.ifCond .gt 29, 3) := by decide +kernel
theorem dX12_bestOf_90 : decode cX12_bestOf 90 = .ok (.aload_n 0, 1) := by decide +kernel
theorem dX12_bestOf_91 : decode cX12_bestOf 91 = .ok (.getfield 36, 3) := by decide +kernel
theorem dX12_bestOf_94 : decode cX12_bestOf 94 = .ok (.aload_n 0, 1) := by decide +kernel
theorem dX12_bestOf_95 : decode cX12_bestOf 95 = .ok (.aload_n 0, 1) := by decide +kernel
theorem dX12_bestOf_96 : decode cX12_bestOf 96 = .ok (.getfield 26, 3) := by decide +kernel
theorem dX12_bestOf_99 : decode cX12_bestOf 99 = .ok (.iconst 1, 1) := by decide +kernel
theorem dX12_bestOf_100 : decode cX12_bestOf 100 = .ok (.iload_n 2, 1) := by decide +kernel
theorem dX12_bestOf_101 : decode cX12_bestOf 101 = .ok (.isub, 1) := by decide +kernel
theorem dX12_bestOf_102 : decode cX12_bestOf 102 = .ok (.invokevirtual 209, 3) := by decide +kernel
theorem dX12_bestOf_105 : decode cX12_bestOf 105 = .ok (.l2i, 1) := by decide +kernel
theorem dX12_bestOf_106 : decode cX12_bestOf 106 = .ok (.iaload, 1) := by decide +kernel
theorem dX12_bestOf_107 : decode cX12_bestOf 107 = .ok (.aload_n 0, 1) := by decide +kernel
theorem dX12_bestOf_108 : decode cX12_bestOf 108 = .ok (.getfield 36, 3) := by decide +kernel
theorem dX12_bestOf_111 : decode cX12_bestOf 111 = .ok (.iload_n 1, 1) := by decide +kernel
theorem dX12_bestOf_112 : decode cX12_bestOf 112 = .ok (.iaload, 1) := by decide +kernel
theorem dX12_bestOf_113 : decode cX12_bestOf 113 = .ok (.if_icmp .ge 5, 3) := by decide +kernel
theorem dX12_bestOf_116 : decode cX12_bestOf 116 = .ok (.iload_n 3, 1) := by decide +kernel
theorem dX12_bestOf_117 : decode cX12_bestOf 117 = .ok (.ireturn, 1) := by decide +kernel
theorem dX12_bestOf_118 : decode cX12_bestOf 118 = .ok (.iinc 3 1, 3) := by decide +kernel
theorem dX12_bestOf_121 : decode cX12_bestOf 121 = .ok (.goto (-98), 3) := by decide +kernel
theorem dX12_bestOf_124 : decode cX12_bestOf 124 = .ok (.iconst (-1), 1) := by decide +kernel
theorem dX12_bestOf_125 : decode cX12_bestOf 125 = .ok (.ireturn, 1) := by decide +kernel
theorem dX12_isRight_0 : decode cX12_isRight 0 = .ok (.aload_n 0, 1) := by decide +kernel
theorem dX12_isRight_1 : decode cX12_isRight 1 = .ok (.iload_n 1, 1) := by decide +kernel
theorem dX12_isRight_2 : decode cX12_isRight 2 = .ok (.i2l, 1) := by decide +kernel
theorem dX12_isRight_3 : decode cX12_isRight 3 = .ok (.invokevirtual 197, 3) := by decide +kernel
theorem dX12_isRight_6 : decode cX12_isRight 6 = .ok (.istore_n 2, 1) := by decide +kernel
theorem dX12_isRight_7 : decode cX12_isRight 7 = .ok (.aload_n 0, 1) := by decide +kernel
theorem dX12_isRight_8 : decode cX12_isRight 8 = .ok (.getfield 39, 3) := by decide +kernel
theorem dX12_isRight_11 : decode cX12_isRight 11 = .ok (.iload_n 1, 1) := by decide +kernel
theorem dX12_isRight_12 : decode cX12_isRight 12 = .ok (.iaload, 1) := by decide +kernel
theorem dX12_isRight_13 : decode cX12_isRight 13 = .ok (.istore_n 3, 1) := by decide +kernel
theorem dX12_isRight_14 : decode cX12_isRight 14 = .ok (.aload_n 0, 1) := by decide +kernel
theorem dX12_isRight_15 : decode cX12_isRight 15 = .ok (.aload_n 0, 1) := by decide +kernel
theorem dX12_isRight_16 : decode cX12_isRight 16 = .ok (.getfield 29, 3) := by decide +kernel
theorem dX12_isRight_19 : decode cX12_isRight 19 = .ok (.iload_n 2, 1) := by decide +kernel
theorem dX12_isRight_20 : decode cX12_isRight 20 = .ok (.aload_n 0, 1) := by decide +kernel
theorem dX12_isRight_21 : decode cX12_isRight 21 = .ok (.getfield 65, 3) := by decide +kernel
theorem dX12_isRight_24 : decode cX12_isRight 24 = .ok (.invokevirtual 201, 3) := by decide +kernel
theorem dX12_isRight_27 : decode cX12_isRight 27 = .ok (.ifCond .ne 45, 3) := by decide +kernel
theorem dX12_isRight_30 : decode cX12_isRight 30 = .ok (.iload_n 3, 1) := by decide +kernel
theorem dX12_isRight_31 : decode cX12_isRight 31 = .ok (.aload_n 0, 1) := by decide +kernel
theorem dX12_isRight_32 : decode cX12_isRight 32 = .ok (.aload_n 0, 1) := by decide +kernel
theorem dX12_isRight_33 : decode cX12_isRight 33 = .ok (.getfield 29, 3) := by decide +kernel
theorem dX12_isRight_36 : decode cX12_isRight 36 = .ok (.iload_n 2, 1) := by decide +kernel
theorem dX12_isRight_37 : decode cX12_isRight 37 = .ok (.iload_n 2, 1) := by decide +kernel
theorem dX12_isRight_38 : decode cX12_isRight 38 = .ok (.invokevirtual 205, 3) := by decide +kernel
theorem dX12_isRight_41 : decode cX12_isRight 41 = .ok (.aload_n 0, 1) := by decide +kernel
theorem dX12_isRight_42 : decode cX12_isRight 42 = .ok (.aload_n 0, 1) := by decide +kernel
theorem dX12_isRight_43 : decode cX12_isRight 43 = .ok (.getfield 29, 3) := by decide +kernel
theorem dX12_isRight_46 : decode cX12_isRight 46 = .ok (.iload_n 2, 1) := by decide +kernel
theorem dX12_isRight_47 : decode cX12_isRight 47 = .ok (.iconst 1, 1) := by decide +kernel
theorem dX12_isRight_48 : decode cX12_isRight 48 = .ok (.iload_n 2, 1) := by decide +kernel
theorem dX12_isRight_49 : decode cX12_isRight 49 = .ok (.isub, 1) := by decide +kernel
theorem dX12_isRight_50 : decode cX12_isRight 50 = .ok (.invokevirtual 205, 3) := by decide +kernel
theorem dX12_isRight_53 : decode cX12_isRight 53 = .ok (.isub, 1) := by decide +kernel
theorem dX12_isRight_54 : decode cX12_isRight 54 = .ok (.if_icmp .ne 16, 3) := by decide +kernel
theorem dX12_isRight_57 : decode cX12_isRight 57 = .ok (.aload_n 0, 1) := by decide +kernel
theorem dX12_isRight_58 : decode cX12_isRight 58 = .ok (.getfield 42, 3) := by decide +kernel
theorem dX12_isRight_61 : decode cX12_isRight 61 = .ok (.iload_n 1, 1) := by decide +kernel
theorem dX12_isRight_62 : decode cX12_isRight 62 = .ok (.iaload, 1) := by decide +kernel
theorem dX12_isRight_63 : decode cX12_isRight 63 = .ok (.ifCond .ne 7, 3) := by decide +kernel
theorem dX12_isRight_66 : decode cX12_isRight 66 = .ok (.iconst 1, 1) := by decide +kernel
theorem dX12_isRight_67 : decode cX12_isRight 67 = .ok (.goto 4, 3) := by decide +kernel
theorem dX12_isRight_70 : decode cX12_isRight 70 = .ok (.iconst 0, 1) := by decide +kernel
theorem dX12_isRight_71 : decode cX12_isRight 71 = .ok (.ireturn, 1) := by decide +kernel
theorem dX12_isRight_72 : decode cX12_isRight 72 = .ok (.ldc 218, 2) := by decide +kernel
theorem dX12_isRight_74 : decode cX12_isRight 74 = .ok (.istore 4, 2) := by decide +kernel
theorem dX12_isRight_76 : decode cX12_isRight 76 = .ok (.iconst 0, 1) := by decide +kernel
theorem dX12_isRight_77 : decode cX12_isRight 77 = .ok (.istore 5, 2) := by decide +kernel
theorem dX12_isRight_79 : decode cX12_isRight 79 = .ok (.iconst 1, 1) := by decide +kernel
theorem dX12_isRight_80 : decode cX12_isRight 80 = .ok (.istore 6, 2) := by decide +kernel
theorem dX12_isRight_82 : decode cX12_isRight 82 = .ok (.iconst 0, 1) := by decide +kernel
theorem dX12_isRight_83 : decode cX12_isRight 83 = .ok (.istore 7, 2) := by decide +kernel
theorem dX12_isRight_85 : decode cX12_isRight 85 = .ok (.iload 7, 2) := by decide +kernel
theorem dX12_isRight_87 : decode cX12_isRight 87 = .ok (.aload_n 0, 1) := by decide +kernel
theorem dX12_isRight_88 : decode cX12_isRight 88 = .ok (.invokevirtual 133, 3) := by decide +kernel
theorem dX12_isRight_91 : decode cX12_isRight 91 = .ok (.if_icmp .ge 139, 3) := by decide +kernel
theorem dX12_isRight_94 : decode cX12_isRight 94 = .ok (.aload_n 0, 1) := by decide +kernel
theorem dX12_isRight_95 : decode cX12_isRight 95 = .ok (.getfield 65, 3) := by decide +kernel
theorem dX12_isRight_98 : decode cX12_isRight 98 = .ok (.iload 7, 2) := by decide +kernel
theorem dX12_isRight_100 : decode cX12_isRight 100 = .ok (.baload, 1) := by decide +kernel
theorem dX12_isRight_101 : decode cX12_isRight 101 = .ok (.ifCond .ne 6, 3) := by decide +kernel
theorem dX12_isRight_104 : decode cX12_isRight 104 = .ok (.goto 120, 3) := by decide +kernel
theorem dX12_isRight_107 : decode cX12_isRight 107 = .ok (.aload_n 0, 1) := by decide +kernel
theorem dX12_isRight_108 : decode cX12_isRight 108 = .ok (.aload_n 0, 1) := by decide +kernel
theorem dX12_isRight_109 : decode cX12_isRight 109 = .ok (.getfield 29, 3) := by decide +kernel
theorem dX12_isRight_112 : decode cX12_isRight 112 = .ok (.iload_n 2, 1) := by decide +kernel
theorem dX12_isRight_113 : decode cX12_isRight 113 = .ok (.iload 7, 2) := by decide +kernel
theorem dX12_isRight_115 : decode cX12_isRight 115 = .ok (.invokevirtual 172, 3) := by decide +kernel
theorem dX12_isRight_118 : decode cX12_isRight 118 = .ok (.aload_n 0, 1) := by decide +kernel
theorem dX12_isRight_119 : decode cX12_isRight 119 = .ok (.iload_n 2, 1) := by decide +kernel
theorem dX12_isRight_120 : decode cX12_isRight 120 = .ok (.aload_n 0, 1) := by decide +kernel
theorem dX12_isRight_121 : decode cX12_isRight 121 = .ok (.getfield 39, 3) := by decide +kernel
theorem dX12_isRight_124 : decode cX12_isRight 124 = .ok (.invokevirtual 241, 3) := by decide +kernel
theorem dX12_isRight_127 : decode cX12_isRight 127 = .ok (.istore 8, 2) := by decide +kernel
theorem dX12_isRight_129 : decode cX12_isRight 129 = .ok (.iload 4, 2) := by decide +kernel
theorem dX12_isRight_131 : decode cX12_isRight 131 = .ok (.iload 8, 2) := by decide +kernel
theorem dX12_isRight_133 : decode cX12_isRight 133 = .ok (.invokestatic 219, 3) := by decide +kernel
theorem dX12_isRight_136 : decode cX12_isRight 136 = .ok (.istore 4, 2) := by decide +kernel
theorem dX12_isRight_138 : decode cX12_isRight 138 = .ok (.aload_n 0, 1) := by decide +kernel
theorem dX12_isRight_139 : decode cX12_isRight 139 = .ok (.getfield 148, 3) := by decide +kernel
theorem dX12_isRight_142 : decode cX12_isRight 142 = .ok (.ifCond .gt 29, 3) := by decide +kernel
theorem dX12_isRight_145 : decode cX12_isRight 145 = .ok (.aload_n 0, 1) := by decide +kernel
theorem dX12_isRight_146 : decode cX12_isRight 146 = .ok (.getfield 42, 3) := by decide +kernel
theorem dX12_isRight_149 : decode cX12_isRight 149 = .ok (.aload_n 0, 1) := by decide +kernel
theorem dX12_isRight_150 : decode cX12_isRight 150 = .ok (.aload_n 0, 1) := by decide +kernel
theorem dX12_isRight_151 : decode cX12_isRight 151 = .ok (.getfield 26, 3) := by decide +kernel
theorem dX12_isRight_154 : decode cX12_isRight 154 = .ok (.iconst 1, 1) := by decide +kernel
theorem dX12_isRight_155 : decode cX12_isRight 155 = .ok (.iload_n 2, 1) := by decide +kernel
theorem dX12_isRight_156 : decode cX12_isRight 156 = .ok (.isub, 1) := by decide +kernel
theorem dX12_isRight_157 : decode cX12_isRight 157 = .ok (.invokevirtual 209, 3) := by decide +kernel
theorem dX12_isRight_160 : decode cX12_isRight 160 = .ok (.l2i, 1) := by decide +kernel
theorem dX12_isRight_161 : decode cX12_isRight 161 = .ok (.iaload, 1) := by decide +kernel
theorem dX12_isRight_162 : decode cX12_isRight 162 = .ok (.aload_n 0, 1) := by decide +kernel
theorem dX12_isRight_163 : decode cX12_isRight 163 = .ok (.getfield 42, 3) := by decide +kernel
theorem dX12_isRight_166 : decode cX12_isRight 166 = .ok (.iload_n 1, 1) := by decide +kernel
theorem dX12_isRight_167 : decode cX12_isRight 167 = .ok (.iaload, 1) := by decide +kernel
theorem dX12_isRight_168 : decode cX12_isRight 168 = .ok (.if_icmp .ge 7, 3) := by decide +kernel
theorem dX12_isRight_171 : decode cX12_isRight 171 = .ok (.iconst 1, 1) := by decide +kernel
theorem dX12_isRight_172 : decode cX12_isRight 172 = .ok (.goto 4, 3) := by decide +kernel
theorem dX12_isRight_175 : decode cX12_isRight 175 = .ok (.iconst 0, 1) := by decide +kernel
theorem dX12_isRight_176 : decode cX12_isRight 176 = .ok (.istore 9, 2) := by decide +kernel
theorem dX12_isRight_178 : decode cX12_isRight 178 = .ok (.iload 5, 2) := by decide +kernel
theorem dX12_isRight_180 : decode cX12_isRight 180 = .ok (.ifCond .ne 14, 3) := by decide +kernel
theorem dX12_isRight_183 : decode cX12_isRight 183 = .ok (.iload 8, 2) := by decide +kernel
theorem dX12_isRight_185 : decode cX12_isRight 185 = .ok (.iload_n 3, 1) := by decide +kernel
theorem dX12_isRight_186 : decode cX12_isRight 186 = .ok (.if_icmp .ne 12, 3) := by decide +kernel
theorem dX12_isRight_189 : decode cX12_isRight 189 = .ok (.iload 9, 2) := by decide +kernel
theorem dX12_isRight_191 : decode cX12_isRight 191 = .ok (.ifCond .eq 7, 3) := by decide +kernel
theorem dX12_isRight_194 : decode cX12_isRight 194 = .ok (.iconst 1, 1) := by decide +kernel
theorem dX12_isRight_195 : decode cX12_isRight 195 = .ok (.goto 4, 3) := by decide +kernel
theorem dX12_isRight_198 : decode cX12_isRight 198 = .ok (.iconst 0, 1) := by decide +kernel
theorem dX12_isRight_199 : decode cX12_isRight 199 = .ok (.istore 5, 2) := by decide +kernel
theorem dX12_isRight_201 : decode cX12_isRight 201 = .ok (.iload 6, 2) := by decide +kernel
theorem dX12_isRight_203 : decode cX12_isRight 203 = .ok (.ifCond .eq 18, 3) := by decide +kernel
theorem dX12_isRight_206 : decode cX12_isRight 206 = .ok (.iload 8, 2) := by decide +kernel
theorem dX12_isRight_208 : decode cX12_isRight 208 = .ok (.iload_n 3, 1) := by decide +kernel
theorem dX12_isRight_209 : decode cX12_isRight 209 = .ok (.if_icmp .ne 8, 3) := by decide +kernel
theorem dX12_isRight_212 : decode cX12_isRight 212 = .ok (.iload 9, 2) := by decide +kernel
theorem dX12_isRight_214 : decode cX12_isRight 214 = .ok (.ifCond .eq 7, 3) := by decide +kernel
theorem dX12_isRight_217 : decode cX12_isRight 217 = .ok (.iconst 1, 1) := by decide +kernel
theorem dX12_isRight_218 : decode cX12_isRight 218 = .ok (.goto 4, 3) := by decide +kernel
theorem dX12_isRight_221 : decode cX12_isRight 221 = .ok (.iconst 0, 1) := by decide +kernel
theorem dX12_isRight_222 : decode cX12_isRight 222 = .ok (.istore 6, 2) := by decide +kernel
theorem dX12_isRight_224 : decode cX12_isRight 224 = .ok (.iinc 7 1, 3) := by decide +kernel
theorem dX12_isRight_227 : decode cX12_isRight 227 = .ok (.goto (-142), 3) := by decide +kernel
theorem dX12_isRight_230 : decode cX12_isRight 230 = .ok (.iload 4, 2) := by decide +kernel
theorem dX12_isRight_232 : decode cX12_isRight 232 = .ok (.iload_n 3, 1) := by decide +kernel
theorem dX12_isRight_233 : decode cX12_isRight 233 = .ok (.if_icmp .ne 25, 3) := by decide +kernel
theorem dX12_isRight_236 : decode cX12_isRight 236 = .ok (.iload_n 3, 1) := by decide +kernel
theorem dX12_isRight_237 : decode cX12_isRight 237 = .ok (.ifCond .le 8, 3) := by decide +kernel
theorem dX12_isRight_240 : decode cX12_isRight 240 = .ok (.iload 5, 2) := by decide +kernel
theorem dX12_isRight_242 : decode cX12_isRight 242 = .ok (.ifCond .eq 16, 3) := by decide +kernel
theorem dX12_isRight_245 : decode cX12_isRight 245 = .ok (.iload_n 3, 1) := by decide +kernel
theorem dX12_isRight_246 : decode cX12_isRight 246 = .ok (.ifCond .ge 8, 3) := by decide +kernel
theorem dX12_isRight_249 : decode cX12_isRight 249 = .ok (.iload 6, 2) := by decide +kernel
theorem dX12_isRight_251 : decode cX12_isRight 251 = .ok (.ifCond .eq 7, 3) := by decide +kernel
theorem dX12_isRight_254 : decode cX12_isRight 254 = .ok (.iconst 1, 1) := by decide +kernel
theorem dX12_isRight_255 : decode cX12_isRight 255 = .ok (.goto 4, 3) := by decide +kernel
theorem dX12_isRight_258 : decode cX12_isRight 258 = .ok (.iconst 0, 1) := by decide +kernel
theorem dX12_isRight_259 : decode cX12_isRight 259 = .ok (.ireturn, 1) := by decide +kernel
