theorem dX12_pit_0 : decode cX12_pit 0 = .ok (.aload_n 0, 1) := by decide +kernel
theorem dX12_pit_1 : decode cX12_pit 1 = .ok (.iload_n 1, 1) := by decide +kernel
theorem dX12_pit_2 : decode cX12_pit 2 = .ok (.iload_n 2, 1) := by decide +kernel
theorem dX12_pit_3 : decode cX12_pit 3 = .ok (.invokevirtual 271, 3) := by decide +kernel
theorem dX12_pit_6 : decode cX12_pit 6 = .ok (.istore_n 3, 1) := by decide +kernel
theorem dX12_pit_7 : decode cX12_pit 7 = .ok (.iload_n 3, 1) := by decide +kernel
theorem dX12_pit_8 : decode cX12_pit 8 = .ok (.ifCond .le 11, 3) := by decide +kernel
theorem dX12_pit_11 : decode cX12_pit 11 = .ok (.aload_n 0, 1) := by decide +kernel
theorem dX12_pit_12 : decode cX12_pit 12 = .ok (.iload_n 3, 1) := by decide +kernel
theorem dX12_pit_13 : decode cX12_pit 13 = .ok (.invokevirtual 265, 3) := by decide +kernel
theorem dX12_pit_16 : decode cX12_pit 16 = .ok (.goto 20, 3) := by decide +kernel
theorem dX12_pit_19 : decode cX12_pit 19 = .ok (.aload_n 0, 1) := by decide +kernel
theorem dX12_pit_20 : decode cX12_pit 20 = .ok (.aload_n 0, 1) := by decide +kernel
theorem dX12_pit_21 : decode cX12_pit 21 = .ok (.getfield 13, 3) := by decide +kernel
theorem dX12_pit_24 : decode cX12_pit 24 = .ok (.iload_n 1, 1) := by decide +kernel
theorem dX12_pit_25 : decode cX12_pit 25 = .ok (.aload_n 0, 1) := by decide +kernel
theorem dX12_pit_26 : decode cX12_pit 26 = .ok (.getfield 93, 3) := by decide +kernel
theorem dX12_pit_29 : decode cX12_pit 29 = .ok (.imul, 1) := by decide +kernel
theorem dX12_pit_30 : decode cX12_pit 30 = .ok (.iload_n 2, 1) := by decide +kernel
theorem dX12_pit_31 : decode cX12_pit 31 = .ok (.iadd, 1) := by decide +kernel
theorem dX12_pit_32 : decode cX12_pit 32 = .ok (.iaload, 1) := by decide +kernel
theorem dX12_pit_33 : decode cX12_pit 33 = .ok (.invokevirtual 268, 3) := by decide +kernel
theorem dX12_pit_36 : decode cX12_pit 36 = .ok (.ireturn, 1) := by decide +kernel
theorem dX12_stored_0 : decode cX12_stored 0 = .ok (.iload_n 1, 1) := by decide +kernel
theorem dX12_stored_1 : decode cX12_stored 1 = .ok (.i2l, 1) := by decide +kernel
theorem dX12_stored_2 : decode cX12_stored 2 = .ok (.lconst 0, 1) := by decide +kernel
theorem dX12_stored_3 : decode cX12_stored 3 = .ok (.lconst 1, 1) := by decide +kernel
theorem dX12_stored_4 : decode cX12_stored 4 = .ok (.invokestatic 164, 3) := by decide +kernel
theorem dX12_stored_7 : decode cX12_stored 7 = .ok (.ifCond .ne 11, 3) := by decide +kernel
theorem dX12_stored_10 : decode cX12_stored 10 = .ok (.aload_n 0, 1) := by decide +kernel
theorem dX12_stored_11 : decode cX12_stored 11 = .ok (.iconst 3, 1) := by decide +kernel
theorem dX12_stored_12 : decode cX12_stored 12 = .ok (.invokevirtual 265, 3) := by decide +kernel
theorem dX12_stored_15 : decode cX12_stored 15 = .ok (.goto 13, 3) := by decide +kernel
theorem dX12_stored_18 : decode cX12_stored 18 = .ok (.aload_n 0, 1) := by decide +kernel
theorem dX12_stored_19 : decode cX12_stored 19 = .ok (.aload_n 0, 1) := by decide +kernel
theorem dX12_stored_20 : decode cX12_stored 20 = .ok (.getfield 17, 3) := by decide +kernel
theorem dX12_stored_23 : decode cX12_stored 23 = .ok (.iload_n 1, 1) := by decide +kernel
theorem dX12_stored_24 : decode cX12_stored 24 = .ok (.iaload, 1) := by decide +kernel
theorem dX12_stored_25 : decode cX12_stored 25 = .ok (.invokevirtual 268, 3) := by decide +kernel
theorem dX12_stored_28 : decode cX12_stored 28 = .ok (.ireturn, 1) := by decide +kernel
theorem dX12_allowed_0 : decode cX12_allowed 0 = .ok (.aload_n 0, 1) := by decide +kernel
theorem dX12_allowed_1 : decode cX12_allowed 1 = .ok (.aload_n 0, 1) := by decide +kernel
theorem dX12_allowed_2 : decode cX12_allowed 2 = .ok (.getfield 13, 3) := by decide +kernel
theorem dX12_allowed_5 : decode cX12_allowed 5 = .ok (.aload_n 0, 1) := by decide +kernel
theorem dX12_allowed_6 : decode cX12_allowed 6 = .ok (.getfield 96, 3) := by decide +kernel
theorem dX12_allowed_9 : decode cX12_allowed 9 = .ok (.aload_n 0, 1) := by decide +kernel
theorem dX12_allowed_10 : decode cX12_allowed 10 = .ok (.getfield 65, 3) := by decide +kernel
theorem dX12_allowed_13 : decode cX12_allowed 13 = .ok (.invokevirtual 201, 3) := by decide +kernel
theorem dX12_allowed_16 : decode cX12_allowed 16 = .ok (.ireturn, 1) := by decide +kernel
theorem dX12_over_0 : decode cX12_over 0 = .ok (.aload_n 0, 1) := by decide +kernel
theorem dX12_over_1 : decode cX12_over 1 = .ok (.invokevirtual 301, 3) := by decide +kernel
theorem dX12_over_4 : decode cX12_over 4 = .ok (.ifCond .ne 7, 3) := by decide +kernel
theorem dX12_over_7 : decode cX12_over 7 = .ok (.iconst 1, 1) := by decide +kernel
theorem dX12_over_8 : decode cX12_over 8 = .ok (.goto 4, 3) := by decide +kernel
theorem dX12_over_11 : decode cX12_over 11 = .ok (.iconst 0, 1) := by decide +kernel
theorem dX12_over_12 : decode cX12_over 12 = .ok (.ireturn, 1) := by decide +kernel
theorem dX12_scored_0 : decode cX12_scored 0 = .ok (.aload_n 0, 1) := by decide +kernel
theorem dX12_scored_1 : decode cX12_scored 1 = .ok (.getfield 17, 3) := by decide +kernel
theorem dX12_scored_4 : decode cX12_scored 4 = .ok (.iload_n 1, 1) := by decide +kernel
theorem dX12_scored_5 : decode cX12_scored 5 = .ok (.iaload, 1) := by decide +kernel
theorem dX12_scored_6 : decode cX12_scored 6 = .ok (.aload_n 0, 1) := by decide +kernel
theorem dX12_scored_7 : decode cX12_scored 7 = .ok (.invokevirtual 295, 3) := by decide +kernel
theorem dX12_scored_10 : decode cX12_scored 10 = .ok (.iconst 1, 1) := by decide +kernel
theorem dX12_scored_11 : decode cX12_scored 11 = .ok (.if_icmp .ne 19, 3) := by decide +kernel
theorem dX12_scored_14 : decode cX12_scored 14 = .ok (.aload_n 0, 1) := by decide +kernel
theorem dX12_scored_15 : decode cX12_scored 15 = .ok (.aload_n 0, 1) := by decide +kernel
theorem dX12_scored_16 : decode cX12_scored 16 = .ok (.getfield 13, 3) := by decide +kernel
theorem dX12_scored_19 : decode cX12_scored 19 = .ok (.aload_n 0, 1) := by decide +kernel
theorem dX12_scored_20 : decode cX12_scored 20 = .ok (.getfield 96, 3) := by decide +kernel
theorem dX12_scored_23 : decode cX12_scored 23 = .ok (.iload_n 1, 1) := by decide +kernel
theorem dX12_scored_24 : decode cX12_scored 24 = .ok (.invokevirtual 205, 3) := by decide +kernel
theorem dX12_scored_27 : decode cX12_scored 27 = .ok (.goto 4, 3) := by decide +kernel
theorem dX12_scored_30 : decode cX12_scored 30 = .ok (.iconst 0, 1) := by decide +kernel
theorem dX12_scored_31 : decode cX12_scored 31 = .ok (.iadd, 1) := by decide +kernel
theorem dX12_scored_32 : decode cX12_scored 32 = .ok (.ireturn, 1) := by decide +kernel
theorem dX12_score_0 : decode cX12_score 0 = .ok (.iload_n 1, 1) := by decide +kernel
theorem dX12_score_1 : decode cX12_score 1 = .ok (.i2l, 1) := by decide +kernel
theorem dX12_score_2 : decode cX12_score 2 = .ok (.lconst 0, 1) := by decide +kernel
theorem dX12_score_3 : decode cX12_score 3 = .ok (.lconst 1, 1) := by decide +kernel
theorem dX12_score_4 : decode cX12_score 4 = .ok (.invokestatic 164, 3) := by decide +kernel
theorem dX12_score_7 : decode cX12_score 7 = .ok (.ifCond .ne 11, 3) := by decide +kernel
theorem dX12_score_10 : decode cX12_score 10 = .ok (.aload_n 0, 1) := by decide +kernel
theorem dX12_score_11 : decode cX12_score 11 = .ok (.iconst 3, 1) := by decide +kernel
theorem dX12_score_12 : decode cX12_score 12 = .ok (.invokevirtual 265, 3) := by decide +kernel
theorem dX12_score_15 : decode cX12_score 15 = .ok (.goto 12, 3) := by decide +kernel
theorem dX12_score_18 : decode cX12_score 18 = .ok (.aload_n 0, 1) := by decide +kernel
theorem dX12_score_19 : decode cX12_score 19 = .ok (.aload_n 0, 1) := by decide +kernel
theorem dX12_score_20 : decode cX12_score 20 = .ok (.iload_n 1, 1) := by decide +kernel
theorem dX12_score_21 : decode cX12_score 21 = .ok (.invokevirtual 298, 3) := by decide +kernel
theorem dX12_score_24 : decode cX12_score 24 = .ok (.invokevirtual 268, 3) := by decide +kernel
theorem dX12_score_27 : decode cX12_score 27 = .ok (.ireturn, 1) := by decide +kernel
theorem dX12_turn_0 : decode cX12_turn 0 = .ok (.aload_n 0, 1) := by decide +kernel
theorem dX12_turn_1 : decode cX12_turn 1 = .ok (.getfield 96, 3) := by decide +kernel
theorem dX12_turn_4 : decode cX12_turn 4 = .ok (.ireturn, 1) := by decide +kernel
theorem dX12_moves_0 : decode cX12_moves 0 = .ok (.aload_n 0, 1) := by decide +kernel
theorem dX12_moves_1 : decode cX12_moves 1 = .ok (.getfield 121, 3) := by decide +kernel
theorem dX12_moves_4 : decode cX12_moves 4 = .ok (.ireturn, 1) := by decide +kernel
theorem dX12_positions_0 : decode cX12_positions 0 = .ok (.iload_n 1, 1) := by decide +kernel
theorem dX12_positions_1 : decode cX12_positions 1 = .ok (.i2l, 1) := by decide +kernel
theorem dX12_positions_2 : decode cX12_positions 2 = .ok (.lconst 0, 1) := by decide +kernel
theorem dX12_positions_3 : decode cX12_positions 3 = .ok (.ldc2_w 304, 3) := by decide +kernel
theorem dX12_positions_6 : decode cX12_positions 6 = .ok (.invokestatic 164, 3) := by decide +kernel
theorem dX12_positions_9 : decode cX12_positions 9 = .ok (.ifCond .ne 11, 3) := by decide +kernel
theorem dX12_positions_12 : decode cX12_positions 12 = .ok (.aload_n 0, 1) := by decide +kernel
theorem dX12_positions_13 : decode cX12_positions 13 = .ok (.bipush 7, 2) := by decide +kernel
theorem dX12_positions_15 : decode cX12_positions 15 = .ok (.invokevirtual 265, 3) := by decide +kernel
theorem dX12_positions_18 : decode cX12_positions 18 = .ok (.i2l, 1) := by decide +kernel
theorem dX12_positions_19 : decode cX12_positions 19 = .ok (.lreturn, 1) := by decide +kernel
theorem dX12_positions_20 : decode cX12_positions 20 = .ok (.aload_n 0, 1) := by decide +kernel
theorem dX12_positions_21 : decode cX12_positions 21 = .ok (.iconst 0, 1) := by decide +kernel
theorem dX12_positions_22 : decode cX12_positions 22 = .ok (.putfield 260, 3) := by decide +kernel
theorem dX12_positions_25 : decode cX12_positions 25 = .ok (.aload_n 0, 1) := by decide +kernel
theorem dX12_positions_26 : decode cX12_positions 26 = .ok (.iload_n 1, 1) := by decide +kernel
theorem dX12_positions_27 : decode cX12_positions 27 = .ok (.invokevirtual 193, 3) := by decide +kernel
theorem dX12_positions_30 : decode cX12_positions 30 = .ok (.lreturn, 1) := by decide +kernel
theorem dX12_place_0 : decode cX12_place 0 = .ok (.aload_n 0, 1) := by decide +kernel
theorem dX12_place_1 : decode cX12_place 1 = .ok (.aload_n 0, 1) := by decide +kernel
theorem dX12_place_2 : decode cX12_place 2 = .ok (.getfield 13, 3) := by decide +kernel
theorem dX12_place_5 : decode cX12_place 5 = .ok (.invokevirtual 189, 3) := by decide +kernel
theorem dX12_place_8 : decode cX12_place 8 = .ok (.bipush 12, 2) := by decide +kernel
theorem dX12_place_10 : decode cX12_place 10 = .ok (.if_icmp .le 11, 3) := by decide +kernel
theorem dX12_place_13 : decode cX12_place 13 = .ok (.aload_n 0, 1) := by decide +kernel
theorem dX12_place_14 : decode cX12_place 14 = .ok (.bipush 10, 2) := by decide +kernel
theorem dX12_place_16 : decode cX12_place 16 = .ok (.invokevirtual 265, 3) := by decide +kernel
theorem dX12_place_19 : decode cX12_place 19 = .ok (.i2l, 1) := by decide +kernel
theorem dX12_place_20 : decode cX12_place 20 = .ok (.lreturn, 1) := by decide +kernel
theorem dX12_place_21 : decode cX12_place 21 = .ok (.aload_n 0, 1) := by decide +kernel
theorem dX12_place_22 : decode cX12_place 22 = .ok (.iconst 0, 1) := by decide +kernel
theorem dX12_place_23 : decode cX12_place 23 = .ok (.putfield 260, 3) := by decide +kernel
theorem dX12_place_26 : decode cX12_place 26 = .ok (.aload_n 0, 1) := by decide +kernel
theorem dX12_place_27 : decode cX12_place 27 = .ok (.aload_n 0, 1) := by decide +kernel
theorem dX12_place_28 : decode cX12_place 28 = .ok (.getfield 13, 3) := by decide +kernel
theorem dX12_place_31 : decode cX12_place 31 = .ok (.aload_n 0, 1) := by decide +kernel
theorem dX12_place_32 : decode cX12_place 32 = .ok (.getfield 96, 3) := by decide +kernel
theorem dX12_place_35 : decode cX12_place 35 = .ok (.invokevirtual 209, 3) := by decide +kernel
theorem dX12_place_38 : decode cX12_place 38 = .ok (.lreturn, 1) := by decide +kernel
theorem dX12_ofPlace_0 : decode cX12_ofPlace 0 = .ok (.lload_n 1, 1) := by decide +kernel
theorem dX12_ofPlace_1 : decode cX12_ofPlace 1 = .ok (.lconst 0, 1) := by decide +kernel
theorem dX12_ofPlace_2 : decode cX12_ofPlace 2 = .ok (.aload_n 0, 1) := by decide +kernel
theorem dX12_ofPlace_3 : decode cX12_ofPlace 3 = .ok (.bipush 12, 2) := by decide +kernel
theorem dX12_ofPlace_5 : decode cX12_ofPlace 5 = .ok (.invokevirtual 193, 3) := by decide +kernel
theorem dX12_ofPlace_8 : decode cX12_ofPlace 8 = .ok (.lconst 1, 1) := by decide +kernel
theorem dX12_ofPlace_9 : decode cX12_ofPlace 9 = .ok (.lsub, 1) := by decide +kernel
theorem dX12_ofPlace_10 : decode cX12_ofPlace 10 = .ok (.invokestatic 164, 3) := by decide +kernel
theorem dX12_ofPlace_13 : decode cX12_ofPlace 13 = .ok (.ifCond .ne 9, 3) := by decide +kernel
theorem dX12_ofPlace_16 : decode cX12_ofPlace 16 = .ok (.aload_n 0, 1) := by decide +kernel
theorem dX12_ofPlace_17 : decode cX12_ofPlace 17 = .ok (.iconst 3, 1) := by decide +kernel
theorem dX12_ofPlace_18 : decode cX12_ofPlace 18 = .ok (.invokevirtual 265, 3) := by decide +kernel
theorem dX12_ofPlace_21 : decode cX12_ofPlace 21 = .ok (.ireturn, 1) := by decide +kernel
theorem dX12_ofPlace_22 : decode cX12_ofPlace 22 = .ok (.iload_n 3, 1) := by decide +kernel
theorem dX12_ofPlace_23 : decode cX12_ofPlace 23 = .ok (.i2l, 1) := by decide +kernel
theorem dX12_ofPlace_24 : decode cX12_ofPlace 24 = .ok (.ldc2_w 306, 3) := by decide +kernel
theorem dX12_ofPlace_27 : decode cX12_ofPlace 27 = .ok (.aload_n 0, 1) := by decide +kernel
theorem dX12_ofPlace_28 : decode cX12_ofPlace 28 = .ok (.invokevirtual 180, 3) := by decide +kernel
theorem dX12_ofPlace_31 : decode cX12_ofPlace 31 = .ok (.iconst 1, 1) := by decide +kernel
theorem dX12_ofPlace_32 : decode cX12_ofPlace 32 = .ok (.isub, 1) := by decide +kernel
theorem dX12_ofPlace_33 : decode cX12_ofPlace 33 = .ok (.i2l, 1) := by decide +kernel
theorem dX12_ofPlace_34 : decode cX12_ofPlace 34 = .ok (.invokestatic 164, 3) := by decide +kernel
theorem dX12_ofPlace_37 : decode cX12_ofPlace 37 = .ok (.ifCond .ne 10, 3) := by decide +kernel
theorem dX12_ofPlace_40 : decode cX12_ofPlace 40 = .ok (.aload_n 0, 1) := by decide +kernel
theorem dX12_ofPlace_41 : decode cX12_ofPlace 41 = .ok (.bipush 7, 2) := by decide +kernel
theorem dX12_ofPlace_43 : decode cX12_ofPlace 43 = .ok (.invokevirtual 265, 3) := by decide +kernel
theorem dX12_ofPlace_46 : decode cX12_ofPlace 46 = .ok (.ireturn, 1) := by decide +kernel
theorem dX12_ofPlace_47 : decode cX12_ofPlace 47 = .ok (.aload_n 0, 1) := by decide +kernel
theorem dX12_ofPlace_48 : decode cX12_ofPlace 48 = .ok (.lload_n 1, 1) := by decide +kernel
theorem dX12_ofPlace_49 : decode cX12_ofPlace 49 = .ok (.invokevirtual 197, 3) := by decide +kernel
theorem dX12_ofPlace_52 : decode cX12_ofPlace 52 = .ok (.istore 4, 2) := by decide +kernel
theorem dX12_ofPlace_54 : decode cX12_ofPlace 54 = .ok (.iload_n 3, 1) := by decide +kernel
theorem dX12_ofPlace_55 : decode cX12_ofPlace 55 = .ok (.ifCond .ge 10, 3) := by decide +kernel
theorem dX12_ofPlace_58 : decode cX12_ofPlace 58 = .ok (.aload_n 0, 1) := by decide +kernel
theorem dX12_ofPlace_59 : decode cX12_ofPlace 59 = .ok (.iload 4, 2) := by decide +kernel
theorem dX12_ofPlace_61 : decode cX12_ofPlace 61 = .ok (.invokevirtual 268, 3) := by decide +kernel
theorem dX12_ofPlace_64 : decode cX12_ofPlace 64 = .ok (.ireturn, 1) := by decide +kernel
theorem dX12_ofPlace_65 : decode cX12_ofPlace 65 = .ok (.iconst (-1), 1) := by decide +kernel
theorem dX12_ofPlace_66 : decode cX12_ofPlace 66 = .ok (.istore 5, 2) := by decide +kernel
theorem dX12_ofPlace_68 : decode cX12_ofPlace 68 = .ok (.iconst (-1), 1) := by decide +kernel
theorem dX12_ofPlace_69 : decode cX12_ofPlace 69 = .ok (.istore 6, 2) := by decide +kernel
theorem dX12_ofPlace_71 : decode cX12_ofPlace 71 = .ok (.iload 5, 2) := by decide +kernel
theorem dX12_ofPlace_73 : decode cX12_ofPlace 73 = .ok (.iload_n 3, 1) := by decide +kernel
theorem dX12_ofPlace_74 : decode cX12_ofPlace 74 = .ok (.if_icmp .ge 29, 3) := by decide +kernel
theorem dX12_ofPlace_77 : decode cX12_ofPlace 77 = .ok (.iinc 6 1, 3) := by decide +kernel
theorem dX12_ofPlace_80 : decode cX12_ofPlace 80 = .ok (.iload 5, 2) := by decide +kernel
theorem dX12_ofPlace_82 : decode cX12_ofPlace 82 = .ok (.aload_n 0, 1) := by decide +kernel
theorem dX12_ofPlace_83 : decode cX12_ofPlace 83 = .ok (.getfield 9, 3) := by decide +kernel
theorem dX12_ofPlace_86 : decode cX12_ofPlace 86 = .ok (.iload 6, 2) := by decide +kernel
theorem dX12_ofPlace_88 : decode cX12_ofPlace 88 = .ok (.baload, 1) := by decide +kernel
theorem dX12_ofPlace_89 : decode cX12_ofPlace 89 = .ok (.ifCond .eq 7, 3) := by decide +kernel
theorem dX12_ofPlace_92 : decode cX12_ofPlace 92 = .ok (.iconst 0, 1) := by decide +kernel
theorem dX12_ofPlace_93 : decode cX12_ofPlace 93 = .ok (.goto 4, 3) := by decide +kernel
theorem dX12_ofPlace_96 : decode cX12_ofPlace 96 = .ok (.iconst 1, 1) := by decide +kernel
theorem dX12_ofPlace_97 : decode cX12_ofPlace 97 = .ok (.iadd, 1) := by decide +kernel
theorem dX12_ofPlace_98 : decode cX12_ofPlace 98 = .ok (.istore 5, 2) := by decide +kernel
theorem dX12_ofPlace_100 : decode cX12_ofPlace 100 = .ok (.goto (-29), 3) := by decide +kernel
theorem dX12_ofPlace_103 : decode cX12_ofPlace 103 = .ok (.aload_n 0, 1) := by decide +kernel
theorem dX12_ofPlace_104 : decode cX12_ofPlace 104 = .ok (.aload_n 0, 1) := by decide +kernel
theorem dX12_ofPlace_105 : decode cX12_ofPlace 105 = .ok (.getfield 29, 3) := by decide +kernel
theorem dX12_ofPlace_108 : decode cX12_ofPlace 108 = .ok (.iload 6, 2) := by decide +kernel
theorem dX12_ofPlace_110 : decode cX12_ofPlace 110 = .ok (.iaload, 1) := by decide +kernel
theorem dX12_ofPlace_111 : decode cX12_ofPlace 111 = .ok (.invokevirtual 268, 3) := by decide +kernel
theorem dX12_ofPlace_114 : decode cX12_ofPlace 114 = .ok (.ireturn, 1) := by decide +kernel
theorem dX12_sidePits_0 : decode cX12_sidePits 0 = .ok (.iconst 0, 1) := by decide +kernel
theorem dX12_sidePits_1 : decode cX12_sidePits 1 = .ok (.istore_n 2, 1) := by decide +kernel
theorem dX12_sidePits_2 : decode cX12_sidePits 2 = .ok (.iconst 0, 1) := by decide +kernel
theorem dX12_sidePits_3 : decode cX12_sidePits 3 = .ok (.istore_n 3, 1) := by decide +kernel
theorem dX12_sidePits_4 : decode cX12_sidePits 4 = .ok (.iload_n 3, 1) := by decide +kernel
theorem dX12_sidePits_5 : decode cX12_sidePits 5 = .ok (.aload_n 0, 1) := by decide +kernel
theorem dX12_sidePits_6 : decode cX12_sidePits 6 = .ok (.invokevirtual 133, 3) := by decide +kernel
theorem dX12_sidePits_9 : decode cX12_sidePits 9 = .ok (.if_icmp .ge 35, 3) := by decide +kernel
theorem dX12_sidePits_12 : decode cX12_sidePits 12 = .ok (.iload_n 2, 1) := by decide +kernel
theorem dX12_sidePits_13 : decode cX12_sidePits 13 = .ok (.aload_n 0, 1) := by decide +kernel
theorem dX12_sidePits_14 : decode cX12_sidePits 14 = .ok (.getfield 9, 3) := by decide +kernel
theorem dX12_sidePits_17 : decode cX12_sidePits 17 = .ok (.iload_n 3, 1) := by decide +kernel
theorem dX12_sidePits_18 : decode cX12_sidePits 18 = .ok (.baload, 1) := by decide +kernel
theorem dX12_sidePits_19 : decode cX12_sidePits 19 = .ok (.ifCond .ne 16, 3) := by decide +kernel
theorem dX12_sidePits_22 : decode cX12_sidePits 22 = .ok (.aload_n 0, 1) := by decide +kernel
theorem dX12_sidePits_23 : decode cX12_sidePits 23 = .ok (.iload_n 3, 1) := by decide +kernel
theorem dX12_sidePits_24 : decode cX12_sidePits 24 = .ok (.invokevirtual 137, 3) := by decide +kernel
theorem dX12_sidePits_27 : decode cX12_sidePits 27 = .ok (.iload_n 1, 1) := by decide +kernel
theorem dX12_sidePits_28 : decode cX12_sidePits 28 = .ok (.if_icmp .ne 7, 3) := by decide +kernel
theorem dX12_sidePits_31 : decode cX12_sidePits 31 = .ok (.iconst 1, 1) := by decide +kernel
theorem dX12_sidePits_32 : decode cX12_sidePits 32 = .ok (.goto 4, 3) := by decide +kernel
theorem dX12_sidePits_35 : decode cX12_sidePits 35 = .ok (.iconst 0, 1) := by decide +kernel
theorem dX12_sidePits_36 : decode cX12_sidePits 36 = .ok (.iadd, 1) := by decide +kernel
theorem dX12_sidePits_37 : decode cX12_sidePits 37 = .ok (.istore_n 2, 1) := by decide +kernel
theorem dX12_sidePits_38 : decode cX12_sidePits 38 = .ok (.iinc 3 1, 3) := by decide +kernel
theorem dX12_sidePits_41 : decode cX12_sidePits 41 = .ok (.goto (-37), 3) := by decide +kernel
theorem dX12_sidePits_44 : decode cX12_sidePits 44 = .ok (.iload_n 2, 1) := by decide +kernel
theorem dX12_sidePits_45 : decode cX12_sidePits 45 = .ok (.ireturn, 1) := by decide +kernel
theorem dX12_solve_0 : decode cX12_solve 0 = .ok (.iload_n 1, 1) := by decide +kernel
theorem dX12_solve_1 : decode cX12_solve 1 = .ok (.i2l, 1) := by decide +kernel
theorem dX12_solve_2 : decode cX12_solve 2 = .ok (.lconst 0, 1) := by decide +kernel
theorem dX12_solve_3 : decode cX12_solve 3 = .ok (.ldc2_w 304, 3) := by decide +kernel
theorem dX12_solve_6 : decode cX12_solve 6 = .ok (.invokestatic 164, 3) := by decide +kernel
theorem dX12_solve_9 : decode cX12_solve 9 = .ok (.ifCond .ne 10, 3) := by decide +kernel
theorem dX12_solve_12 : decode cX12_solve 12 = .ok (.aload_n 0, 1) := by decide +kernel
theorem dX12_solve_13 : decode cX12_solve 13 = .ok (.bipush 7, 2) := by decide +kernel
theorem dX12_solve_15 : decode cX12_solve 15 = .ok (.invokevirtual 265, 3) := by decide +kernel
theorem dX12_solve_18 : decode cX12_solve 18 = .ok (.ireturn, 1) := by decide +kernel
theorem dX12_solve_19 : decode cX12_solve 19 = .ok (.aload_n 0, 1) := by decide +kernel
theorem dX12_solve_20 : decode cX12_solve 20 = .ok (.iload_n 1, 1) := by decide +kernel
theorem dX12_solve_21 : decode cX12_solve 21 = .ok (.invokevirtual 193, 3) := by decide +kernel
theorem dX12_solve_24 : decode cX12_solve 24 = .ok (.ldc2_w 308, 3) := by decide +kernel
theorem dX12_solve_27 : decode cX12_solve 27 = .ok (.lcmp, 1) := by decide +kernel
theorem dX12_solve_28 : decode cX12_solve 28 = .ok (.ifCond .gt 37, 3) := by decide +kernel
theorem dX12_solve_31 : decode cX12_solve 31 = .ok (.ldc2_w 187, 3) := by decide +kernel
theorem dX12_solve_34 : decode cX12_solve 34 = .ok (.iload_n 1, 1) := by decide +kernel
theorem dX12_solve_35 : decode cX12_solve 35 = .ok (.aload_n 0, 1) := by decide +kernel
theorem dX12_solve_36 : decode cX12_solve 36 = .ok (.invokevirtual 180, 3) := by decide +kernel
theorem dX12_solve_39 : decode cX12_solve 39 = .ok (.invokestatic 183, 3) := by decide +kernel
theorem dX12_solve_42 : decode cX12_solve 42 = .ok (.lmul, 1) := by decide +kernel
theorem dX12_solve_43 : decode cX12_solve 43 = .ok (.aload_n 0, 1) := by decide +kernel
theorem dX12_solve_44 : decode cX12_solve 44 = .ok (.iconst 0, 1) := by decide +kernel
theorem dX12_solve_45 : decode cX12_solve 45 = .ok (.invokevirtual 310, 3) := by decide +kernel
theorem dX12_solve_48 : decode cX12_solve 48 = .ok (.aload_n 0, 1) := by decide +kernel
theorem dX12_solve_49 : decode cX12_solve 49 = .ok (.iconst 1, 1) := by decide +kernel
theorem dX12_solve_50 : decode cX12_solve 50 = .ok (.invokevirtual 310, 3) := by decide +kernel
theorem dX12_solve_53 : decode cX12_solve 53 = .ok (.invokestatic 219, 3) := by decide +kernel
theorem dX12_solve_56 : decode cX12_solve 56 = .ok (.i2l, 1) := by decide +kernel
theorem dX12_solve_57 : decode cX12_solve 57 = .ok (.lmul, 1) := by decide +kernel
theorem dX12_solve_58 : decode cX12_solve 58 = .ok (.ldc2_w 313, 3) := by decide +kernel
theorem dX12_solve_61 : decode cX12_solve 61 = .ok (.lcmp, 1) := by decide +kernel
theorem dX12_solve_62 : decode cX12_solve 62 = .ok (.ifCond .le 10, 3) := by decide +kernel
theorem dX12_solve_65 : decode cX12_solve 65 = .ok (.aload_n 0, 1) := by decide +kernel
theorem dX12_solve_66 : decode cX12_solve 66 = .ok (.bipush 10, 2) := by decide +kernel
theorem dX12_solve_68 : decode cX12_solve 68 = .ok (.invokevirtual 265, 3) := by decide +kernel
theorem dX12_solve_71 : decode cX12_solve 71 = .ok (.ireturn, 1) := by decide +kernel
theorem dX12_solve_72 : decode cX12_solve 72 = .ok (.aload_n 0, 1) := by decide +kernel
theorem dX12_solve_73 : decode cX12_solve 73 = .ok (.iconst 1, 1) := by decide +kernel
theorem dX12_solve_74 : decode cX12_solve 74 = .ok (.putfield 127, 3) := by decide +kernel
theorem dX12_solve_77 : decode cX12_solve 77 = .ok (.aload_n 0, 1) := by decide +kernel
theorem dX12_solve_78 : decode cX12_solve 78 = .ok (.iconst 0, 1) := by decide +kernel
theorem dX12_solve_79 : decode cX12_solve 79 = .ok (.putfield 130, 3) := by decide +kernel
theorem dX12_solve_82 : decode cX12_solve 82 = .ok (.aload_n 0, 1) := by decide +kernel
theorem dX12_solve_83 : decode cX12_solve 83 = .ok (.iload_n 1, 1) := by decide +kernel
theorem dX12_solve_84 : decode cX12_solve 84 = .ok (.putfield 315, 3) := by decide +kernel
theorem dX12_solve_87 : decode cX12_solve 87 = .ok (.aload_n 0, 1) := by decide +kernel
theorem dX12_solve_88 : decode cX12_solve 88 = .ok (.iconst 0, 1) := by decide +kernel
theorem dX12_solve_89 : decode cX12_solve 89 = .ok (.putfield 225, 3) := by decide +kernel
theorem dX12_solve_92 : decode cX12_solve 92 = .ok (.aload_n 0, 1) := by decide +kernel
theorem dX12_solve_93 : decode cX12_solve 93 = .ok (.iconst 0, 1) := by decide +kernel
theorem dX12_solve_94 : decode cX12_solve 94 = .ok (.putfield 238, 3) := by decide +kernel
theorem dX12_solve_97 : decode cX12_solve 97 = .ok (.iconst 0, 1) := by decide +kernel
theorem dX12_solve_98 : decode cX12_solve 98 = .ok (.istore_n 2, 1) := by decide +kernel
theorem dX12_solve_99 : decode cX12_solve 99 = .ok (.iload_n 2, 1) := by decide +kernel
theorem dX12_solve_100 : decode cX12_solve 100 = .ok (.ldc 32, 2) := by decide +kernel
theorem dX12_solve_102 : decode cX12_solve 102 = .ok (.if_icmp .ge 23, 3) := by decide +kernel
theorem dX12_solve_105 : decode cX12_solve 105 = .ok (.aload_n 0, 1) := by decide +kernel
theorem dX12_solve_106 : decode cX12_solve 106 = .ok (.getfield 39, 3) := by decide +kernel
theorem dX12_solve_109 : decode cX12_solve 109 = .ok (.iload_n 2, 1) := by decide +kernel
theorem dX12_solve_110 : decode cX12_solve 110 = .ok (.iconst 0, 1) := by decide +kernel
theorem dX12_solve_111 : decode cX12_solve 111 = .ok (.iastore, 1) := by decide +kernel
theorem dX12_solve_112 : decode cX12_solve 112 = .ok (.aload_n 0, 1) := by decide +kernel
theorem dX12_solve_113 : decode cX12_solve 113 = .ok (.getfield 42, 3) := by decide +kernel
theorem dX12_solve_116 : decode cX12_solve 116 = .ok (.iload_n 2, 1) := by decide +kernel
theorem dX12_solve_117 : decode cX12_solve 117 = .ok (.iconst 0, 1) := by decide +kernel
theorem dX12_solve_118 : decode cX12_solve 118 = .ok (.iastore, 1) := by decide +kernel
theorem dX12_solve_119 : decode cX12_solve 119 = .ok (.iinc 2 1, 3) := by decide +kernel
theorem dX12_solve_122 : decode cX12_solve 122 = .ok (.goto (-23), 3) := by decide +kernel
theorem dX12_solve_125 : decode cX12_solve 125 = .ok (.aload_n 0, 1) := by decide +kernel
theorem dX12_solve_126 : decode cX12_solve 126 = .ok (.aload_n 0, 1) := by decide +kernel
theorem dX12_solve_127 : decode cX12_solve 127 = .ok (.iload_n 1, 1) := by decide +kernel
theorem dX12_solve_128 : decode cX12_solve 128 = .ok (.invokevirtual 193, 3) := by decide +kernel
theorem dX12_solve_131 : decode cX12_solve 131 = .ok (.l2i, 1) := by decide +kernel
theorem dX12_solve_132 : decode cX12_solve 132 = .ok (.invokevirtual 268, 3) := by decide +kernel
theorem dX12_solve_135 : decode cX12_solve 135 = .ok (.ireturn, 1) := by decide +kernel
theorem dX12_goOn_0 : decode cX12_goOn 0 = .ok (.aload_n 0, 1) := by decide +kernel
theorem dX12_goOn_1 : decode cX12_goOn 1 = .ok (.getfield 127, 3) := by decide +kernel
theorem dX12_goOn_4 : decode cX12_goOn 4 = .ok (.ifCond .ne 10, 3) := by decide +kernel
theorem dX12_goOn_7 : decode cX12_goOn 7 = .ok (.aload_n 0, 1) := by decide +kernel
theorem dX12_goOn_8 : decode cX12_goOn 8 = .ok (.bipush 9, 2) := by decide +kernel
theorem dX12_goOn_10 : decode cX12_goOn 10 = .ok (.invokevirtual 265, 3) := by decide +kernel
theorem dX12_goOn_13 : decode cX12_goOn 13 = .ok (.ireturn, 1) := by decide +kernel
theorem dX12_goOn_14 : decode cX12_goOn 14 = .ok (.iload_n 1, 1) := by decide +kernel
theorem dX12_goOn_15 : decode cX12_goOn 15 = .ok (.i2l, 1) := by decide +kernel
theorem dX12_goOn_16 : decode cX12_goOn 16 = .ok (.lconst 1, 1) := by decide +kernel
theorem dX12_goOn_17 : decode cX12_goOn 17 = .ok (.ldc2_w 318, 3) := by decide +kernel
theorem dX12_goOn_20 : decode cX12_goOn 20 = .ok (.invokestatic 164, 3) := by decide +kernel
theorem dX12_goOn_23 : decode cX12_goOn 23 = .ok (.ifCond .ne 10, 3) := by decide +kernel
theorem dX12_goOn_26 : decode cX12_goOn 26 = .ok (.aload_n 0, 1) := by decide +kernel
theorem dX12_goOn_27 : decode cX12_goOn 27 = .ok (.bipush 7, 2) := by decide +kernel
theorem dX12_goOn_29 : decode cX12_goOn 29 = .ok (.invokevirtual 265, 3) := by decide +kernel
theorem dX12_goOn_32 : decode cX12_goOn 32 = .ok (.ireturn, 1) := by decide +kernel
theorem dX12_goOn_33 : decode cX12_goOn 33 = .ok (.iconst 0, 1) := by decide +kernel
theorem dX12_goOn_34 : decode cX12_goOn 34 = .ok (.istore_n 2, 1) := by decide +kernel
theorem dX12_goOn_35 : decode cX12_goOn 35 = .ok (.iload_n 2, 1) := by decide +kernel
theorem dX12_goOn_36 : decode cX12_goOn 36 = .ok (.iload_n 1, 1) := by decide +kernel
theorem dX12_goOn_37 : decode cX12_goOn 37 = .ok (.if_icmp .ge 24, 3) := by decide +kernel
theorem dX12_goOn_40 : decode cX12_goOn 40 = .ok (.aload_n 0, 1) := by decide +kernel
theorem dX12_goOn_41 : decode cX12_goOn 41 = .ok (.getfield 225, 3) := by decide +kernel
theorem dX12_goOn_44 : decode cX12_goOn 44 = .ok (.aload_n 0, 1) := by decide +kernel
theorem dX12_goOn_45 : decode cX12_goOn 45 = .ok (.getfield 315, 3) := by decide +kernel
theorem dX12_goOn_48 : decode cX12_goOn 48 = .ok (.if_icmp .gt 13, 3) := by decide +kernel
theorem dX12_goOn_51 : decode cX12_goOn 51 = .ok (.aload_n 0, 1) := by decide +kernel
theorem dX12_goOn_52 : decode cX12_goOn 52 = .ok (.invokevirtual 320, 3) := by decide +kernel
theorem dX12_goOn_55 : decode cX12_goOn 55 = .ok (.iinc 2 1, 3) := by decide +kernel
theorem dX12_goOn_58 : decode cX12_goOn 58 = .ok (.goto (-23), 3) := by decide +kernel
theorem dX12_goOn_61 : decode cX12_goOn 61 = .ok (.aload_n 0, 1) := by decide +kernel
theorem dX12_goOn_62 : decode cX12_goOn 62 = .ok (.aload_n 0, 1) := by decide +kernel
theorem dX12_goOn_63 : decode cX12_goOn 63 = .ok (.getfield 315, 3) := by decide +kernel
theorem dX12_goOn_66 : decode cX12_goOn 66 = .ok (.iconst 1, 1) := by decide +kernel
theorem dX12_goOn_67 : decode cX12_goOn 67 = .ok (.iadd, 1) := by decide +kernel
theorem dX12_goOn_68 : decode cX12_goOn 68 = .ok (.aload_n 0, 1) := by decide +kernel
theorem dX12_goOn_69 : decode cX12_goOn 69 = .ok (.getfield 225, 3) := by decide +kernel
theorem dX12_goOn_72 : decode cX12_goOn 72 = .ok (.isub, 1) := by decide +kernel
theorem dX12_goOn_73 : decode cX12_goOn 73 = .ok (.invokevirtual 268, 3) := by decide +kernel
theorem dX12_goOn_76 : decode cX12_goOn 76 = .ok (.ireturn, 1) := by decide +kernel
theorem dX12_placeWhy_0 : decode cX12_placeWhy 0 = .ok (.aload_n 0, 1) := by decide +kernel
theorem dX12_placeWhy_1 : decode cX12_placeWhy 1 = .ok (.getfield 127, 3) := by decide +kernel
theorem dX12_placeWhy_4 : decode cX12_placeWhy 4 = .ok (.ifCond .ne 8, 3) := by decide +kernel
theorem dX12_placeWhy_7 : decode cX12_placeWhy 7 = .ok (.bipush 9, 2) := by decide +kernel
theorem dX12_placeWhy_9 : decode cX12_placeWhy 9 = .ok (.goto 40, 3) := by decide +kernel
theorem dX12_placeWhy_12 : decode cX12_placeWhy 12 = .ok (.iload_n 1, 1) := by decide +kernel
theorem dX12_placeWhy_13 : decode cX12_placeWhy 13 = .ok (.i2l, 1) := by decide +kernel
theorem dX12_placeWhy_14 : decode cX12_placeWhy 14 = .ok (.lconst 0, 1) := by decide +kernel
theorem dX12_placeWhy_15 : decode cX12_placeWhy 15 = .ok (.aload_n 0, 1) := by decide +kernel
theorem dX12_placeWhy_16 : decode cX12_placeWhy 16 = .ok (.aload_n 0, 1) := by decide +kernel
theorem dX12_placeWhy_17 : decode cX12_placeWhy 17 = .ok (.getfield 315, 3) := by decide +kernel
theorem dX12_placeWhy_20 : decode cX12_placeWhy 20 = .ok (.invokevirtual 193, 3) := by decide +kernel
theorem dX12_placeWhy_23 : decode cX12_placeWhy 23 = .ok (.lconst 1, 1) := by decide +kernel
theorem dX12_placeWhy_24 : decode cX12_placeWhy 24 = .ok (.lsub, 1) := by decide +kernel
theorem dX12_placeWhy_25 : decode cX12_placeWhy 25 = .ok (.invokestatic 164, 3) := by decide +kernel
theorem dX12_placeWhy_28 : decode cX12_placeWhy 28 = .ok (.ifCond .ne 7, 3) := by decide +kernel
theorem dX12_placeWhy_31 : decode cX12_placeWhy 31 = .ok (.iconst 3, 1) := by decide +kernel
theorem dX12_placeWhy_32 : decode cX12_placeWhy 32 = .ok (.goto 17, 3) := by decide +kernel
theorem dX12_placeWhy_35 : decode cX12_placeWhy 35 = .ok (.iload_n 1, 1) := by decide +kernel
theorem dX12_placeWhy_36 : decode cX12_placeWhy 36 = .ok (.aload_n 0, 1) := by decide +kernel
theorem dX12_placeWhy_37 : decode cX12_placeWhy 37 = .ok (.getfield 238, 3) := by decide +kernel
theorem dX12_placeWhy_40 : decode cX12_placeWhy 40 = .ok (.if_icmp .lt 8, 3) := by decide +kernel
theorem dX12_placeWhy_43 : decode cX12_placeWhy 43 = .ok (.bipush 9, 2) := by decide +kernel
theorem dX12_placeWhy_45 : decode cX12_placeWhy 45 = .ok (.goto 4, 3) := by decide +kernel
theorem dX12_placeWhy_48 : decode cX12_placeWhy 48 = .ok (.iconst 0, 1) := by decide +kernel
theorem dX12_placeWhy_49 : decode cX12_placeWhy 49 = .ok (.ireturn, 1) := by decide +kernel
theorem dX12_value_0 : decode cX12_value 0 = .ok (.aload_n 0, 1) := by decide +kernel
theorem dX12_value_1 : decode cX12_value 1 = .ok (.iload_n 1, 1) := by decide +kernel
theorem dX12_value_2 : decode cX12_value 2 = .ok (.invokevirtual 323, 3) := by decide +kernel
theorem dX12_value_5 : decode cX12_value 5 = .ok (.istore_n 2, 1) := by decide +kernel
theorem dX12_value_6 : decode cX12_value 6 = .ok (.iload_n 2, 1) := by decide +kernel
theorem dX12_value_7 : decode cX12_value 7 = .ok (.ifCond .le 11, 3) := by decide +kernel
theorem dX12_value_10 : decode cX12_value 10 = .ok (.aload_n 0, 1) := by decide +kernel
theorem dX12_value_11 : decode cX12_value 11 = .ok (.iload_n 2, 1) := by decide +kernel
theorem dX12_value_12 : decode cX12_value 12 = .ok (.invokevirtual 265, 3) := by decide +kernel
theorem dX12_value_15 : decode cX12_value 15 = .ok (.goto 13, 3) := by decide +kernel
theorem dX12_value_18 : decode cX12_value 18 = .ok (.aload_n 0, 1) := by decide +kernel
theorem dX12_value_19 : decode cX12_value 19 = .ok (.aload_n 0, 1) := by decide +kernel
theorem dX12_value_20 : decode cX12_value 20 = .ok (.getfield 33, 3) := by decide +kernel
theorem dX12_value_23 : decode cX12_value 23 = .ok (.iload_n 1, 1) := by decide +kernel
theorem dX12_value_24 : decode cX12_value 24 = .ok (.iaload, 1) := by decide +kernel
theorem dX12_value_25 : decode cX12_value 25 = .ok (.invokevirtual 268, 3) := by decide +kernel
theorem dX12_value_28 : decode cX12_value 28 = .ok (.ireturn, 1) := by decide +kernel
theorem dX12_rank_0 : decode cX12_rank 0 = .ok (.aload_n 0, 1) := by decide +kernel
theorem dX12_rank_1 : decode cX12_rank 1 = .ok (.iload_n 1, 1) := by decide +kernel
theorem dX12_rank_2 : decode cX12_rank 2 = .ok (.invokevirtual 323, 3) := by decide +kernel
theorem dX12_rank_5 : decode cX12_rank 5 = .ok (.istore_n 2, 1) := by decide +kernel
theorem dX12_rank_6 : decode cX12_rank 6 = .ok (.iload_n 2, 1) := by decide +kernel
theorem dX12_rank_7 : decode cX12_rank 7 = .ok (.ifCond .le 11, 3) := by decide +kernel
theorem dX12_rank_10 : decode cX12_rank 10 = .ok (.aload_n 0, 1) := by decide +kernel
theorem dX12_rank_11 : decode cX12_rank 11 = .ok (.iload_n 2, 1) := by decide +kernel
theorem dX12_rank_12 : decode cX12_rank 12 = .ok (.invokevirtual 265, 3) := by decide +kernel
theorem dX12_rank_15 : decode cX12_rank 15 = .ok (.goto 13, 3) := by decide +kernel
theorem dX12_rank_18 : decode cX12_rank 18 = .ok (.aload_n 0, 1) := by decide +kernel
theorem dX12_rank_19 : decode cX12_rank 19 = .ok (.aload_n 0, 1) := by decide +kernel
theorem dX12_rank_20 : decode cX12_rank 20 = .ok (.getfield 36, 3) := by decide +kernel
theorem dX12_rank_23 : decode cX12_rank 23 = .ok (.iload_n 1, 1) := by decide +kernel
theorem dX12_rank_24 : decode cX12_rank 24 = .ok (.iaload, 1) := by decide +kernel
theorem dX12_rank_25 : decode cX12_rank 25 = .ok (.invokevirtual 268, 3) := by decide +kernel
theorem dX12_rank_28 : decode cX12_rank 28 = .ok (.ireturn, 1) := by decide +kernel
theorem dX12_best_0 : decode cX12_best 0 = .ok (.aload_n 0, 1) := by decide +kernel
theorem dX12_best_1 : decode cX12_best 1 = .ok (.iload_n 1, 1) := by decide +kernel
theorem dX12_best_2 : decode cX12_best 2 = .ok (.invokevirtual 323, 3) := by decide +kernel
theorem dX12_best_5 : decode cX12_best 5 = .ok (.istore_n 2, 1) := by decide +kernel
theorem dX12_best_6 : decode cX12_best 6 = .ok (.iload_n 2, 1) := by decide +kernel
theorem dX12_best_7 : decode cX12_best 7 = .ok (.ifCond .le 7, 3) := by decide +kernel
theorem dX12_best_10 : decode cX12_best 10 = .ok (.iconst (-1), 1) := by decide +kernel
theorem dX12_best_11 : decode cX12_best 11 = .ok (.goto 8, 3) := by decide +kernel
theorem dX12_best_14 : decode cX12_best 14 = .ok (.aload_n 0, 1) := by decide +kernel
theorem dX12_best_15 : decode cX12_best 15 = .ok (.iload_n 1, 1) := by decide +kernel
theorem dX12_best_16 : decode cX12_best 16 = .ok (.invokevirtual 257, 3) := by decide +kernel
theorem dX12_best_19 : decode cX12_best 19 = .ok (.istore_n 3, 1) := by decide +kernel
theorem dX12_best_20 : decode cX12_best 20 = .ok (.iload_n 2, 1) := by decide +kernel
theorem dX12_best_21 : decode cX12_best 21 = .ok (.ifCond .le 11, 3) := by decide +kernel
theorem dX12_best_24 : decode cX12_best 24 = .ok (.aload_n 0, 1) := by decide +kernel
theorem dX12_best_25 : decode cX12_best 25 = .ok (.iload_n 2, 1) := by decide +kernel
theorem dX12_best_26 : decode cX12_best 26 = .ok (.invokevirtual 265, 3) := by decide +kernel
theorem dX12_best_29 : decode cX12_best 29 = .ok (.goto 21, 3) := by decide +kernel
theorem dX12_best_32 : decode cX12_best 32 = .ok (.iload_n 3, 1) := by decide +kernel
theorem dX12_best_33 : decode cX12_best 33 = .ok (.iconst (-1), 1) := by decide +kernel
theorem dX12_best_34 : decode cX12_best 34 = .ok (.if_icmp .ne 11, 3) := by decide +kernel
theorem dX12_best_37 : decode cX12_best 37 = .ok (.aload_n 0, 1) := by decide +kernel
theorem dX12_best_38 : decode cX12_best 38 = .ok (.iconst 5, 1) := by decide +kernel
theorem dX12_best_39 : decode cX12_best 39 = .ok (.invokevirtual 265, 3) := by decide +kernel
theorem dX12_best_42 : decode cX12_best 42 = .ok (.goto 8, 3) := by decide +kernel
theorem dX12_best_45 : decode cX12_best 45 = .ok (.aload_n 0, 1) := by decide +kernel
theorem dX12_best_46 : decode cX12_best 46 = .ok (.iload_n 3, 1) := by decide +kernel
theorem dX12_best_47 : decode cX12_best 47 = .ok (.invokevirtual 268, 3) := by decide +kernel
theorem dX12_best_50 : decode cX12_best 50 = .ok (.ireturn, 1) := by decide +kernel
theorem dX12_reaches_0 : decode cX12_reaches 0 = .ok (.aload_n 0, 1) := by decide +kernel
theorem dX12_reaches_1 : decode cX12_reaches 1 = .ok (.iload_n 1, 1) := by decide +kernel
theorem dX12_reaches_2 : decode cX12_reaches 2 = .ok (.invokevirtual 323, 3) := by decide +kernel
theorem dX12_reaches_5 : decode cX12_reaches 5 = .ok (.istore_n 3, 1) := by decide +kernel
theorem dX12_reaches_6 : decode cX12_reaches 6 = .ok (.iload_n 3, 1) := by decide +kernel
theorem dX12_reaches_7 : decode cX12_reaches 7 = .ok (.ifCond .ne 21, 3) := by decide +kernel
theorem dX12_reaches_10 : decode cX12_reaches 10 = .ok (.iload_n 2, 1) := by decide +kernel
theorem dX12_reaches_11 : decode cX12_reaches 11 = .ok (.i2l, 1) := by decide +kernel
theorem dX12_reaches_12 : decode cX12_reaches 12 = .ok (.lconst 0, 1) := by decide +kernel
theorem dX12_reaches_13 : decode cX12_reaches 13 = .ok (.aload_n 0, 1) := by decide +kernel
theorem dX12_reaches_14 : decode cX12_reaches 14 = .ok (.invokevirtual 133, 3) := by decide +kernel
theorem dX12_reaches_17 : decode cX12_reaches 17 = .ok (.iconst 1, 1) := by decide +kernel
theorem dX12_reaches_18 : decode cX12_reaches 18 = .ok (.isub, 1) := by decide +kernel
theorem dX12_reaches_19 : decode cX12_reaches 19 = .ok (.i2l, 1) := by decide +kernel
theorem dX12_reaches_20 : decode cX12_reaches 20 = .ok (.invokestatic 164, 3) := by decide +kernel
theorem dX12_reaches_23 : decode cX12_reaches 23 = .ok (.ifCond .ne 5, 3) := by decide +kernel
theorem dX12_reaches_26 : decode cX12_reaches 26 = .ok (.iconst 3, 1) := by decide +kernel
theorem dX12_reaches_27 : decode cX12_reaches 27 = .ok (.istore_n 3, 1) := by decide +kernel
theorem dX12_reaches_28 : decode cX12_reaches 28 = .ok (.iload_n 3, 1) := by decide +kernel
theorem dX12_reaches_29 : decode cX12_reaches 29 = .ok (.ifCond .le 9, 3) := by decide +kernel
theorem dX12_reaches_32 : decode cX12_reaches 32 = .ok (.aload_n 0, 1) := by decide +kernel
theorem dX12_reaches_33 : decode cX12_reaches 33 = .ok (.iload_n 3, 1) := by decide +kernel
theorem dX12_reaches_34 : decode cX12_reaches 34 = .ok (.invokevirtual 265, 3) := by decide +kernel
theorem dX12_reaches_37 : decode cX12_reaches 37 = .ok (.ireturn, 1) := by decide +kernel
theorem dX12_reaches_38 : decode cX12_reaches 38 = .ok (.aload_n 0, 1) := by decide +kernel
theorem dX12_reaches_39 : decode cX12_reaches 39 = .ok (.iload_n 1, 1) := by decide +kernel
theorem dX12_reaches_40 : decode cX12_reaches 40 = .ok (.i2l, 1) := by decide +kernel
theorem dX12_reaches_41 : decode cX12_reaches 41 = .ok (.invokevirtual 197, 3) := by decide +kernel
theorem dX12_reaches_44 : decode cX12_reaches 44 = .ok (.istore 4, 2) := by decide +kernel
theorem dX12_reaches_46 : decode cX12_reaches 46 = .ok (.aload_n 0, 1) := by decide +kernel
theorem dX12_reaches_47 : decode cX12_reaches 47 = .ok (.aload_n 0, 1) := by decide +kernel
theorem dX12_reaches_48 : decode cX12_reaches 48 = .ok (.getfield 29, 3) := by decide +kernel
theorem dX12_reaches_51 : decode cX12_reaches 51 = .ok (.iload 4, 2) := by decide +kernel
theorem dX12_reaches_53 : decode cX12_reaches 53 = .ok (.aload_n 0, 1) := by decide +kernel
theorem dX12_reaches_54 : decode cX12_reaches 54 = .ok (.getfield 65, 3) := by decide +kernel
theorem dX12_reaches_57 : decode cX12_reaches 57 = .ok (.invokevirtual 201, 3) := by decide +kernel
theorem dX12_reaches_60 : decode cX12_reaches 60 = .ok (.pop, 1) := by decide +kernel
theorem dX12_reaches_61 : decode cX12_reaches 61 = .ok (.aload_n 0, 1) := by decide +kernel
theorem dX12_reaches_62 : decode cX12_reaches 62 = .ok (.getfield 65, 3) := by decide +kernel
theorem dX12_reaches_65 : decode cX12_reaches 65 = .ok (.iload_n 2, 1) := by decide +kernel
theorem dX12_reaches_66 : decode cX12_reaches 66 = .ok (.baload, 1) := by decide +kernel
theorem dX12_reaches_67 : decode cX12_reaches 67 = .ok (.ifCond .ne 9, 3) := by decide +kernel
theorem dX12_reaches_70 : decode cX12_reaches 70 = .ok (.aload_n 0, 1) := by decide +kernel
theorem dX12_reaches_71 : decode cX12_reaches 71 = .ok (.iconst 5, 1) := by decide +kernel
theorem dX12_reaches_72 : decode cX12_reaches 72 = .ok (.invokevirtual 265, 3) := by decide +kernel
theorem dX12_reaches_75 : decode cX12_reaches 75 = .ok (.ireturn, 1) := by decide +kernel
theorem dX12_reaches_76 : decode cX12_reaches 76 = .ok (.aload_n 0, 1) := by decide +kernel
theorem dX12_reaches_77 : decode cX12_reaches 77 = .ok (.aload_n 0, 1) := by decide +kernel
theorem dX12_reaches_78 : decode cX12_reaches 78 = .ok (.getfield 29, 3) := by decide +kernel
theorem dX12_reaches_81 : decode cX12_reaches 81 = .ok (.iload 4, 2) := by decide +kernel
theorem dX12_reaches_83 : decode cX12_reaches 83 = .ok (.iload_n 2, 1) := by decide +kernel
theorem dX12_reaches_84 : decode cX12_reaches 84 = .ok (.invokevirtual 172, 3) := by decide +kernel
theorem dX12_reaches_87 : decode cX12_reaches 87 = .ok (.aload_n 0, 1) := by decide +kernel
theorem dX12_reaches_88 : decode cX12_reaches 88 = .ok (.aload_n 0, 1) := by decide +kernel
theorem dX12_reaches_89 : decode cX12_reaches 89 = .ok (.iload 4, 2) := by decide +kernel
theorem dX12_reaches_91 : decode cX12_reaches 91 = .ok (.aload_n 0, 1) := by decide +kernel
theorem dX12_reaches_92 : decode cX12_reaches 92 = .ok (.getfield 33, 3) := by decide +kernel
theorem dX12_reaches_95 : decode cX12_reaches 95 = .ok (.invokevirtual 241, 3) := by decide +kernel
theorem dX12_reaches_98 : decode cX12_reaches 98 = .ok (.invokevirtual 268, 3) := by decide +kernel
theorem dX12_reaches_101 : decode cX12_reaches 101 = .ok (.ireturn, 1) := by decide +kernel
theorem dX12_count_0 : decode cX12_count 0 = .ok (.aload_n 0, 1) := by decide +kernel
theorem dX12_count_1 : decode cX12_count 1 = .ok (.getfield 127, 3) := by decide +kernel
theorem dX12_count_4 : decode cX12_count 4 = .ok (.ifCond .ne 10, 3) := by decide +kernel
theorem dX12_count_7 : decode cX12_count 7 = .ok (.aload_n 0, 1) := by decide +kernel
theorem dX12_count_8 : decode cX12_count 8 = .ok (.bipush 9, 2) := by decide +kernel
theorem dX12_count_10 : decode cX12_count 10 = .ok (.invokevirtual 265, 3) := by decide +kernel
theorem dX12_count_13 : decode cX12_count 13 = .ok (.ireturn, 1) := by decide +kernel
theorem dX12_count_14 : decode cX12_count 14 = .ok (.iconst 0, 1) := by decide +kernel
theorem dX12_count_15 : decode cX12_count 15 = .ok (.istore_n 2, 1) := by decide +kernel
theorem dX12_count_16 : decode cX12_count 16 = .ok (.iconst 0, 1) := by decide +kernel
theorem dX12_count_17 : decode cX12_count 17 = .ok (.istore_n 3, 1) := by decide +kernel
theorem dX12_count_18 : decode cX12_count 18 = .ok (.iload_n 3, 1) := by decide +kernel
theorem dX12_count_19 : decode cX12_count 19 = .ok (.aload_n 0, 1) := by decide +kernel
theorem dX12_count_20 : decode cX12_count 20 = .ok (.getfield 238, 3) := by decide +kernel
theorem dX12_count_23 : decode cX12_count 23 = .ok (.if_icmp .ge 27, 3) := by decide +kernel
theorem dX12_count_26 : decode cX12_count 26 = .ok (.iload_n 2, 1) := by decide +kernel
theorem dX12_count_27 : decode cX12_count 27 = .ok (.aload_n 0, 1) := by decide +kernel
theorem dX12_count_28 : decode cX12_count 28 = .ok (.getfield 33, 3) := by decide +kernel
theorem dX12_count_31 : decode cX12_count 31 = .ok (.iload_n 3, 1) := by decide +kernel
theorem dX12_count_32 : decode cX12_count 32 = .ok (.iaload, 1) := by decide +kernel
theorem dX12_count_33 : decode cX12_count 33 = .ok (.iload_n 1, 1) := by decide +kernel
theorem dX12_count_34 : decode cX12_count 34 = .ok (.if_icmp .ne 7, 3) := by decide +kernel
theorem dX12_count_37 : decode cX12_count 37 = .ok (.iconst 1, 1) := by decide +kernel
theorem dX12_count_38 : decode cX12_count 38 = .ok (.goto 4, 3) := by decide +kernel
theorem dX12_count_41 : decode cX12_count 41 = .ok (.iconst 0, 1) := by decide +kernel
theorem dX12_count_42 : decode cX12_count 42 = .ok (.iadd, 1) := by decide +kernel
theorem dX12_count_43 : decode cX12_count 43 = .ok (.istore_n 2, 1) := by decide +kernel
theorem dX12_count_44 : decode cX12_count 44 = .ok (.iinc 3 1, 3) := by decide +kernel
theorem dX12_count_47 : decode cX12_count 47 = .ok (.goto (-29), 3) := by decide +kernel
theorem dX12_count_50 : decode cX12_count 50 = .ok (.aload_n 0, 1) := by decide +kernel
theorem dX12_count_51 : decode cX12_count 51 = .ok (.iload_n 2, 1) := by decide +kernel
theorem dX12_count_52 : decode cX12_count 52 = .ok (.invokevirtual 268, 3) := by decide +kernel
theorem dX12_count_55 : decode cX12_count 55 = .ok (.ireturn, 1) := by decide +kernel
theorem dX12_find_0 : decode cX12_find 0 = .ok (.aload_n 0, 1) := by decide +kernel
theorem dX12_find_1 : decode cX12_find 1 = .ok (.getfield 127, 3) := by decide +kernel
theorem dX12_find_4 : decode cX12_find 4 = .ok (.ifCond .ne 10, 3) := by decide +kernel
theorem dX12_find_7 : decode cX12_find 7 = .ok (.aload_n 0, 1) := by decide +kernel
theorem dX12_find_8 : decode cX12_find 8 = .ok (.bipush 9, 2) := by decide +kernel
theorem dX12_find_10 : decode cX12_find 10 = .ok (.invokevirtual 265, 3) := by decide +kernel
theorem dX12_find_13 : decode cX12_find 13 = .ok (.ireturn, 1) := by decide +kernel
theorem dX12_find_14 : decode cX12_find 14 = .ok (.iload_n 1, 1) := by decide +kernel
theorem dX12_find_15 : decode cX12_find 15 = .ok (.ifCond .ge 9, 3) := by decide +kernel
theorem dX12_find_18 : decode cX12_find 18 = .ok (.aload_n 0, 1) := by decide +kernel
theorem dX12_find_19 : decode cX12_find 19 = .ok (.iconst 3, 1) := by decide +kernel
theorem dX12_find_20 : decode cX12_find 20 = .ok (.invokevirtual 265, 3) := by decide +kernel
theorem dX12_find_23 : decode cX12_find 23 = .ok (.ireturn, 1) := by decide +kernel
theorem dX12_find_24 : decode cX12_find 24 = .ok (.iload_n 1, 1) := by decide +kernel
theorem dX12_find_25 : decode cX12_find 25 = .ok (.istore_n 3, 1) := by decide +kernel
theorem dX12_find_26 : decode cX12_find 26 = .ok (.iload_n 3, 1) := by decide +kernel
theorem dX12_find_27 : decode cX12_find 27 = .ok (.aload_n 0, 1) := by decide +kernel
theorem dX12_find_28 : decode cX12_find 28 = .ok (.getfield 238, 3) := by decide +kernel
theorem dX12_find_31 : decode cX12_find 31 = .ok (.if_icmp .ge 25, 3) := by decide +kernel
theorem dX12_find_34 : decode cX12_find 34 = .ok (.aload_n 0, 1) := by decide +kernel
theorem dX12_find_35 : decode cX12_find 35 = .ok (.getfield 33, 3) := by decide +kernel
theorem dX12_find_38 : decode cX12_find 38 = .ok (.iload_n 3, 1) := by decide +kernel
theorem dX12_find_39 : decode cX12_find 39 = .ok (.iaload, 1) := by decide +kernel
theorem dX12_find_40 : decode cX12_find 40 = .ok (.iload_n 2, 1) := by decide +kernel
theorem dX12_find_41 : decode cX12_find 41 = .ok (.if_icmp .ne 9, 3) := by decide +kernel
theorem dX12_find_44 : decode cX12_find 44 = .ok (.aload_n 0, 1) := by decide +kernel
theorem dX12_find_45 : decode cX12_find 45 = .ok (.iload_n 3, 1) := by decide +kernel
theorem dX12_find_46 : decode cX12_find 46 = .ok (.invokevirtual 268, 3) := by decide +kernel
theorem dX12_find_49 : decode cX12_find 49 = .ok (.ireturn, 1) := by decide +kernel
theorem dX12_find_50 : decode cX12_find 50 = .ok (.iinc 3 1, 3) := by decide +kernel
theorem dX12_find_53 : decode cX12_find 53 = .ok (.goto (-27), 3) := by decide +kernel
theorem dX12_find_56 : decode cX12_find 56 = .ok (.aload_n 0, 1) := by decide +kernel
theorem dX12_find_57 : decode cX12_find 57 = .ok (.iconst 3, 1) := by decide +kernel
theorem dX12_find_58 : decode cX12_find 58 = .ok (.invokevirtual 265, 3) := by decide +kernel
theorem dX12_find_61 : decode cX12_find 61 = .ok (.ireturn, 1) := by decide +kernel
theorem dX12_claim_0 : decode cX12_claim 0 = .ok (.aload_n 0, 1) := by decide +kernel
theorem dX12_claim_1 : decode cX12_claim 1 = .ok (.getfield 127, 3) := by decide +kernel
theorem dX12_claim_4 : decode cX12_claim 4 = .ok (.ifCond .ne 10, 3) := by decide +kernel
theorem dX12_claim_7 : decode cX12_claim 7 = .ok (.aload_n 0, 1) := by decide +kernel
theorem dX12_claim_8 : decode cX12_claim 8 = .ok (.bipush 9, 2) := by decide +kernel
theorem dX12_claim_10 : decode cX12_claim 10 = .ok (.invokevirtual 265, 3) := by decide +kernel
theorem dX12_claim_13 : decode cX12_claim 13 = .ok (.ireturn, 1) := by decide +kernel
theorem dX12_claim_14 : decode cX12_claim 14 = .ok (.iload_n 1, 1) := by decide +kernel
theorem dX12_claim_15 : decode cX12_claim 15 = .ok (.i2l, 1) := by decide +kernel
theorem dX12_claim_16 : decode cX12_claim 16 = .ok (.lconst 0, 1) := by decide +kernel
theorem dX12_claim_17 : decode cX12_claim 17 = .ok (.aload_n 0, 1) := by decide +kernel
theorem dX12_claim_18 : decode cX12_claim 18 = .ok (.aload_n 0, 1) := by decide +kernel
theorem dX12_claim_19 : decode cX12_claim 19 = .ok (.getfield 315, 3) := by decide +kernel
theorem dX12_claim_22 : decode cX12_claim 22 = .ok (.invokevirtual 193, 3) := by decide +kernel
theorem dX12_claim_25 : decode cX12_claim 25 = .ok (.lconst 1, 1) := by decide +kernel
theorem dX12_claim_26 : decode cX12_claim 26 = .ok (.lsub, 1) := by decide +kernel
theorem dX12_claim_27 : decode cX12_claim 27 = .ok (.invokestatic 164, 3) := by decide +kernel
theorem dX12_claim_30 : decode cX12_claim 30 = .ok (.ifCond .ne 9, 3) := by decide +kernel
theorem dX12_claim_33 : decode cX12_claim 33 = .ok (.aload_n 0, 1) := by decide +kernel
theorem dX12_claim_34 : decode cX12_claim 34 = .ok (.iconst 3, 1) := by decide +kernel
theorem dX12_claim_35 : decode cX12_claim 35 = .ok (.invokevirtual 265, 3) := by decide +kernel
theorem dX12_claim_38 : decode cX12_claim 38 = .ok (.ireturn, 1) := by decide +kernel
theorem dX12_claim_39 : decode cX12_claim 39 = .ok (.iload_n 2, 1) := by decide +kernel
theorem dX12_claim_40 : decode cX12_claim 40 = .ok (.i2l, 1) := by decide +kernel
theorem dX12_claim_41 : decode cX12_claim 41 = .ok (.ldc2_w 326, 3) := by decide +kernel
theorem dX12_claim_44 : decode cX12_claim 44 = .ok (.ldc2_w 277, 3) := by decide +kernel
theorem dX12_claim_47 : decode cX12_claim 47 = .ok (.invokestatic 164, 3) := by decide +kernel
theorem dX12_claim_50 : decode cX12_claim 50 = .ok (.ifCond .eq 15, 3) := by decide +kernel
theorem dX12_claim_53 : decode cX12_claim 53 = .ok (.iload_n 3, 1) := by decide +kernel
theorem dX12_claim_54 : decode cX12_claim 54 = .ok (.i2l, 1) := by decide +kernel
theorem dX12_claim_55 : decode cX12_claim 55 = .ok (.lconst 0, 1) := by decide +kernel
theorem dX12_claim_56 : decode cX12_claim 56 = .ok (.ldc2_w 328, 3) := by decide +kernel
theorem dX12_claim_59 : decode cX12_claim 59 = .ok (.invokestatic 164, 3) := by decide +kernel
theorem dX12_claim_62 : decode cX12_claim 62 = .ok (.ifCond .ne 10, 3) := by decide +kernel
theorem dX12_claim_65 : decode cX12_claim 65 = .ok (.aload_n 0, 1) := by decide +kernel
theorem dX12_claim_66 : decode cX12_claim 66 = .ok (.bipush 7, 2) := by decide +kernel
theorem dX12_claim_68 : decode cX12_claim 68 = .ok (.invokevirtual 265, 3) := by decide +kernel
theorem dX12_claim_71 : decode cX12_claim 71 = .ok (.ireturn, 1) := by decide +kernel
theorem dX12_claim_72 : decode cX12_claim 72 = .ok (.aload_n 0, 1) := by decide +kernel
theorem dX12_claim_73 : decode cX12_claim 73 = .ok (.getfield 39, 3) := by decide +kernel
theorem dX12_claim_76 : decode cX12_claim 76 = .ok (.iload_n 1, 1) := by decide +kernel
theorem dX12_claim_77 : decode cX12_claim 77 = .ok (.iload_n 2, 1) := by decide +kernel
theorem dX12_claim_78 : decode cX12_claim 78 = .ok (.iastore, 1) := by decide +kernel
theorem dX12_claim_79 : decode cX12_claim 79 = .ok (.aload_n 0, 1) := by decide +kernel
theorem dX12_claim_80 : decode cX12_claim 80 = .ok (.getfield 42, 3) := by decide +kernel
theorem dX12_claim_83 : decode cX12_claim 83 = .ok (.iload_n 1, 1) := by decide +kernel
theorem dX12_claim_84 : decode cX12_claim 84 = .ok (.iload_n 3, 1) := by decide +kernel
theorem dX12_claim_85 : decode cX12_claim 85 = .ok (.iastore, 1) := by decide +kernel
theorem dX12_claim_86 : decode cX12_claim 86 = .ok (.aload_n 0, 1) := by decide +kernel
theorem dX12_claim_87 : decode cX12_claim 87 = .ok (.iload_n 1, 1) := by decide +kernel
theorem dX12_claim_88 : decode cX12_claim 88 = .ok (.invokevirtual 268, 3) := by decide +kernel
theorem dX12_claim_91 : decode cX12_claim 91 = .ok (.ireturn, 1) := by decide +kernel
theorem dX12_copy_0 : decode cX12_copy 0 = .ok (.aload_n 0, 1) := by decide +kernel
theorem dX12_copy_1 : decode cX12_copy 1 = .ok (.getfield 127, 3) := by decide +kernel
theorem dX12_copy_4 : decode cX12_copy 4 = .ok (.ifCond .ne 10, 3) := by decide +kernel
theorem dX12_copy_7 : decode cX12_copy 7 = .ok (.aload_n 0, 1) := by decide +kernel
theorem dX12_copy_8 : decode cX12_copy 8 = .ok (.bipush 9, 2) := by decide +kernel
theorem dX12_copy_10 : decode cX12_copy 10 = .ok (.invokevirtual 265, 3) := by decide +kernel
theorem dX12_copy_13 : decode cX12_copy 13 = .ok (.ireturn, 1) := by decide +kernel
theorem dX12_copy_14 : decode cX12_copy 14 = .ok (.iconst 0, 1) := by decide +kernel
theorem dX12_copy_15 : decode cX12_copy 15 = .ok (.istore_n 1, 1) := by decide +kernel
theorem dX12_copy_16 : decode cX12_copy 16 = .ok (.iload_n 1, 1) := by decide +kernel
theorem dX12_copy_17 : decode cX12_copy 17 = .ok (.aload_n 0, 1) := by decide +kernel
theorem dX12_copy_18 : decode cX12_copy 18 = .ok (.getfield 238, 3) := by decide +kernel
theorem dX12_copy_21 : decode cX12_copy 21 = .ok (.if_icmp .ge 33, 3) := by decide +kernel
theorem dX12_copy_24 : decode cX12_copy 24 = .ok (.aload_n 0, 1) := by decide +kernel
theorem dX12_copy_25 : decode cX12_copy 25 = .ok (.getfield 39, 3) := by decide +kernel
theorem dX12_copy_28 : decode cX12_copy 28 = .ok (.iload_n 1, 1) := by decide +kernel
theorem dX12_copy_29 : decode cX12_copy 29 = .ok (.aload_n 0, 1) := by decide +kernel
theorem dX12_copy_30 : decode cX12_copy 30 = .ok (.getfield 33, 3) := by decide +kernel
theorem dX12_copy_33 : decode cX12_copy 33 = .ok (.iload_n 1, 1) := by decide +kernel
theorem dX12_copy_34 : decode cX12_copy 34 = .ok (.iaload, 1) := by decide +kernel
theorem dX12_copy_35 : decode cX12_copy 35 = .ok (.iastore, 1) := by decide +kernel
theorem dX12_copy_36 : decode cX12_copy 36 = .ok (.aload_n 0, 1) := by decide +kernel
theorem dX12_copy_37 : decode cX12_copy 37 = .ok (.getfield 42, 3) := by decide +kernel
theorem dX12_copy_40 : decode cX12_copy 40 = .ok (.iload_n 1, 1) := by decide +kernel
theorem dX12_copy_41 : decode cX12_copy 41 = .ok (.aload_n 0, 1) := by decide +kernel
theorem dX12_copy_42 : decode cX12_copy 42 = .ok (.getfield 36, 3) := by decide +kernel
theorem dX12_copy_45 : decode cX12_copy 45 = .ok (.iload_n 1, 1) := by decide +kernel
theorem dX12_copy_46 : decode cX12_copy 46 = .ok (.iaload, 1) := by decide +kernel
theorem dX12_copy_47 : decode cX12_copy 47 = .ok (.iastore, 1) := by decide +kernel
theorem dX12_copy_48 : decode cX12_copy 48 = .ok (.iinc 1 1, 3) := by decide +kernel
theorem dX12_copy_51 : decode cX12_copy 51 = .ok (.goto (-35), 3) := by decide +kernel
theorem dX12_copy_54 : decode cX12_copy 54 = .ok (.aload_n 0, 1) := by decide +kernel
theorem dX12_copy_55 : decode cX12_copy 55 = .ok (.aload_n 0, 1) := by decide +kernel
theorem dX12_copy_56 : decode cX12_copy 56 = .ok (.getfield 238, 3) := by decide +kernel
theorem dX12_copy_59 : decode cX12_copy 59 = .ok (.invokevirtual 268, 3) := by decide +kernel
theorem dX12_copy_62 : decode cX12_copy 62 = .ok (.ireturn, 1) := by decide +kernel
theorem dX12_check_0 : decode cX12_check 0 = .ok (.aload_n 0, 1) := by decide +kernel
theorem dX12_check_1 : decode cX12_check 1 = .ok (.getfield 127, 3) := by decide +kernel
theorem dX12_check_4 : decode cX12_check 4 = .ok (.ifCond .ne 10, 3) := by decide +kernel
theorem dX12_check_7 : decode cX12_check 7 = .ok (.aload_n 0, 1) := by decide +kernel
theorem dX12_check_8 : decode cX12_check 8 = .ok (.bipush 9, 2) := by decide +kernel
theorem dX12_check_10 : decode cX12_check 10 = .ok (.invokevirtual 265, 3) := by decide +kernel
theorem dX12_check_13 : decode cX12_check 13 = .ok (.ireturn, 1) := by decide +kernel
theorem dX12_check_14 : decode cX12_check 14 = .ok (.aload_n 0, 1) := by decide +kernel
theorem dX12_check_15 : decode cX12_check 15 = .ok (.aload_n 0, 1) := by decide +kernel
theorem dX12_check_16 : decode cX12_check 16 = .ok (.getfield 315, 3) := by decide +kernel
theorem dX12_check_19 : decode cX12_check 19 = .ok (.invokevirtual 193, 3) := by decide +kernel
theorem dX12_check_22 : decode cX12_check 22 = .ok (.l2i, 1) := by decide +kernel
theorem dX12_check_23 : decode cX12_check 23 = .ok (.istore_n 1, 1) := by decide +kernel
theorem dX12_check_24 : decode cX12_check 24 = .ok (.iconst 0, 1) := by decide +kernel
theorem dX12_check_25 : decode cX12_check 25 = .ok (.istore_n 2, 1) := by decide +kernel
theorem dX12_check_26 : decode cX12_check 26 = .ok (.iload_n 2, 1) := by decide +kernel
theorem dX12_check_27 : decode cX12_check 27 = .ok (.iload_n 1, 1) := by decide +kernel
theorem dX12_check_28 : decode cX12_check 28 = .ok (.if_icmp .ge 17, 3) := by decide +kernel
theorem dX12_check_31 : decode cX12_check 31 = .ok (.aload_n 0, 1) := by decide +kernel
theorem dX12_check_32 : decode cX12_check 32 = .ok (.iload_n 2, 1) := by decide +kernel
theorem dX12_check_33 : decode cX12_check 33 = .ok (.invokevirtual 330, 3) := by decide +kernel
theorem dX12_check_36 : decode cX12_check 36 = .ok (.ifCond .eq 9, 3) := by decide +kernel
theorem dX12_check_39 : decode cX12_check 39 = .ok (.iinc 2 1, 3) := by decide +kernel
theorem dX12_check_42 : decode cX12_check 42 = .ok (.goto (-16), 3) := by decide +kernel
theorem dX12_check_45 : decode cX12_check 45 = .ok (.aload_n 0, 1) := by decide +kernel
theorem dX12_check_46 : decode cX12_check 46 = .ok (.iload_n 2, 1) := by decide +kernel
theorem dX12_check_47 : decode cX12_check 47 = .ok (.invokevirtual 268, 3) := by decide +kernel
theorem dX12_check_50 : decode cX12_check 50 = .ok (.ireturn, 1) := by decide +kernel
theorem dX12_line_0 : decode cX12_line 0 = .ok (.aload_n 0, 1) := by decide +kernel
theorem dX12_line_1 : decode cX12_line 1 = .ok (.iload_n 1, 1) := by decide +kernel
theorem dX12_line_2 : decode cX12_line 2 = .ok (.invokevirtual 323, 3) := by decide +kernel
theorem dX12_line_5 : decode cX12_line 5 = .ok (.istore_n 2, 1) := by decide +kernel
theorem dX12_line_6 : decode cX12_line 6 = .ok (.iload_n 2, 1) := by decide +kernel
theorem dX12_line_7 : decode cX12_line 7 = .ok (.ifCond .le 11, 3) := by decide +kernel
theorem dX12_line_10 : decode cX12_line 10 = .ok (.aload_n 0, 1) := by decide +kernel
theorem dX12_line_11 : decode cX12_line 11 = .ok (.iload_n 2, 1) := by decide +kernel
theorem dX12_line_12 : decode cX12_line 12 = .ok (.invokevirtual 265, 3) := by decide +kernel
theorem dX12_line_15 : decode cX12_line 15 = .ok (.goto 12, 3) := by decide +kernel
theorem dX12_line_18 : decode cX12_line 18 = .ok (.aload_n 0, 1) := by decide +kernel
theorem dX12_line_19 : decode cX12_line 19 = .ok (.aload_n 0, 1) := by decide +kernel
theorem dX12_line_20 : decode cX12_line 20 = .ok (.iload_n 1, 1) := by decide +kernel
theorem dX12_line_21 : decode cX12_line 21 = .ok (.invokevirtual 333, 3) := by decide +kernel
theorem dX12_line_24 : decode cX12_line 24 = .ok (.invokevirtual 268, 3) := by decide +kernel
theorem dX12_line_27 : decode cX12_line 27 = .ok (.ireturn, 1) := by decide +kernel
theorem dX12_lineAt_0 : decode cX12_lineAt 0 = .ok (.aload_n 0, 1) := by decide +kernel
theorem dX12_lineAt_1 : decode cX12_lineAt 1 = .ok (.getfield 130, 3) := by decide +kernel
theorem dX12_lineAt_4 : decode cX12_lineAt 4 = .ok (.ifCond .ne 12, 3) := by decide +kernel
theorem dX12_lineAt_7 : decode cX12_lineAt 7 = .ok (.aload_n 0, 1) := by decide +kernel
theorem dX12_lineAt_8 : decode cX12_lineAt 8 = .ok (.bipush 9, 2) := by decide +kernel
theorem dX12_lineAt_10 : decode cX12_lineAt 10 = .ok (.invokevirtual 265, 3) := by decide +kernel
theorem dX12_lineAt_13 : decode cX12_lineAt 13 = .ok (.goto 37, 3) := by decide +kernel
theorem dX12_lineAt_16 : decode cX12_lineAt 16 = .ok (.iload_n 1, 1) := by decide +kernel
theorem dX12_lineAt_17 : decode cX12_lineAt 17 = .ok (.i2l, 1) := by decide +kernel
theorem dX12_lineAt_18 : decode cX12_lineAt 18 = .ok (.lconst 0, 1) := by decide +kernel
theorem dX12_lineAt_19 : decode cX12_lineAt 19 = .ok (.aload_n 0, 1) := by decide +kernel
theorem dX12_lineAt_20 : decode cX12_lineAt 20 = .ok (.getfield 251, 3) := by decide +kernel
theorem dX12_lineAt_23 : decode cX12_lineAt 23 = .ok (.iconst 1, 1) := by decide +kernel
theorem dX12_lineAt_24 : decode cX12_lineAt 24 = .ok (.isub, 1) := by decide +kernel
theorem dX12_lineAt_25 : decode cX12_lineAt 25 = .ok (.i2l, 1) := by decide +kernel
theorem dX12_lineAt_26 : decode cX12_lineAt 26 = .ok (.invokestatic 164, 3) := by decide +kernel
theorem dX12_lineAt_29 : decode cX12_lineAt 29 = .ok (.ifCond .ne 11, 3) := by decide +kernel
theorem dX12_lineAt_32 : decode cX12_lineAt 32 = .ok (.aload_n 0, 1) := by decide +kernel
theorem dX12_lineAt_33 : decode cX12_lineAt 33 = .ok (.iconst 3, 1) := by decide +kernel
theorem dX12_lineAt_34 : decode cX12_lineAt 34 = .ok (.invokevirtual 265, 3) := by decide +kernel
theorem dX12_lineAt_37 : decode cX12_lineAt 37 = .ok (.goto 13, 3) := by decide +kernel
theorem dX12_lineAt_40 : decode cX12_lineAt 40 = .ok (.aload_n 0, 1) := by decide +kernel
theorem dX12_lineAt_41 : decode cX12_lineAt 41 = .ok (.aload_n 0, 1) := by decide +kernel
theorem dX12_lineAt_42 : decode cX12_lineAt 42 = .ok (.getfield 72, 3) := by decide +kernel
theorem dX12_lineAt_45 : decode cX12_lineAt 45 = .ok (.iload_n 1, 1) := by decide +kernel
theorem dX12_lineAt_46 : decode cX12_lineAt 46 = .ok (.iaload, 1) := by decide +kernel
theorem dX12_lineAt_47 : decode cX12_lineAt 47 = .ok (.invokevirtual 268, 3) := by decide +kernel
theorem dX12_lineAt_50 : decode cX12_lineAt 50 = .ok (.ireturn, 1) := by decide +kernel
theorem dX12_ring_0 : decode cX12_ring 0 = .ok (.aload_n 0, 1) := by decide +kernel
theorem dX12_ring_1 : decode cX12_ring 1 = .ok (.getfield 130, 3) := by decide +kernel
theorem dX12_ring_4 : decode cX12_ring 4 = .ok (.ifCond .ne 12, 3) := by decide +kernel
theorem dX12_ring_7 : decode cX12_ring 7 = .ok (.aload_n 0, 1) := by decide +kernel
theorem dX12_ring_8 : decode cX12_ring 8 = .ok (.bipush 9, 2) := by decide +kernel
theorem dX12_ring_10 : decode cX12_ring 10 = .ok (.invokevirtual 265, 3) := by decide +kernel
theorem dX12_ring_13 : decode cX12_ring 13 = .ok (.goto 11, 3) := by decide +kernel
theorem dX12_ring_16 : decode cX12_ring 16 = .ok (.aload_n 0, 1) := by decide +kernel
theorem dX12_ring_17 : decode cX12_ring 17 = .ok (.aload_n 0, 1) := by decide +kernel
theorem dX12_ring_18 : decode cX12_ring 18 = .ok (.getfield 254, 3) := by decide +kernel
theorem dX12_ring_21 : decode cX12_ring 21 = .ok (.invokevirtual 268, 3) := by decide +kernel
theorem dX12_ring_24 : decode cX12_ring 24 = .ok (.ireturn, 1) := by decide +kernel
theorem dX12_player_0 : decode cX12_player 0 = .ok (.iload_n 1, 1) := by decide +kernel
theorem dX12_player_1 : decode cX12_player 1 = .ok (.i2l, 1) := by decide +kernel
theorem dX12_player_2 : decode cX12_player 2 = .ok (.lconst 0, 1) := by decide +kernel
theorem dX12_player_3 : decode cX12_player 3 = .ok (.lconst 1, 1) := by decide +kernel
theorem dX12_player_4 : decode cX12_player 4 = .ok (.invokestatic 164, 3) := by decide +kernel
theorem dX12_player_7 : decode cX12_player 7 = .ok (.ifCond .ne 9, 3) := by decide +kernel
theorem dX12_player_10 : decode cX12_player 10 = .ok (.aload_n 0, 1) := by decide +kernel
theorem dX12_player_11 : decode cX12_player 11 = .ok (.iconst 3, 1) := by decide +kernel
theorem dX12_player_12 : decode cX12_player 12 = .ok (.invokevirtual 265, 3) := by decide +kernel
theorem dX12_player_15 : decode cX12_player 15 = .ok (.ireturn, 1) := by decide +kernel
theorem dX12_player_16 : decode cX12_player 16 = .ok (.iload_n 2, 1) := by decide +kernel
theorem dX12_player_17 : decode cX12_player 17 = .ok (.i2l, 1) := by decide +kernel
theorem dX12_player_18 : decode cX12_player 18 = .ok (.lconst 0, 1) := by decide +kernel
theorem dX12_player_19 : decode cX12_player 19 = .ok (.ldc2_w 281, 3) := by decide +kernel
theorem dX12_player_22 : decode cX12_player 22 = .ok (.invokestatic 164, 3) := by decide +kernel
theorem dX12_player_25 : decode cX12_player 25 = .ok (.ifCond .ne 10, 3) := by decide +kernel
theorem dX12_player_28 : decode cX12_player 28 = .ok (.aload_n 0, 1) := by decide +kernel
theorem dX12_player_29 : decode cX12_player 29 = .ok (.bipush 7, 2) := by decide +kernel
theorem dX12_player_31 : decode cX12_player 31 = .ok (.invokevirtual 265, 3) := by decide +kernel
theorem dX12_player_34 : decode cX12_player 34 = .ok (.ireturn, 1) := by decide +kernel
theorem dX12_player_35 : decode cX12_player 35 = .ok (.aload_n 0, 1) := by decide +kernel
theorem dX12_player_36 : decode cX12_player 36 = .ok (.getfield 78, 3) := by decide +kernel
theorem dX12_player_39 : decode cX12_player 39 = .ok (.iload_n 1, 1) := by decide +kernel
theorem dX12_player_40 : decode cX12_player 40 = .ok (.iload_n 2, 1) := by decide +kernel
theorem dX12_player_41 : decode cX12_player 41 = .ok (.iastore, 1) := by decide +kernel
theorem dX12_player_42 : decode cX12_player 42 = .ok (.aload_n 0, 1) := by decide +kernel
theorem dX12_player_43 : decode cX12_player 43 = .ok (.getfield 81, 3) := by decide +kernel
theorem dX12_player_46 : decode cX12_player 46 = .ok (.iload_n 1, 1) := by decide +kernel
theorem dX12_player_47 : decode cX12_player 47 = .ok (.lload_n 3, 1) := by decide +kernel
theorem dX12_player_48 : decode cX12_player 48 = .ok (.lconst 0, 1) := by decide +kernel
theorem dX12_player_49 : decode cX12_player 49 = .ok (.lcmp, 1) := by decide +kernel
theorem dX12_player_50 : decode cX12_player 50 = .ok (.ifCond .ne 7, 3) := by decide +kernel
theorem dX12_player_53 : decode cX12_player 53 = .ok (.lconst 1, 1) := by decide +kernel
theorem dX12_player_54 : decode cX12_player 54 = .ok (.goto 4, 3) := by decide +kernel
theorem dX12_player_57 : decode cX12_player 57 = .ok (.lload_n 3, 1) := by decide +kernel
theorem dX12_player_58 : decode cX12_player 58 = .ok (.lastore, 1) := by decide +kernel
theorem dX12_player_59 : decode cX12_player 59 = .ok (.aload_n 0, 1) := by decide +kernel
theorem dX12_player_60 : decode cX12_player 60 = .ok (.iload_n 2, 1) := by decide +kernel
theorem dX12_player_61 : decode cX12_player 61 = .ok (.invokevirtual 268, 3) := by decide +kernel
theorem dX12_player_64 : decode cX12_player 64 = .ok (.ireturn, 1) := by decide +kernel
theorem dX12_play_0 : decode cX12_play 0 = .ok (.iload_n 1, 1) := by decide +kernel
theorem dX12_play_1 : decode cX12_play 1 = .ok (.i2l, 1) := by decide +kernel
theorem dX12_play_2 : decode cX12_play 2 = .ok (.lconst 0, 1) := by decide +kernel
theorem dX12_play_3 : decode cX12_play 3 = .ok (.ldc2_w 279, 3) := by decide +kernel
theorem dX12_play_6 : decode cX12_play 6 = .ok (.invokestatic 164, 3) := by decide +kernel
theorem dX12_play_9 : decode cX12_play 9 = .ok (.ifCond .ne 10, 3) := by decide +kernel
theorem dX12_play_12 : decode cX12_play 12 = .ok (.aload_n 0, 1) := by decide +kernel
theorem dX12_play_13 : decode cX12_play 13 = .ok (.bipush 7, 2) := by decide +kernel
theorem dX12_play_15 : decode cX12_play 15 = .ok (.invokevirtual 265, 3) := by decide +kernel
theorem dX12_play_18 : decode cX12_play 18 = .ok (.ireturn, 1) := by decide +kernel
theorem dX12_play_19 : decode cX12_play 19 = .ok (.iconst 0, 1) := by decide +kernel
theorem dX12_play_20 : decode cX12_play 20 = .ok (.istore_n 2, 1) := by decide +kernel
theorem dX12_play_21 : decode cX12_play 21 = .ok (.iload_n 2, 1) := by decide +kernel
theorem dX12_play_22 : decode cX12_play 22 = .ok (.iload_n 1, 1) := by decide +kernel
theorem dX12_play_23 : decode cX12_play 23 = .ok (.if_icmp .ge 38, 3) := by decide +kernel
theorem dX12_play_26 : decode cX12_play 26 = .ok (.aload_n 0, 1) := by decide +kernel
theorem dX12_play_27 : decode cX12_play 27 = .ok (.getfield 121, 3) := by decide +kernel
theorem dX12_play_30 : decode cX12_play 30 = .ok (.sipush 1000, 3) := by decide +kernel
theorem dX12_play_33 : decode cX12_play 33 = .ok (.if_icmp .ge 28, 3) := by decide +kernel
theorem dX12_play_36 : decode cX12_play 36 = .ok (.aload_n 0, 1) := by decide +kernel
theorem dX12_play_37 : decode cX12_play 37 = .ok (.invokevirtual 295, 3) := by decide +kernel
theorem dX12_play_40 : decode cX12_play 40 = .ok (.ifCond .ne 21, 3) := by decide +kernel
theorem dX12_play_43 : decode cX12_play 43 = .ok (.aload_n 0, 1) := by decide +kernel
theorem dX12_play_44 : decode cX12_play 44 = .ok (.aload_n 0, 1) := by decide +kernel
theorem dX12_play_45 : decode cX12_play 45 = .ok (.aload_n 0, 1) := by decide +kernel
theorem dX12_play_46 : decode cX12_play 46 = .ok (.invokevirtual 336, 3) := by decide +kernel
theorem dX12_play_49 : decode cX12_play 49 = .ok (.invokevirtual 289, 3) := by decide +kernel
theorem dX12_play_52 : decode cX12_play 52 = .ok (.putfield 148, 3) := by decide +kernel
theorem dX12_play_55 : decode cX12_play 55 = .ok (.iinc 2 1, 3) := by decide +kernel
theorem dX12_play_58 : decode cX12_play 58 = .ok (.goto (-37), 3) := by decide +kernel
theorem dX12_play_61 : decode cX12_play 61 = .ok (.aload_n 0, 1) := by decide +kernel
theorem dX12_play_62 : decode cX12_play 62 = .ok (.iload_n 2, 1) := by decide +kernel
theorem dX12_play_63 : decode cX12_play 63 = .ok (.invokevirtual 268, 3) := by decide +kernel
theorem dX12_play_66 : decode cX12_play 66 = .ok (.ireturn, 1) := by decide +kernel
theorem dX12_status_0 : decode cX12_status 0 = .ok (.aload_n 0, 1) := by decide +kernel
theorem dX12_status_1 : decode cX12_status 1 = .ok (.getfield 260, 3) := by decide +kernel
theorem dX12_status_4 : decode cX12_status 4 = .ok (.ireturn, 1) := by decide +kernel
theorem dX12_digest_0 : decode cX12_digest 0 = .ok (.ldc2_w 339, 3) := by decide +kernel
theorem dX12_digest_3 : decode cX12_digest 3 = .ok (.lstore_n 1, 1) := by decide +kernel
theorem dX12_digest_4 : decode cX12_digest 4 = .ok (.iconst 0, 1) := by decide +kernel
theorem dX12_digest_5 : decode cX12_digest 5 = .ok (.istore_n 3, 1) := by decide +kernel
theorem dX12_digest_6 : decode cX12_digest 6 = .ok (.iload_n 3, 1) := by decide +kernel
theorem dX12_digest_7 : decode cX12_digest 7 = .ok (.aload_n 0, 1) := by decide +kernel
theorem dX12_digest_8 : decode cX12_digest 8 = .ok (.invokevirtual 133, 3) := by decide +kernel
theorem dX12_digest_11 : decode cX12_digest 11 = .ok (.if_icmp .ge 36, 3) := by decide +kernel
theorem dX12_digest_14 : decode cX12_digest 14 = .ok (.lload_n 1, 1) := by decide +kernel
theorem dX12_digest_15 : decode cX12_digest 15 = .ok (.ldc2_w 341, 3) := by decide +kernel
theorem dX12_digest_18 : decode cX12_digest 18 = .ok (.lmul, 1) := by decide +kernel
theorem dX12_digest_19 : decode cX12_digest 19 = .ok (.aload_n 0, 1) := by decide +kernel
theorem dX12_digest_20 : decode cX12_digest 20 = .ok (.getfield 9, 3) := by decide +kernel
theorem dX12_digest_23 : decode cX12_digest 23 = .ok (.iload_n 3, 1) := by decide +kernel
theorem dX12_digest_24 : decode cX12_digest 24 = .ok (.baload, 1) := by decide +kernel
theorem dX12_digest_25 : decode cX12_digest 25 = .ok (.ifCond .eq 7, 3) := by decide +kernel
theorem dX12_digest_28 : decode cX12_digest 28 = .ok (.iconst (-1), 1) := by decide +kernel
theorem dX12_digest_29 : decode cX12_digest 29 = .ok (.goto 9, 3) := by decide +kernel
theorem dX12_digest_32 : decode cX12_digest 32 = .ok (.aload_n 0, 1) := by decide +kernel
theorem dX12_digest_33 : decode cX12_digest 33 = .ok (.getfield 13, 3) := by decide +kernel
theorem dX12_digest_36 : decode cX12_digest 36 = .ok (.iload_n 3, 1) := by decide +kernel
theorem dX12_digest_37 : decode cX12_digest 37 = .ok (.iaload, 1) := by decide +kernel
theorem dX12_digest_38 : decode cX12_digest 38 = .ok (.i2l, 1) := by decide +kernel
theorem dX12_digest_39 : decode cX12_digest 39 = .ok (.ladd, 1) := by decide +kernel
theorem dX12_digest_40 : decode cX12_digest 40 = .ok (.lstore_n 1, 1) := by decide +kernel
theorem dX12_digest_41 : decode cX12_digest 41 = .ok (.iinc 3 1, 3) := by decide +kernel
theorem dX12_digest_44 : decode cX12_digest 44 = .ok (.goto (-38), 3) := by decide +kernel
theorem dX12_digest_47 : decode cX12_digest 47 = .ok (.lload_n 1, 1) := by decide +kernel
theorem dX12_digest_48 : decode cX12_digest 48 = .ok (.ldc2_w 341, 3) := by decide +kernel
theorem dX12_digest_51 : decode cX12_digest 51 = .ok (.lmul, 1) := by decide +kernel
theorem dX12_digest_52 : decode cX12_digest 52 = .ok (.aload_n 0, 1) := by decide +kernel
theorem dX12_digest_53 : decode cX12_digest 53 = .ok (.getfield 17, 3) := by decide +kernel
theorem dX12_digest_56 : decode cX12_digest 56 = .ok (.iconst 0, 1) := by decide +kernel
theorem dX12_digest_57 : decode cX12_digest 57 = .ok (.iaload, 1) := by decide +kernel
theorem dX12_digest_58 : decode cX12_digest 58 = .ok (.i2l, 1) := by decide +kernel
theorem dX12_digest_59 : decode cX12_digest 59 = .ok (.ladd, 1) := by decide +kernel
theorem dX12_digest_60 : decode cX12_digest 60 = .ok (.ldc2_w 341, 3) := by decide +kernel
theorem dX12_digest_63 : decode cX12_digest 63 = .ok (.lmul, 1) := by decide +kernel
theorem dX12_digest_64 : decode cX12_digest 64 = .ok (.aload_n 0, 1) := by decide +kernel
theorem dX12_digest_65 : decode cX12_digest 65 = .ok (.getfield 17, 3) := by decide +kernel
theorem dX12_digest_68 : decode cX12_digest 68 = .ok (.iconst 1, 1) := by decide +kernel
theorem dX12_digest_69 : decode cX12_digest 69 = .ok (.iaload, 1) := by decide +kernel
theorem dX12_digest_70 : decode cX12_digest 70 = .ok (.i2l, 1) := by decide +kernel
theorem dX12_digest_71 : decode cX12_digest 71 = .ok (.ladd, 1) := by decide +kernel
theorem dX12_digest_72 : decode cX12_digest 72 = .ok (.lstore_n 1, 1) := by decide +kernel
theorem dX12_digest_73 : decode cX12_digest 73 = .ok (.lload_n 1, 1) := by decide +kernel
theorem dX12_digest_74 : decode cX12_digest 74 = .ok (.ldc2_w 341, 3) := by decide +kernel
theorem dX12_digest_77 : decode cX12_digest 77 = .ok (.lmul, 1) := by decide +kernel
theorem dX12_digest_78 : decode cX12_digest 78 = .ok (.aload_n 0, 1) := by decide +kernel
theorem dX12_digest_79 : decode cX12_digest 79 = .ok (.invokevirtual 343, 3) := by decide +kernel
theorem dX12_digest_82 : decode cX12_digest 82 = .ok (.i2l, 1) := by decide +kernel
theorem dX12_digest_83 : decode cX12_digest 83 = .ok (.ladd, 1) := by decide +kernel
theorem dX12_digest_84 : decode cX12_digest 84 = .ok (.ldc2_w 341, 3) := by decide +kernel
theorem dX12_digest_87 : decode cX12_digest 87 = .ok (.lmul, 1) := by decide +kernel
theorem dX12_digest_88 : decode cX12_digest 88 = .ok (.aload_n 0, 1) := by decide +kernel
theorem dX12_digest_89 : decode cX12_digest 89 = .ok (.invokevirtual 295, 3) := by decide +kernel
theorem dX12_digest_92 : decode cX12_digest 92 = .ok (.i2l, 1) := by decide +kernel
theorem dX12_digest_93 : decode cX12_digest 93 = .ok (.ladd, 1) := by decide +kernel
theorem dX12_digest_94 : decode cX12_digest 94 = .ok (.lstore_n 1, 1) := by decide +kernel
theorem dX12_digest_95 : decode cX12_digest 95 = .ok (.lload_n 1, 1) := by decide +kernel
theorem dX12_digest_96 : decode cX12_digest 96 = .ok (.ldc2_w 341, 3) := by decide +kernel
theorem dX12_digest_99 : decode cX12_digest 99 = .ok (.lmul, 1) := by decide +kernel
theorem dX12_digest_100 : decode cX12_digest 100 = .ok (.aload_n 0, 1) := by decide +kernel
theorem dX12_digest_101 : decode cX12_digest 101 = .ok (.invokevirtual 346, 3) := by decide +kernel
theorem dX12_digest_104 : decode cX12_digest 104 = .ok (.i2l, 1) := by decide +kernel
theorem dX12_digest_105 : decode cX12_digest 105 = .ok (.ladd, 1) := by decide +kernel
theorem dX12_digest_106 : decode cX12_digest 106 = .ok (.ldc2_w 341, 3) := by decide +kernel
theorem dX12_digest_109 : decode cX12_digest 109 = .ok (.lmul, 1) := by decide +kernel
theorem dX12_digest_110 : decode cX12_digest 110 = .ok (.aload_n 0, 1) := by decide +kernel
theorem dX12_digest_111 : decode cX12_digest 111 = .ok (.invokevirtual 301, 3) := by decide +kernel
theorem dX12_digest_114 : decode cX12_digest 114 = .ok (.i2l, 1) := by decide +kernel
theorem dX12_digest_115 : decode cX12_digest 115 = .ok (.ladd, 1) := by decide +kernel
theorem dX12_digest_116 : decode cX12_digest 116 = .ok (.lstore_n 1, 1) := by decide +kernel
theorem dX12_digest_117 : decode cX12_digest 117 = .ok (.lload_n 1, 1) := by decide +kernel
theorem dX12_digest_118 : decode cX12_digest 118 = .ok (.ldc2_w 341, 3) := by decide +kernel
theorem dX12_digest_121 : decode cX12_digest 121 = .ok (.lmul, 1) := by decide +kernel
theorem dX12_digest_122 : decode cX12_digest 122 = .ok (.aload_n 0, 1) := by decide +kernel
theorem dX12_digest_123 : decode cX12_digest 123 = .ok (.iconst 0, 1) := by decide +kernel
theorem dX12_digest_124 : decode cX12_digest 124 = .ok (.invokevirtual 298, 3) := by decide +kernel
theorem dX12_digest_127 : decode cX12_digest 127 = .ok (.i2l, 1) := by decide +kernel
theorem dX12_digest_128 : decode cX12_digest 128 = .ok (.ladd, 1) := by decide +kernel
theorem dX12_digest_129 : decode cX12_digest 129 = .ok (.ldc2_w 341, 3) := by decide +kernel
theorem dX12_digest_132 : decode cX12_digest 132 = .ok (.lmul, 1) := by decide +kernel
theorem dX12_digest_133 : decode cX12_digest 133 = .ok (.aload_n 0, 1) := by decide +kernel
theorem dX12_digest_134 : decode cX12_digest 134 = .ok (.iconst 1, 1) := by decide +kernel
theorem dX12_digest_135 : decode cX12_digest 135 = .ok (.invokevirtual 298, 3) := by decide +kernel
theorem dX12_digest_138 : decode cX12_digest 138 = .ok (.i2l, 1) := by decide +kernel
theorem dX12_digest_139 : decode cX12_digest 139 = .ok (.ladd, 1) := by decide +kernel
theorem dX12_digest_140 : decode cX12_digest 140 = .ok (.lstore_n 1, 1) := by decide +kernel
theorem dX12_digest_141 : decode cX12_digest 141 = .ok (.aload_n 0, 1) := by decide +kernel
theorem dX12_digest_142 : decode cX12_digest 142 = .ok (.getfield 127, 3) := by decide +kernel
theorem dX12_digest_145 : decode cX12_digest 145 = .ok (.ifCond .ne 5, 3) := by decide +kernel
theorem dX12_digest_148 : decode cX12_digest 148 = .ok (.lload_n 1, 1) := by decide +kernel
theorem dX12_digest_149 : decode cX12_digest 149 = .ok (.lreturn, 1) := by decide +kernel
theorem dX12_digest_150 : decode cX12_digest 150 = .ok (.lload_n 1, 1) := by decide +kernel
theorem dX12_digest_151 : decode cX12_digest 151 = .ok (.ldc2_w 341, 3) := by decide +kernel
theorem dX12_digest_154 : decode cX12_digest 154 = .ok (.lmul, 1) := by decide +kernel
theorem dX12_digest_155 : decode cX12_digest 155 = .ok (.aload_n 0, 1) := by decide +kernel
theorem dX12_digest_156 : decode cX12_digest 156 = .ok (.getfield 238, 3) := by decide +kernel
theorem dX12_digest_159 : decode cX12_digest 159 = .ok (.i2l, 1) := by decide +kernel
theorem dX12_digest_160 : decode cX12_digest 160 = .ok (.ladd, 1) := by decide +kernel
theorem dX12_digest_161 : decode cX12_digest 161 = .ok (.lstore_n 1, 1) := by decide +kernel
theorem dX12_digest_162 : decode cX12_digest 162 = .ok (.iconst 0, 1) := by decide +kernel
theorem dX12_digest_163 : decode cX12_digest 163 = .ok (.istore_n 3, 1) := by decide +kernel
theorem dX12_digest_164 : decode cX12_digest 164 = .ok (.iload_n 3, 1) := by decide +kernel
theorem dX12_digest_165 : decode cX12_digest 165 = .ok (.aload_n 0, 1) := by decide +kernel
theorem dX12_digest_166 : decode cX12_digest 166 = .ok (.getfield 238, 3) := by decide +kernel
theorem dX12_digest_169 : decode cX12_digest 169 = .ok (.if_icmp .ge 61, 3) := by decide +kernel
theorem dX12_digest_172 : decode cX12_digest 172 = .ok (.lload_n 1, 1) := by decide +kernel
theorem dX12_digest_173 : decode cX12_digest 173 = .ok (.ldc2_w 341, 3) := by decide +kernel
theorem dX12_digest_176 : decode cX12_digest 176 = .ok (.lmul, 1) := by decide +kernel
theorem dX12_digest_177 : decode cX12_digest 177 = .ok (.aload_n 0, 1) := by decide +kernel
theorem dX12_digest_178 : decode cX12_digest 178 = .ok (.getfield 33, 3) := by decide +kernel
theorem dX12_digest_181 : decode cX12_digest 181 = .ok (.iload_n 3, 1) := by decide +kernel
theorem dX12_digest_182 : decode cX12_digest 182 = .ok (.iaload, 1) := by decide +kernel
theorem dX12_digest_183 : decode cX12_digest 183 = .ok (.i2l, 1) := by decide +kernel
theorem dX12_digest_184 : decode cX12_digest 184 = .ok (.ladd, 1) := by decide +kernel
theorem dX12_digest_185 : decode cX12_digest 185 = .ok (.ldc2_w 341, 3) := by decide +kernel
theorem dX12_digest_188 : decode cX12_digest 188 = .ok (.lmul, 1) := by decide +kernel
theorem dX12_digest_189 : decode cX12_digest 189 = .ok (.aload_n 0, 1) := by decide +kernel
theorem dX12_digest_190 : decode cX12_digest 190 = .ok (.getfield 36, 3) := by decide +kernel
theorem dX12_digest_193 : decode cX12_digest 193 = .ok (.iload_n 3, 1) := by decide +kernel
theorem dX12_digest_194 : decode cX12_digest 194 = .ok (.iaload, 1) := by decide +kernel
theorem dX12_digest_195 : decode cX12_digest 195 = .ok (.i2l, 1) := by decide +kernel
theorem dX12_digest_196 : decode cX12_digest 196 = .ok (.ladd, 1) := by decide +kernel
theorem dX12_digest_197 : decode cX12_digest 197 = .ok (.lstore_n 1, 1) := by decide +kernel
theorem dX12_digest_198 : decode cX12_digest 198 = .ok (.lload_n 1, 1) := by decide +kernel
theorem dX12_digest_199 : decode cX12_digest 199 = .ok (.ldc2_w 341, 3) := by decide +kernel
theorem dX12_digest_202 : decode cX12_digest 202 = .ok (.lmul, 1) := by decide +kernel
theorem dX12_digest_203 : decode cX12_digest 203 = .ok (.aload_n 0, 1) := by decide +kernel
theorem dX12_digest_204 : decode cX12_digest 204 = .ok (.getfield 39, 3) := by decide +kernel
theorem dX12_digest_207 : decode cX12_digest 207 = .ok (.iload_n 3, 1) := by decide +kernel
theorem dX12_digest_208 : decode cX12_digest 208 = .ok (.iaload, 1) := by decide +kernel
theorem dX12_digest_209 : decode cX12_digest 209 = .ok (.i2l, 1) := by decide +kernel
theorem dX12_digest_210 : decode cX12_digest 210 = .ok (.ladd, 1) := by decide +kernel
theorem dX12_digest_211 : decode cX12_digest 211 = .ok (.ldc2_w 341, 3) := by decide +kernel
theorem dX12_digest_214 : decode cX12_digest 214 = .ok (.lmul, 1) := by decide +kernel
theorem dX12_digest_215 : decode cX12_digest 215 = .ok (.aload_n 0, 1) := by decide +kernel
theorem dX12_digest_216 : decode cX12_digest 216 = .ok (.getfield 42, 3) := by decide +kernel
theorem dX12_digest_219 : decode cX12_digest 219 = .ok (.iload_n 3, 1) := by decide +kernel
theorem dX12_digest_220 : decode cX12_digest 220 = .ok (.iaload, 1) := by decide +kernel
theorem dX12_digest_221 : decode cX12_digest 221 = .ok (.i2l, 1) := by decide +kernel
theorem dX12_digest_222 : decode cX12_digest 222 = .ok (.ladd, 1) := by decide +kernel
theorem dX12_digest_223 : decode cX12_digest 223 = .ok (.lstore_n 1, 1) := by decide +kernel
theorem dX12_digest_224 : decode cX12_digest 224 = .ok (.iinc 3 1, 3) := by decide +kernel
theorem dX12_digest_227 : decode cX12_digest 227 = .ok (.goto (-63), 3) := by decide +kernel
theorem dX12_digest_230 : decode cX12_digest 230 = .ok (.lload_n 1, 1) := by decide +kernel
theorem dX12_digest_231 : decode cX12_digest 231 = .ok (.lreturn, 1) := by decide +kernel
