theorem dX11_count_0 : decode cX11_count 0 = .ok (.aload_n 0, 1) := by decide +kernel
theorem dX11_count_1 : decode cX11_count 1 = .ok (.getfield 65, 3) := by decide +kernel
theorem dX11_count_4 : decode cX11_count 4 = .ok (.getfield 248, 3) := by decide +kernel
theorem dX11_count_7 : decode cX11_count 7 = .ok (.ifCond .ne 10, 3) := by decide +kernel
theorem dX11_count_10 : decode cX11_count 10 = .ok (.aload_n 0, 1) := by decide +kernel
theorem dX11_count_11 : decode cX11_count 11 = .ok (.bipush 9, 2) := by decide +kernel
theorem dX11_count_13 : decode cX11_count 13 = .ok (.invokevirtual 91, 3) := by decide +kernel
theorem dX11_count_16 : decode cX11_count 16 = .ok (.ireturn, 1) := by decide +kernel
theorem dX11_count_17 : decode cX11_count 17 = .ok (.aload_n 0, 1) := by decide +kernel
theorem dX11_count_18 : decode cX11_count 18 = .ok (.aload_n 0, 1) := by decide +kernel
theorem dX11_count_19 : decode cX11_count 19 = .ok (.getfield 65, 3) := by decide +kernel
theorem dX11_count_22 : decode cX11_count 22 = .ok (.iload_n 1, 1) := by decide +kernel
theorem dX11_count_23 : decode cX11_count 23 = .ok (.invokevirtual 282, 3) := by decide +kernel
theorem dX11_count_26 : decode cX11_count 26 = .ok (.invokevirtual 98, 3) := by decide +kernel
theorem dX11_count_29 : decode cX11_count 29 = .ok (.ireturn, 1) := by decide +kernel
theorem dX11_find_0 : decode cX11_find 0 = .ok (.aload_n 0, 1) := by decide +kernel
theorem dX11_find_1 : decode cX11_find 1 = .ok (.getfield 65, 3) := by decide +kernel
theorem dX11_find_4 : decode cX11_find 4 = .ok (.getfield 248, 3) := by decide +kernel
theorem dX11_find_7 : decode cX11_find 7 = .ok (.ifCond .ne 10, 3) := by decide +kernel
theorem dX11_find_10 : decode cX11_find 10 = .ok (.aload_n 0, 1) := by decide +kernel
theorem dX11_find_11 : decode cX11_find 11 = .ok (.bipush 9, 2) := by decide +kernel
theorem dX11_find_13 : decode cX11_find 13 = .ok (.invokevirtual 91, 3) := by decide +kernel
theorem dX11_find_16 : decode cX11_find 16 = .ok (.ireturn, 1) := by decide +kernel
theorem dX11_find_17 : decode cX11_find 17 = .ok (.iload_n 1, 1) := by decide +kernel
theorem dX11_find_18 : decode cX11_find 18 = .ok (.ifCond .ge 7, 3) := by decide +kernel
theorem dX11_find_21 : decode cX11_find 21 = .ok (.iconst (-1), 1) := by decide +kernel
theorem dX11_find_22 : decode cX11_find 22 = .ok (.goto 12, 3) := by decide +kernel
theorem dX11_find_25 : decode cX11_find 25 = .ok (.aload_n 0, 1) := by decide +kernel
theorem dX11_find_26 : decode cX11_find 26 = .ok (.getfield 65, 3) := by decide +kernel
theorem dX11_find_29 : decode cX11_find 29 = .ok (.iload_n 1, 1) := by decide +kernel
theorem dX11_find_30 : decode cX11_find 30 = .ok (.iload_n 2, 1) := by decide +kernel
theorem dX11_find_31 : decode cX11_find 31 = .ok (.invokevirtual 285, 3) := by decide +kernel
theorem dX11_find_34 : decode cX11_find 34 = .ok (.istore_n 3, 1) := by decide +kernel
theorem dX11_find_35 : decode cX11_find 35 = .ok (.iload_n 3, 1) := by decide +kernel
theorem dX11_find_36 : decode cX11_find 36 = .ok (.ifCond .ge 9, 3) := by decide +kernel
theorem dX11_find_39 : decode cX11_find 39 = .ok (.aload_n 0, 1) := by decide +kernel
theorem dX11_find_40 : decode cX11_find 40 = .ok (.iconst 3, 1) := by decide +kernel
theorem dX11_find_41 : decode cX11_find 41 = .ok (.invokevirtual 91, 3) := by decide +kernel
theorem dX11_find_44 : decode cX11_find 44 = .ok (.ireturn, 1) := by decide +kernel
theorem dX11_find_45 : decode cX11_find 45 = .ok (.aload_n 0, 1) := by decide +kernel
theorem dX11_find_46 : decode cX11_find 46 = .ok (.iload_n 3, 1) := by decide +kernel
theorem dX11_find_47 : decode cX11_find 47 = .ok (.invokevirtual 98, 3) := by decide +kernel
theorem dX11_find_50 : decode cX11_find 50 = .ok (.ireturn, 1) := by decide +kernel
theorem dX11_claim_0 : decode cX11_claim 0 = .ok (.aload_n 0, 1) := by decide +kernel
theorem dX11_claim_1 : decode cX11_claim 1 = .ok (.getfield 65, 3) := by decide +kernel
theorem dX11_claim_4 : decode cX11_claim 4 = .ok (.getfield 248, 3) := by decide +kernel
theorem dX11_claim_7 : decode cX11_claim 7 = .ok (.ifCond .ne 10, 3) := by decide +kernel
theorem dX11_claim_10 : decode cX11_claim 10 = .ok (.aload_n 0, 1) := by decide +kernel
theorem dX11_claim_11 : decode cX11_claim 11 = .ok (.bipush 9, 2) := by decide +kernel
theorem dX11_claim_13 : decode cX11_claim 13 = .ok (.invokevirtual 91, 3) := by decide +kernel
theorem dX11_claim_16 : decode cX11_claim 16 = .ok (.ireturn, 1) := by decide +kernel
theorem dX11_claim_17 : decode cX11_claim 17 = .ok (.aload_n 0, 1) := by decide +kernel
theorem dX11_claim_18 : decode cX11_claim 18 = .ok (.getfield 65, 3) := by decide +kernel
theorem dX11_claim_21 : decode cX11_claim 21 = .ok (.iload_n 1, 1) := by decide +kernel
theorem dX11_claim_22 : decode cX11_claim 22 = .ok (.invokevirtual 288, 3) := by decide +kernel
theorem dX11_claim_25 : decode cX11_claim 25 = .ok (.ifCond .ne 9, 3) := by decide +kernel
theorem dX11_claim_28 : decode cX11_claim 28 = .ok (.aload_n 0, 1) := by decide +kernel
theorem dX11_claim_29 : decode cX11_claim 29 = .ok (.iconst 3, 1) := by decide +kernel
theorem dX11_claim_30 : decode cX11_claim 30 = .ok (.invokevirtual 91, 3) := by decide +kernel
theorem dX11_claim_33 : decode cX11_claim 33 = .ok (.ireturn, 1) := by decide +kernel
theorem dX11_claim_34 : decode cX11_claim 34 = .ok (.iload_n 2, 1) := by decide +kernel
theorem dX11_claim_35 : decode cX11_claim 35 = .ok (.bipush (-60), 2) := by decide +kernel
theorem dX11_claim_37 : decode cX11_claim 37 = .ok (.if_icmp .lt 20, 3) := by decide +kernel
theorem dX11_claim_40 : decode cX11_claim 40 = .ok (.iload_n 2, 1) := by decide +kernel
theorem dX11_claim_41 : decode cX11_claim 41 = .ok (.bipush 60, 2) := by decide +kernel
theorem dX11_claim_43 : decode cX11_claim 43 = .ok (.if_icmp .gt 14, 3) := by decide +kernel
theorem dX11_claim_46 : decode cX11_claim 46 = .ok (.iload_n 3, 1) := by decide +kernel
theorem dX11_claim_47 : decode cX11_claim 47 = .ok (.ifCond .lt 10, 3) := by decide +kernel
theorem dX11_claim_50 : decode cX11_claim 50 = .ok (.iload_n 3, 1) := by decide +kernel
theorem dX11_claim_51 : decode cX11_claim 51 = .ok (.ldc_w 291, 3) := by decide +kernel
theorem dX11_claim_54 : decode cX11_claim 54 = .ok (.if_icmp .le 10, 3) := by decide +kernel
theorem dX11_claim_57 : decode cX11_claim 57 = .ok (.aload_n 0, 1) := by decide +kernel
theorem dX11_claim_58 : decode cX11_claim 58 = .ok (.bipush 7, 2) := by decide +kernel
theorem dX11_claim_60 : decode cX11_claim 60 = .ok (.invokevirtual 91, 3) := by decide +kernel
theorem dX11_claim_63 : decode cX11_claim 63 = .ok (.ireturn, 1) := by decide +kernel
theorem dX11_claim_64 : decode cX11_claim 64 = .ok (.aload_n 0, 1) := by decide +kernel
theorem dX11_claim_65 : decode cX11_claim 65 = .ok (.getfield 65, 3) := by decide +kernel
theorem dX11_claim_68 : decode cX11_claim 68 = .ok (.getfield 292, 3) := by decide +kernel
theorem dX11_claim_71 : decode cX11_claim 71 = .ok (.iload_n 1, 1) := by decide +kernel
theorem dX11_claim_72 : decode cX11_claim 72 = .ok (.iload_n 2, 1) := by decide +kernel
theorem dX11_claim_73 : decode cX11_claim 73 = .ok (.iastore, 1) := by decide +kernel
theorem dX11_claim_74 : decode cX11_claim 74 = .ok (.aload_n 0, 1) := by decide +kernel
theorem dX11_claim_75 : decode cX11_claim 75 = .ok (.getfield 65, 3) := by decide +kernel
theorem dX11_claim_78 : decode cX11_claim 78 = .ok (.getfield 295, 3) := by decide +kernel
theorem dX11_claim_81 : decode cX11_claim 81 = .ok (.iload_n 1, 1) := by decide +kernel
theorem dX11_claim_82 : decode cX11_claim 82 = .ok (.iload_n 3, 1) := by decide +kernel
theorem dX11_claim_83 : decode cX11_claim 83 = .ok (.iastore, 1) := by decide +kernel
theorem dX11_claim_84 : decode cX11_claim 84 = .ok (.aload_n 0, 1) := by decide +kernel
theorem dX11_claim_85 : decode cX11_claim 85 = .ok (.iload_n 1, 1) := by decide +kernel
theorem dX11_claim_86 : decode cX11_claim 86 = .ok (.invokevirtual 98, 3) := by decide +kernel
theorem dX11_claim_89 : decode cX11_claim 89 = .ok (.ireturn, 1) := by decide +kernel
theorem dX11_copy_0 : decode cX11_copy 0 = .ok (.aload_n 0, 1) := by decide +kernel
theorem dX11_copy_1 : decode cX11_copy 1 = .ok (.getfield 65, 3) := by decide +kernel
theorem dX11_copy_4 : decode cX11_copy 4 = .ok (.getfield 248, 3) := by decide +kernel
theorem dX11_copy_7 : decode cX11_copy 7 = .ok (.ifCond .ne 10, 3) := by decide +kernel
theorem dX11_copy_10 : decode cX11_copy 10 = .ok (.aload_n 0, 1) := by decide +kernel
theorem dX11_copy_11 : decode cX11_copy 11 = .ok (.bipush 9, 2) := by decide +kernel
theorem dX11_copy_13 : decode cX11_copy 13 = .ok (.invokevirtual 91, 3) := by decide +kernel
theorem dX11_copy_16 : decode cX11_copy 16 = .ok (.ireturn, 1) := by decide +kernel
theorem dX11_copy_17 : decode cX11_copy 17 = .ok (.aload_n 0, 1) := by decide +kernel
theorem dX11_copy_18 : decode cX11_copy 18 = .ok (.getfield 65, 3) := by decide +kernel
theorem dX11_copy_21 : decode cX11_copy 21 = .ok (.invokevirtual 298, 3) := by decide +kernel
theorem dX11_copy_24 : decode cX11_copy 24 = .ok (.aload_n 0, 1) := by decide +kernel
theorem dX11_copy_25 : decode cX11_copy 25 = .ok (.aload_n 0, 1) := by decide +kernel
theorem dX11_copy_26 : decode cX11_copy 26 = .ok (.getfield 65, 3) := by decide +kernel
theorem dX11_copy_29 : decode cX11_copy 29 = .ok (.getfield 301, 3) := by decide +kernel
theorem dX11_copy_32 : decode cX11_copy 32 = .ok (.invokevirtual 98, 3) := by decide +kernel
theorem dX11_copy_35 : decode cX11_copy 35 = .ok (.ireturn, 1) := by decide +kernel
theorem dX11_check_0 : decode cX11_check 0 = .ok (.aload_n 0, 1) := by decide +kernel
theorem dX11_check_1 : decode cX11_check 1 = .ok (.getfield 65, 3) := by decide +kernel
theorem dX11_check_4 : decode cX11_check 4 = .ok (.getfield 248, 3) := by decide +kernel
theorem dX11_check_7 : decode cX11_check 7 = .ok (.ifCond .ne 10, 3) := by decide +kernel
theorem dX11_check_10 : decode cX11_check 10 = .ok (.aload_n 0, 1) := by decide +kernel
theorem dX11_check_11 : decode cX11_check 11 = .ok (.bipush 9, 2) := by decide +kernel
theorem dX11_check_13 : decode cX11_check 13 = .ok (.invokevirtual 91, 3) := by decide +kernel
theorem dX11_check_16 : decode cX11_check 16 = .ok (.ireturn, 1) := by decide +kernel
theorem dX11_check_17 : decode cX11_check 17 = .ok (.aload_n 0, 1) := by decide +kernel
theorem dX11_check_18 : decode cX11_check 18 = .ok (.aload_n 0, 1) := by decide +kernel
theorem dX11_check_19 : decode cX11_check 19 = .ok (.getfield 65, 3) := by decide +kernel
theorem dX11_check_22 : decode cX11_check 22 = .ok (.invokevirtual 304, 3) := by decide +kernel
theorem dX11_check_25 : decode cX11_check 25 = .ok (.invokevirtual 98, 3) := by decide +kernel
theorem dX11_check_28 : decode cX11_check 28 = .ok (.ireturn, 1) := by decide +kernel
theorem dX11_line_0 : decode cX11_line 0 = .ok (.aload_n 0, 1) := by decide +kernel
theorem dX11_line_1 : decode cX11_line 1 = .ok (.getfield 65, 3) := by decide +kernel
theorem dX11_line_4 : decode cX11_line 4 = .ok (.iload_n 1, 1) := by decide +kernel
theorem dX11_line_5 : decode cX11_line 5 = .ok (.invokevirtual 257, 3) := by decide +kernel
theorem dX11_line_8 : decode cX11_line 8 = .ok (.istore_n 2, 1) := by decide +kernel
theorem dX11_line_9 : decode cX11_line 9 = .ok (.iload_n 2, 1) := by decide +kernel
theorem dX11_line_10 : decode cX11_line 10 = .ok (.ifCond .eq 9, 3) := by decide +kernel
theorem dX11_line_13 : decode cX11_line 13 = .ok (.aload_n 0, 1) := by decide +kernel
theorem dX11_line_14 : decode cX11_line 14 = .ok (.iload_n 2, 1) := by decide +kernel
theorem dX11_line_15 : decode cX11_line 15 = .ok (.invokevirtual 91, 3) := by decide +kernel
theorem dX11_line_18 : decode cX11_line 18 = .ok (.ireturn, 1) := by decide +kernel
theorem dX11_line_19 : decode cX11_line 19 = .ok (.aload_n 0, 1) := by decide +kernel
theorem dX11_line_20 : decode cX11_line 20 = .ok (.getfield 72, 3) := by decide +kernel
theorem dX11_line_23 : decode cX11_line 23 = .ok (.aload_n 0, 1) := by decide +kernel
theorem dX11_line_24 : decode cX11_line 24 = .ok (.getfield 65, 3) := by decide +kernel
theorem dX11_line_27 : decode cX11_line 27 = .ok (.iload_n 1, 1) := by decide +kernel
theorem dX11_line_28 : decode cX11_line 28 = .ok (.invokevirtual 307, 3) := by decide +kernel
theorem dX11_line_31 : decode cX11_line 31 = .ok (.aload_n 0, 1) := by decide +kernel
theorem dX11_line_32 : decode cX11_line 32 = .ok (.aload_n 0, 1) := by decide +kernel
theorem dX11_line_33 : decode cX11_line 33 = .ok (.getfield 72, 3) := by decide +kernel
theorem dX11_line_36 : decode cX11_line 36 = .ok (.getfield 310, 3) := by decide +kernel
theorem dX11_line_39 : decode cX11_line 39 = .ok (.invokevirtual 98, 3) := by decide +kernel
theorem dX11_line_42 : decode cX11_line 42 = .ok (.ireturn, 1) := by decide +kernel
theorem dX11_lineAt_0 : decode cX11_lineAt 0 = .ok (.aload_n 0, 1) := by decide +kernel
theorem dX11_lineAt_1 : decode cX11_lineAt 1 = .ok (.getfield 72, 3) := by decide +kernel
theorem dX11_lineAt_4 : decode cX11_lineAt 4 = .ok (.getfield 313, 3) := by decide +kernel
theorem dX11_lineAt_7 : decode cX11_lineAt 7 = .ok (.ifCond .ne 10, 3) := by decide +kernel
theorem dX11_lineAt_10 : decode cX11_lineAt 10 = .ok (.aload_n 0, 1) := by decide +kernel
theorem dX11_lineAt_11 : decode cX11_lineAt 11 = .ok (.bipush 9, 2) := by decide +kernel
theorem dX11_lineAt_13 : decode cX11_lineAt 13 = .ok (.invokevirtual 91, 3) := by decide +kernel
theorem dX11_lineAt_16 : decode cX11_lineAt 16 = .ok (.ireturn, 1) := by decide +kernel
theorem dX11_lineAt_17 : decode cX11_lineAt 17 = .ok (.iload_n 1, 1) := by decide +kernel
theorem dX11_lineAt_18 : decode cX11_lineAt 18 = .ok (.ifCond .lt 14, 3) := by decide +kernel
theorem dX11_lineAt_21 : decode cX11_lineAt 21 = .ok (.iload_n 1, 1) := by decide +kernel
theorem dX11_lineAt_22 : decode cX11_lineAt 22 = .ok (.aload_n 0, 1) := by decide +kernel
theorem dX11_lineAt_23 : decode cX11_lineAt 23 = .ok (.getfield 72, 3) := by decide +kernel
theorem dX11_lineAt_26 : decode cX11_lineAt 26 = .ok (.getfield 310, 3) := by decide +kernel
theorem dX11_lineAt_29 : decode cX11_lineAt 29 = .ok (.if_icmp .lt 9, 3) := by decide +kernel
theorem dX11_lineAt_32 : decode cX11_lineAt 32 = .ok (.aload_n 0, 1) := by decide +kernel
theorem dX11_lineAt_33 : decode cX11_lineAt 33 = .ok (.iconst 3, 1) := by decide +kernel
theorem dX11_lineAt_34 : decode cX11_lineAt 34 = .ok (.invokevirtual 91, 3) := by decide +kernel
theorem dX11_lineAt_37 : decode cX11_lineAt 37 = .ok (.ireturn, 1) := by decide +kernel
theorem dX11_lineAt_38 : decode cX11_lineAt 38 = .ok (.aload_n 0, 1) := by decide +kernel
theorem dX11_lineAt_39 : decode cX11_lineAt 39 = .ok (.aload_n 0, 1) := by decide +kernel
theorem dX11_lineAt_40 : decode cX11_lineAt 40 = .ok (.getfield 72, 3) := by decide +kernel
theorem dX11_lineAt_43 : decode cX11_lineAt 43 = .ok (.getfield 315, 3) := by decide +kernel
theorem dX11_lineAt_46 : decode cX11_lineAt 46 = .ok (.iload_n 1, 1) := by decide +kernel
theorem dX11_lineAt_47 : decode cX11_lineAt 47 = .ok (.iaload, 1) := by decide +kernel
theorem dX11_lineAt_48 : decode cX11_lineAt 48 = .ok (.invokevirtual 98, 3) := by decide +kernel
theorem dX11_lineAt_51 : decode cX11_lineAt 51 = .ok (.ireturn, 1) := by decide +kernel
theorem dX11_ring_0 : decode cX11_ring 0 = .ok (.aload_n 0, 1) := by decide +kernel
theorem dX11_ring_1 : decode cX11_ring 1 = .ok (.getfield 72, 3) := by decide +kernel
theorem dX11_ring_4 : decode cX11_ring 4 = .ok (.getfield 313, 3) := by decide +kernel
theorem dX11_ring_7 : decode cX11_ring 7 = .ok (.ifCond .ne 10, 3) := by decide +kernel
theorem dX11_ring_10 : decode cX11_ring 10 = .ok (.aload_n 0, 1) := by decide +kernel
theorem dX11_ring_11 : decode cX11_ring 11 = .ok (.bipush 9, 2) := by decide +kernel
theorem dX11_ring_13 : decode cX11_ring 13 = .ok (.invokevirtual 91, 3) := by decide +kernel
theorem dX11_ring_16 : decode cX11_ring 16 = .ok (.ireturn, 1) := by decide +kernel
theorem dX11_ring_17 : decode cX11_ring 17 = .ok (.aload_n 0, 1) := by decide +kernel
theorem dX11_ring_18 : decode cX11_ring 18 = .ok (.aload_n 0, 1) := by decide +kernel
theorem dX11_ring_19 : decode cX11_ring 19 = .ok (.getfield 72, 3) := by decide +kernel
theorem dX11_ring_22 : decode cX11_ring 22 = .ok (.getfield 317, 3) := by decide +kernel
theorem dX11_ring_25 : decode cX11_ring 25 = .ok (.invokevirtual 98, 3) := by decide +kernel
theorem dX11_ring_28 : decode cX11_ring 28 = .ok (.ireturn, 1) := by decide +kernel
theorem dX11_player_0 : decode cX11_player 0 = .ok (.iload_n 1, 1) := by decide +kernel
theorem dX11_player_1 : decode cX11_player 1 = .ok (.invokestatic 129, 3) := by decide +kernel
theorem dX11_player_4 : decode cX11_player 4 = .ok (.ifCond .ne 9, 3) := by decide +kernel
theorem dX11_player_7 : decode cX11_player 7 = .ok (.aload_n 0, 1) := by decide +kernel
theorem dX11_player_8 : decode cX11_player 8 = .ok (.iconst 3, 1) := by decide +kernel
theorem dX11_player_9 : decode cX11_player 9 = .ok (.invokevirtual 91, 3) := by decide +kernel
theorem dX11_player_12 : decode cX11_player 12 = .ok (.ireturn, 1) := by decide +kernel
theorem dX11_player_13 : decode cX11_player 13 = .ok (.iload_n 2, 1) := by decide +kernel
theorem dX11_player_14 : decode cX11_player 14 = .ok (.ifCond .lt 8, 3) := by decide +kernel
theorem dX11_player_17 : decode cX11_player 17 = .ok (.iload_n 2, 1) := by decide +kernel
theorem dX11_player_18 : decode cX11_player 18 = .ok (.iconst 3, 1) := by decide +kernel
theorem dX11_player_19 : decode cX11_player 19 = .ok (.if_icmp .le 10, 3) := by decide +kernel
theorem dX11_player_22 : decode cX11_player 22 = .ok (.aload_n 0, 1) := by decide +kernel
theorem dX11_player_23 : decode cX11_player 23 = .ok (.bipush 7, 2) := by decide +kernel
theorem dX11_player_25 : decode cX11_player 25 = .ok (.invokevirtual 91, 3) := by decide +kernel
theorem dX11_player_28 : decode cX11_player 28 = .ok (.ireturn, 1) := by decide +kernel
theorem dX11_player_29 : decode cX11_player 29 = .ok (.aload_n 0, 1) := by decide +kernel
theorem dX11_player_30 : decode cX11_player 30 = .ok (.getfield 79, 3) := by decide +kernel
theorem dX11_player_33 : decode cX11_player 33 = .ok (.iload_n 1, 1) := by decide +kernel
theorem dX11_player_34 : decode cX11_player 34 = .ok (.aaload, 1) := by decide +kernel
theorem dX11_player_35 : decode cX11_player 35 = .ok (.iload_n 2, 1) := by decide +kernel
theorem dX11_player_36 : decode cX11_player 36 = .ok (.lload_n 3, 1) := by decide +kernel
theorem dX11_player_37 : decode cX11_player 37 = .ok (.invokevirtual 320, 3) := by decide +kernel
theorem dX11_player_40 : decode cX11_player 40 = .ok (.aload_n 0, 1) := by decide +kernel
theorem dX11_player_41 : decode cX11_player 41 = .ok (.iload_n 2, 1) := by decide +kernel
theorem dX11_player_42 : decode cX11_player 42 = .ok (.invokevirtual 98, 3) := by decide +kernel
theorem dX11_player_45 : decode cX11_player 45 = .ok (.ireturn, 1) := by decide +kernel
theorem dX11_bestPitOr_0 : decode cX11_bestPitOr 0 = .ok (.aload_n 0, 1) := by decide +kernel
theorem dX11_bestPitOr_1 : decode cX11_bestPitOr 1 = .ok (.getfield 65, 3) := by decide +kernel
theorem dX11_bestPitOr_4 : decode cX11_bestPitOr 4 = .ok (.getfield 248, 3) := by decide +kernel
theorem dX11_bestPitOr_7 : decode cX11_bestPitOr 7 = .ok (.ifCond .eq 22, 3) := by decide +kernel
theorem dX11_bestPitOr_10 : decode cX11_bestPitOr 10 = .ok (.aload_n 0, 1) := by decide +kernel
theorem dX11_bestPitOr_11 : decode cX11_bestPitOr 11 = .ok (.getfield 12, 3) := by decide +kernel
theorem dX11_bestPitOr_14 : decode cX11_bestPitOr 14 = .ok (.aload_n 0, 1) := by decide +kernel
theorem dX11_bestPitOr_15 : decode cX11_bestPitOr 15 = .ok (.getfield 26, 3) := by decide +kernel
theorem dX11_bestPitOr_18 : decode cX11_bestPitOr 18 = .ok (.getfield 108, 3) := by decide +kernel
theorem dX11_bestPitOr_21 : decode cX11_bestPitOr 21 = .ok (.invokevirtual 125, 3) := by decide +kernel
theorem dX11_bestPitOr_24 : decode cX11_bestPitOr 24 = .ok (.bipush 12, 2) := by decide +kernel
theorem dX11_bestPitOr_26 : decode cX11_bestPitOr 26 = .ok (.if_icmp .le 5, 3) := by decide +kernel
theorem dX11_bestPitOr_29 : decode cX11_bestPitOr 29 = .ok (.iload_n 1, 1) := by decide +kernel
theorem dX11_bestPitOr_30 : decode cX11_bestPitOr 30 = .ok (.ireturn, 1) := by decide +kernel
theorem dX11_bestPitOr_31 : decode cX11_bestPitOr 31 = .ok (.ldc2_w 213, 3) := by decide +kernel
theorem dX11_bestPitOr_34 : decode cX11_bestPitOr 34 = .ok (.aload_n 0, 1) := by decide +kernel
theorem dX11_bestPitOr_35 : decode cX11_bestPitOr 35 = .ok (.getfield 44, 3) := by decide +kernel
theorem dX11_bestPitOr_38 : decode cX11_bestPitOr 38 = .ok (.aload_n 0, 1) := by decide +kernel
theorem dX11_bestPitOr_39 : decode cX11_bestPitOr 39 = .ok (.getfield 26, 3) := by decide +kernel
theorem dX11_bestPitOr_42 : decode cX11_bestPitOr 42 = .ok (.getfield 108, 3) := by decide +kernel
theorem dX11_bestPitOr_45 : decode cX11_bestPitOr 45 = .ok (.invokevirtual 223, 3) := by decide +kernel
theorem dX11_bestPitOr_48 : decode cX11_bestPitOr 48 = .ok (.lmul, 1) := by decide +kernel
theorem dX11_bestPitOr_49 : decode cX11_bestPitOr 49 = .ok (.aload_n 0, 1) := by decide +kernel
theorem dX11_bestPitOr_50 : decode cX11_bestPitOr 50 = .ok (.getfield 26, 3) := by decide +kernel
theorem dX11_bestPitOr_53 : decode cX11_bestPitOr 53 = .ok (.getfield 136, 3) := by decide +kernel
theorem dX11_bestPitOr_56 : decode cX11_bestPitOr 56 = .ok (.i2l, 1) := by decide +kernel
theorem dX11_bestPitOr_57 : decode cX11_bestPitOr 57 = .ok (.ladd, 1) := by decide +kernel
theorem dX11_bestPitOr_58 : decode cX11_bestPitOr 58 = .ok (.lstore_n 2, 1) := by decide +kernel
theorem dX11_bestPitOr_59 : decode cX11_bestPitOr 59 = .ok (.lload_n 2, 1) := by decide +kernel
theorem dX11_bestPitOr_60 : decode cX11_bestPitOr 60 = .ok (.aload_n 0, 1) := by decide +kernel
theorem dX11_bestPitOr_61 : decode cX11_bestPitOr 61 = .ok (.getfield 65, 3) := by decide +kernel
theorem dX11_bestPitOr_64 : decode cX11_bestPitOr 64 = .ok (.getfield 301, 3) := by decide +kernel
theorem dX11_bestPitOr_67 : decode cX11_bestPitOr 67 = .ok (.i2l, 1) := by decide +kernel
theorem dX11_bestPitOr_68 : decode cX11_bestPitOr 68 = .ok (.lcmp, 1) := by decide +kernel
theorem dX11_bestPitOr_69 : decode cX11_bestPitOr 69 = .ok (.ifCond .lt 5, 3) := by decide +kernel
theorem dX11_bestPitOr_72 : decode cX11_bestPitOr 72 = .ok (.iload_n 1, 1) := by decide +kernel
theorem dX11_bestPitOr_73 : decode cX11_bestPitOr 73 = .ok (.ireturn, 1) := by decide +kernel
theorem dX11_bestPitOr_74 : decode cX11_bestPitOr 74 = .ok (.aload_n 0, 1) := by decide +kernel
theorem dX11_bestPitOr_75 : decode cX11_bestPitOr 75 = .ok (.getfield 65, 3) := by decide +kernel
theorem dX11_bestPitOr_78 : decode cX11_bestPitOr 78 = .ok (.lload_n 2, 1) := by decide +kernel
theorem dX11_bestPitOr_79 : decode cX11_bestPitOr 79 = .ok (.l2i, 1) := by decide +kernel
theorem dX11_bestPitOr_80 : decode cX11_bestPitOr 80 = .ok (.invokevirtual 266, 3) := by decide +kernel
theorem dX11_bestPitOr_83 : decode cX11_bestPitOr 83 = .ok (.istore 4, 2) := by decide +kernel
theorem dX11_bestPitOr_85 : decode cX11_bestPitOr 85 = .ok (.iload 4, 2) := by decide +kernel
theorem dX11_bestPitOr_87 : decode cX11_bestPitOr 87 = .ok (.ifCond .ge 7, 3) := by decide +kernel
theorem dX11_bestPitOr_90 : decode cX11_bestPitOr 90 = .ok (.iload_n 1, 1) := by decide +kernel
theorem dX11_bestPitOr_91 : decode cX11_bestPitOr 91 = .ok (.goto 8, 3) := by decide +kernel
theorem dX11_bestPitOr_94 : decode cX11_bestPitOr 94 = .ok (.iload 4, 2) := by decide +kernel
theorem dX11_bestPitOr_96 : decode cX11_bestPitOr 96 = .ok (.invokestatic 269, 3) := by decide +kernel
theorem dX11_bestPitOr_99 : decode cX11_bestPitOr 99 = .ok (.ireturn, 1) := by decide +kernel
theorem dX11_choosePit_0 : decode cX11_choosePit 0 = .ok (.aload_n 0, 1) := by decide +kernel
theorem dX11_choosePit_1 : decode cX11_choosePit 1 = .ok (.getfield 79, 3) := by decide +kernel
theorem dX11_choosePit_4 : decode cX11_choosePit 4 = .ok (.aload_n 0, 1) := by decide +kernel
theorem dX11_choosePit_5 : decode cX11_choosePit 5 = .ok (.getfield 26, 3) := by decide +kernel
theorem dX11_choosePit_8 : decode cX11_choosePit 8 = .ok (.getfield 136, 3) := by decide +kernel
theorem dX11_choosePit_11 : decode cX11_choosePit 11 = .ok (.aaload, 1) := by decide +kernel
theorem dX11_choosePit_12 : decode cX11_choosePit 12 = .ok (.astore_n 1, 1) := by decide +kernel
theorem dX11_choosePit_13 : decode cX11_choosePit 13 = .ok (.aload_n 1, 1) := by decide +kernel
theorem dX11_choosePit_14 : decode cX11_choosePit 14 = .ok (.getfield 360, 3) := by decide +kernel
theorem dX11_choosePit_17 : decode cX11_choosePit 17 = .ok (.tableswitch 67 1 3 #[27, 35, 48], 27) := by decide +kernel
theorem dX11_choosePit_44 : decode cX11_choosePit 44 = .ok (.aload_n 0, 1) := by decide +kernel
theorem dX11_choosePit_45 : decode cX11_choosePit 45 = .ok (.getfield 35, 3) := by decide +kernel
theorem dX11_choosePit_48 : decode cX11_choosePit 48 = .ok (.invokevirtual 361, 3) := by decide +kernel
theorem dX11_choosePit_51 : decode cX11_choosePit 51 = .ok (.ireturn, 1) := by decide +kernel
theorem dX11_choosePit_52 : decode cX11_choosePit 52 = .ok (.aload_n 0, 1) := by decide +kernel
theorem dX11_choosePit_53 : decode cX11_choosePit 53 = .ok (.aload_n 0, 1) := by decide +kernel
theorem dX11_choosePit_54 : decode cX11_choosePit 54 = .ok (.getfield 35, 3) := by decide +kernel
theorem dX11_choosePit_57 : decode cX11_choosePit 57 = .ok (.iconst 0, 1) := by decide +kernel
theorem dX11_choosePit_58 : decode cX11_choosePit 58 = .ok (.invokevirtual 364, 3) := by decide +kernel
theorem dX11_choosePit_61 : decode cX11_choosePit 61 = .ok (.invokevirtual 367, 3) := by decide +kernel
theorem dX11_choosePit_64 : decode cX11_choosePit 64 = .ok (.ireturn, 1) := by decide +kernel
theorem dX11_choosePit_65 : decode cX11_choosePit 65 = .ok (.aload_n 0, 1) := by decide +kernel
theorem dX11_choosePit_66 : decode cX11_choosePit 66 = .ok (.getfield 35, 3) := by decide +kernel
theorem dX11_choosePit_69 : decode cX11_choosePit 69 = .ok (.aload_n 1, 1) := by decide +kernel
theorem dX11_choosePit_70 : decode cX11_choosePit 70 = .ok (.aload_n 0, 1) := by decide +kernel
theorem dX11_choosePit_71 : decode cX11_choosePit 71 = .ok (.getfield 35, 3) := by decide +kernel
theorem dX11_choosePit_74 : decode cX11_choosePit 74 = .ok (.getfield 370, 3) := by decide +kernel
theorem dX11_choosePit_77 : decode cX11_choosePit 77 = .ok (.invokevirtual 373, 3) := by decide +kernel
theorem dX11_choosePit_80 : decode cX11_choosePit 80 = .ok (.invokevirtual 364, 3) := by decide +kernel
theorem dX11_choosePit_83 : decode cX11_choosePit 83 = .ok (.ireturn, 1) := by decide +kernel
theorem dX11_choosePit_84 : decode cX11_choosePit 84 = .ok (.aload_n 0, 1) := by decide +kernel
theorem dX11_choosePit_85 : decode cX11_choosePit 85 = .ok (.getfield 35, 3) := by decide +kernel
theorem dX11_choosePit_88 : decode cX11_choosePit 88 = .ok (.iconst 0, 1) := by decide +kernel
theorem dX11_choosePit_89 : decode cX11_choosePit 89 = .ok (.invokevirtual 364, 3) := by decide +kernel
theorem dX11_choosePit_92 : decode cX11_choosePit 92 = .ok (.ireturn, 1) := by decide +kernel
theorem dX11_play_0 : decode cX11_play 0 = .ok (.iload_n 1, 1) := by decide +kernel
theorem dX11_play_1 : decode cX11_play 1 = .ok (.ifCond .lt 10, 3) := by decide +kernel
theorem dX11_play_4 : decode cX11_play 4 = .ok (.iload_n 1, 1) := by decide +kernel
theorem dX11_play_5 : decode cX11_play 5 = .ok (.sipush 1000, 3) := by decide +kernel
theorem dX11_play_8 : decode cX11_play 8 = .ok (.if_icmp .le 10, 3) := by decide +kernel
theorem dX11_play_11 : decode cX11_play 11 = .ok (.aload_n 0, 1) := by decide +kernel
theorem dX11_play_12 : decode cX11_play 12 = .ok (.bipush 7, 2) := by decide +kernel
theorem dX11_play_14 : decode cX11_play 14 = .ok (.invokevirtual 91, 3) := by decide +kernel
theorem dX11_play_17 : decode cX11_play 17 = .ok (.ireturn, 1) := by decide +kernel
theorem dX11_play_18 : decode cX11_play 18 = .ok (.iconst 0, 1) := by decide +kernel
theorem dX11_play_19 : decode cX11_play 19 = .ok (.istore_n 2, 1) := by decide +kernel
theorem dX11_play_20 : decode cX11_play 20 = .ok (.iload_n 2, 1) := by decide +kernel
theorem dX11_play_21 : decode cX11_play 21 = .ok (.iload_n 1, 1) := by decide +kernel
theorem dX11_play_22 : decode cX11_play 22 = .ok (.if_icmp .ge 37, 3) := by decide +kernel
theorem dX11_play_25 : decode cX11_play 25 = .ok (.aload_n 0, 1) := by decide +kernel
theorem dX11_play_26 : decode cX11_play 26 = .ok (.getfield 51, 3) := by decide +kernel
theorem dX11_play_29 : decode cX11_play 29 = .ok (.getfield 164, 3) := by decide +kernel
theorem dX11_play_32 : decode cX11_play 32 = .ok (.sipush 1000, 3) := by decide +kernel
theorem dX11_play_35 : decode cX11_play 35 = .ok (.if_icmp .ge 24, 3) := by decide +kernel
theorem dX11_play_38 : decode cX11_play 38 = .ok (.aload_n 0, 1) := by decide +kernel
theorem dX11_play_39 : decode cX11_play 39 = .ok (.invokevirtual 210, 3) := by decide +kernel
theorem dX11_play_42 : decode cX11_play 42 = .ok (.ifCond .le 17, 3) := by decide +kernel
theorem dX11_play_45 : decode cX11_play 45 = .ok (.aload_n 0, 1) := by decide +kernel
theorem dX11_play_46 : decode cX11_play 46 = .ok (.aload_n 0, 1) := by decide +kernel
theorem dX11_play_47 : decode cX11_play 47 = .ok (.invokevirtual 323, 3) := by decide +kernel
theorem dX11_play_50 : decode cX11_play 50 = .ok (.invokevirtual 178, 3) := by decide +kernel
theorem dX11_play_53 : decode cX11_play 53 = .ok (.iinc 2 1, 3) := by decide +kernel
theorem dX11_play_56 : decode cX11_play 56 = .ok (.goto (-36), 3) := by decide +kernel
theorem dX11_play_59 : decode cX11_play 59 = .ok (.aload_n 0, 1) := by decide +kernel
theorem dX11_play_60 : decode cX11_play 60 = .ok (.iload_n 2, 1) := by decide +kernel
theorem dX11_play_61 : decode cX11_play 61 = .ok (.invokevirtual 98, 3) := by decide +kernel
theorem dX11_play_64 : decode cX11_play 64 = .ok (.ireturn, 1) := by decide +kernel
theorem dX11_status_0 : decode cX11_status 0 = .ok (.aload_n 0, 1) := by decide +kernel
theorem dX11_status_1 : decode cX11_status 1 = .ok (.getfield 83, 3) := by decide +kernel
theorem dX11_status_4 : decode cX11_status 4 = .ok (.ireturn, 1) := by decide +kernel
theorem dX11_digest_0 : decode cX11_digest 0 = .ok (.ldc2_w 326, 3) := by decide +kernel
theorem dX11_digest_3 : decode cX11_digest 3 = .ok (.lstore_n 1, 1) := by decide +kernel
theorem dX11_digest_4 : decode cX11_digest 4 = .ok (.iconst 0, 1) := by decide +kernel
theorem dX11_digest_5 : decode cX11_digest 5 = .ok (.istore_n 3, 1) := by decide +kernel
theorem dX11_digest_6 : decode cX11_digest 6 = .ok (.iload_n 3, 1) := by decide +kernel
theorem dX11_digest_7 : decode cX11_digest 7 = .ok (.aload_n 0, 1) := by decide +kernel
theorem dX11_digest_8 : decode cX11_digest 8 = .ok (.getfield 12, 3) := by decide +kernel
theorem dX11_digest_11 : decode cX11_digest 11 = .ok (.getfield 95, 3) := by decide +kernel
theorem dX11_digest_14 : decode cX11_digest 14 = .ok (.if_icmp .ge 42, 3) := by decide +kernel
theorem dX11_digest_17 : decode cX11_digest 17 = .ok (.lload_n 1, 1) := by decide +kernel
theorem dX11_digest_18 : decode cX11_digest 18 = .ok (.ldc2_w 328, 3) := by decide +kernel
theorem dX11_digest_21 : decode cX11_digest 21 = .ok (.lmul, 1) := by decide +kernel
theorem dX11_digest_22 : decode cX11_digest 22 = .ok (.aload_n 0, 1) := by decide +kernel
theorem dX11_digest_23 : decode cX11_digest 23 = .ok (.getfield 12, 3) := by decide +kernel
theorem dX11_digest_26 : decode cX11_digest 26 = .ok (.getfield 330, 3) := by decide +kernel
theorem dX11_digest_29 : decode cX11_digest 29 = .ok (.iload_n 3, 1) := by decide +kernel
theorem dX11_digest_30 : decode cX11_digest 30 = .ok (.baload, 1) := by decide +kernel
theorem dX11_digest_31 : decode cX11_digest 31 = .ok (.ifCond .eq 7, 3) := by decide +kernel
theorem dX11_digest_34 : decode cX11_digest 34 = .ok (.iconst (-1), 1) := by decide +kernel
theorem dX11_digest_35 : decode cX11_digest 35 = .ok (.goto 12, 3) := by decide +kernel
theorem dX11_digest_38 : decode cX11_digest 38 = .ok (.aload_n 0, 1) := by decide +kernel
theorem dX11_digest_39 : decode cX11_digest 39 = .ok (.getfield 26, 3) := by decide +kernel
theorem dX11_digest_42 : decode cX11_digest 42 = .ok (.getfield 108, 3) := by decide +kernel
theorem dX11_digest_45 : decode cX11_digest 45 = .ok (.iload_n 3, 1) := by decide +kernel
theorem dX11_digest_46 : decode cX11_digest 46 = .ok (.iaload, 1) := by decide +kernel
theorem dX11_digest_47 : decode cX11_digest 47 = .ok (.i2l, 1) := by decide +kernel
theorem dX11_digest_48 : decode cX11_digest 48 = .ok (.ladd, 1) := by decide +kernel
theorem dX11_digest_49 : decode cX11_digest 49 = .ok (.lstore_n 1, 1) := by decide +kernel
theorem dX11_digest_50 : decode cX11_digest 50 = .ok (.iinc 3 1, 3) := by decide +kernel
theorem dX11_digest_53 : decode cX11_digest 53 = .ok (.goto (-47), 3) := by decide +kernel
theorem dX11_digest_56 : decode cX11_digest 56 = .ok (.lload_n 1, 1) := by decide +kernel
theorem dX11_digest_57 : decode cX11_digest 57 = .ok (.ldc2_w 328, 3) := by decide +kernel
theorem dX11_digest_60 : decode cX11_digest 60 = .ok (.lmul, 1) := by decide +kernel
theorem dX11_digest_61 : decode cX11_digest 61 = .ok (.aload_n 0, 1) := by decide +kernel
theorem dX11_digest_62 : decode cX11_digest 62 = .ok (.getfield 26, 3) := by decide +kernel
theorem dX11_digest_65 : decode cX11_digest 65 = .ok (.getfield 133, 3) := by decide +kernel
theorem dX11_digest_68 : decode cX11_digest 68 = .ok (.iconst 0, 1) := by decide +kernel
theorem dX11_digest_69 : decode cX11_digest 69 = .ok (.iaload, 1) := by decide +kernel
theorem dX11_digest_70 : decode cX11_digest 70 = .ok (.i2l, 1) := by decide +kernel
theorem dX11_digest_71 : decode cX11_digest 71 = .ok (.ladd, 1) := by decide +kernel
theorem dX11_digest_72 : decode cX11_digest 72 = .ok (.lstore_n 1, 1) := by decide +kernel
theorem dX11_digest_73 : decode cX11_digest 73 = .ok (.lload_n 1, 1) := by decide +kernel
theorem dX11_digest_74 : decode cX11_digest 74 = .ok (.ldc2_w 328, 3) := by decide +kernel
theorem dX11_digest_77 : decode cX11_digest 77 = .ok (.lmul, 1) := by decide +kernel
theorem dX11_digest_78 : decode cX11_digest 78 = .ok (.aload_n 0, 1) := by decide +kernel
theorem dX11_digest_79 : decode cX11_digest 79 = .ok (.getfield 26, 3) := by decide +kernel
theorem dX11_digest_82 : decode cX11_digest 82 = .ok (.getfield 133, 3) := by decide +kernel
theorem dX11_digest_85 : decode cX11_digest 85 = .ok (.iconst 1, 1) := by decide +kernel
theorem dX11_digest_86 : decode cX11_digest 86 = .ok (.iaload, 1) := by decide +kernel
theorem dX11_digest_87 : decode cX11_digest 87 = .ok (.i2l, 1) := by decide +kernel
theorem dX11_digest_88 : decode cX11_digest 88 = .ok (.ladd, 1) := by decide +kernel
theorem dX11_digest_89 : decode cX11_digest 89 = .ok (.lstore_n 1, 1) := by decide +kernel
theorem dX11_digest_90 : decode cX11_digest 90 = .ok (.aload_n 0, 1) := by decide +kernel
theorem dX11_digest_91 : decode cX11_digest 91 = .ok (.invokevirtual 210, 3) := by decide +kernel
theorem dX11_digest_94 : decode cX11_digest 94 = .ok (.istore_n 3, 1) := by decide +kernel
theorem dX11_digest_95 : decode cX11_digest 95 = .ok (.lload_n 1, 1) := by decide +kernel
theorem dX11_digest_96 : decode cX11_digest 96 = .ok (.ldc2_w 328, 3) := by decide +kernel
theorem dX11_digest_99 : decode cX11_digest 99 = .ok (.lmul, 1) := by decide +kernel
theorem dX11_digest_100 : decode cX11_digest 100 = .ok (.aload_n 0, 1) := by decide +kernel
theorem dX11_digest_101 : decode cX11_digest 101 = .ok (.getfield 26, 3) := by decide +kernel
theorem dX11_digest_104 : decode cX11_digest 104 = .ok (.getfield 136, 3) := by decide +kernel
theorem dX11_digest_107 : decode cX11_digest 107 = .ok (.i2l, 1) := by decide +kernel
theorem dX11_digest_108 : decode cX11_digest 108 = .ok (.ladd, 1) := by decide +kernel
theorem dX11_digest_109 : decode cX11_digest 109 = .ok (.lstore_n 1, 1) := by decide +kernel
theorem dX11_digest_110 : decode cX11_digest 110 = .ok (.lload_n 1, 1) := by decide +kernel
theorem dX11_digest_111 : decode cX11_digest 111 = .ok (.ldc2_w 328, 3) := by decide +kernel
theorem dX11_digest_114 : decode cX11_digest 114 = .ok (.lmul, 1) := by decide +kernel
theorem dX11_digest_115 : decode cX11_digest 115 = .ok (.iload_n 3, 1) := by decide +kernel
theorem dX11_digest_116 : decode cX11_digest 116 = .ok (.ifCond .ne 7, 3) := by decide +kernel
theorem dX11_digest_119 : decode cX11_digest 119 = .ok (.iconst 1, 1) := by decide +kernel
theorem dX11_digest_120 : decode cX11_digest 120 = .ok (.goto 4, 3) := by decide +kernel
theorem dX11_digest_123 : decode cX11_digest 123 = .ok (.iconst 0, 1) := by decide +kernel
theorem dX11_digest_124 : decode cX11_digest 124 = .ok (.i2l, 1) := by decide +kernel
theorem dX11_digest_125 : decode cX11_digest 125 = .ok (.ladd, 1) := by decide +kernel
theorem dX11_digest_126 : decode cX11_digest 126 = .ok (.lstore_n 1, 1) := by decide +kernel
theorem dX11_digest_127 : decode cX11_digest 127 = .ok (.lload_n 1, 1) := by decide +kernel
theorem dX11_digest_128 : decode cX11_digest 128 = .ok (.ldc2_w 328, 3) := by decide +kernel
theorem dX11_digest_131 : decode cX11_digest 131 = .ok (.lmul, 1) := by decide +kernel
theorem dX11_digest_132 : decode cX11_digest 132 = .ok (.aload_n 0, 1) := by decide +kernel
theorem dX11_digest_133 : decode cX11_digest 133 = .ok (.getfield 51, 3) := by decide +kernel
theorem dX11_digest_136 : decode cX11_digest 136 = .ok (.getfield 164, 3) := by decide +kernel
theorem dX11_digest_139 : decode cX11_digest 139 = .ok (.i2l, 1) := by decide +kernel
theorem dX11_digest_140 : decode cX11_digest 140 = .ok (.ladd, 1) := by decide +kernel
theorem dX11_digest_141 : decode cX11_digest 141 = .ok (.lstore_n 1, 1) := by decide +kernel
theorem dX11_digest_142 : decode cX11_digest 142 = .ok (.lload_n 1, 1) := by decide +kernel
theorem dX11_digest_143 : decode cX11_digest 143 = .ok (.ldc2_w 328, 3) := by decide +kernel
theorem dX11_digest_146 : decode cX11_digest 146 = .ok (.lmul, 1) := by decide +kernel
theorem dX11_digest_147 : decode cX11_digest 147 = .ok (.iload_n 3, 1) := by decide +kernel
theorem dX11_digest_148 : decode cX11_digest 148 = .ok (.i2l, 1) := by decide +kernel
theorem dX11_digest_149 : decode cX11_digest 149 = .ok (.ladd, 1) := by decide +kernel
theorem dX11_digest_150 : decode cX11_digest 150 = .ok (.lstore_n 1, 1) := by decide +kernel
theorem dX11_digest_151 : decode cX11_digest 151 = .ok (.lload_n 1, 1) := by decide +kernel
theorem dX11_digest_152 : decode cX11_digest 152 = .ok (.ldc2_w 328, 3) := by decide +kernel
theorem dX11_digest_155 : decode cX11_digest 155 = .ok (.lmul, 1) := by decide +kernel
theorem dX11_digest_156 : decode cX11_digest 156 = .ok (.aload_n 0, 1) := by decide +kernel
theorem dX11_digest_157 : decode cX11_digest 157 = .ok (.iconst 0, 1) := by decide +kernel
theorem dX11_digest_158 : decode cX11_digest 158 = .ok (.invokevirtual 207, 3) := by decide +kernel
theorem dX11_digest_161 : decode cX11_digest 161 = .ok (.i2l, 1) := by decide +kernel
theorem dX11_digest_162 : decode cX11_digest 162 = .ok (.ladd, 1) := by decide +kernel
theorem dX11_digest_163 : decode cX11_digest 163 = .ok (.lstore_n 1, 1) := by decide +kernel
theorem dX11_digest_164 : decode cX11_digest 164 = .ok (.lload_n 1, 1) := by decide +kernel
theorem dX11_digest_165 : decode cX11_digest 165 = .ok (.ldc2_w 328, 3) := by decide +kernel
theorem dX11_digest_168 : decode cX11_digest 168 = .ok (.lmul, 1) := by decide +kernel
theorem dX11_digest_169 : decode cX11_digest 169 = .ok (.aload_n 0, 1) := by decide +kernel
theorem dX11_digest_170 : decode cX11_digest 170 = .ok (.iconst 1, 1) := by decide +kernel
theorem dX11_digest_171 : decode cX11_digest 171 = .ok (.invokevirtual 207, 3) := by decide +kernel
theorem dX11_digest_174 : decode cX11_digest 174 = .ok (.i2l, 1) := by decide +kernel
theorem dX11_digest_175 : decode cX11_digest 175 = .ok (.ladd, 1) := by decide +kernel
theorem dX11_digest_176 : decode cX11_digest 176 = .ok (.lstore_n 1, 1) := by decide +kernel
theorem dX11_digest_177 : decode cX11_digest 177 = .ok (.aload_n 0, 1) := by decide +kernel
theorem dX11_digest_178 : decode cX11_digest 178 = .ok (.getfield 65, 3) := by decide +kernel
theorem dX11_digest_181 : decode cX11_digest 181 = .ok (.getfield 248, 3) := by decide +kernel
theorem dX11_digest_184 : decode cX11_digest 184 = .ok (.ifCond .eq 14, 3) := by decide +kernel
theorem dX11_digest_187 : decode cX11_digest 187 = .ok (.aload_n 0, 1) := by decide +kernel
theorem dX11_digest_188 : decode cX11_digest 188 = .ok (.getfield 65, 3) := by decide +kernel
theorem dX11_digest_191 : decode cX11_digest 191 = .ok (.lload_n 1, 1) := by decide +kernel
theorem dX11_digest_192 : decode cX11_digest 192 = .ok (.invokevirtual 333, 3) := by decide +kernel
theorem dX11_digest_195 : decode cX11_digest 195 = .ok (.goto 4, 3) := by decide +kernel
theorem dX11_digest_198 : decode cX11_digest 198 = .ok (.lload_n 1, 1) := by decide +kernel
theorem dX11_digest_199 : decode cX11_digest 199 = .ok (.lreturn, 1) := by decide +kernel
theorem dX12_fresh_0 : decode cX12_fresh 0 = .ok (.aload_n 0, 1) := by decide +kernel
theorem dX12_fresh_1 : decode cX12_fresh 1 = .ok (.iload_n 1, 1) := by decide +kernel
theorem dX12_fresh_2 : decode cX12_fresh 2 = .ok (.putfield 89, 3) := by decide +kernel
theorem dX12_fresh_5 : decode cX12_fresh 5 = .ok (.aload_n 0, 1) := by decide +kernel
theorem dX12_fresh_6 : decode cX12_fresh 6 = .ok (.iload_n 2, 1) := by decide +kernel
theorem dX12_fresh_7 : decode cX12_fresh 7 = .ok (.putfield 93, 3) := by decide +kernel
theorem dX12_fresh_10 : decode cX12_fresh 10 = .ok (.iconst 0, 1) := by decide +kernel
theorem dX12_fresh_11 : decode cX12_fresh 11 = .ok (.istore_n 3, 1) := by decide +kernel
theorem dX12_fresh_12 : decode cX12_fresh 12 = .ok (.iconst 0, 1) := by decide +kernel
theorem dX12_fresh_13 : decode cX12_fresh 13 = .ok (.istore 4, 2) := by decide +kernel
theorem dX12_fresh_15 : decode cX12_fresh 15 = .ok (.iload 4, 2) := by decide +kernel
theorem dX12_fresh_17 : decode cX12_fresh 17 = .ok (.aload_n 0, 1) := by decide +kernel
theorem dX12_fresh_18 : decode cX12_fresh 18 = .ok (.getfield 89, 3) := by decide +kernel
theorem dX12_fresh_21 : decode cX12_fresh 21 = .ok (.if_icmp .ge 77, 3) := by decide +kernel
theorem dX12_fresh_24 : decode cX12_fresh 24 = .ok (.iconst 0, 1) := by decide +kernel
theorem dX12_fresh_25 : decode cX12_fresh 25 = .ok (.istore 5, 2) := by decide +kernel
theorem dX12_fresh_27 : decode cX12_fresh 27 = .ok (.iload 5, 2) := by decide +kernel
theorem dX12_fresh_29 : decode cX12_fresh 29 = .ok (.aload_n 0, 1) := by decide +kernel
theorem dX12_fresh_30 : decode cX12_fresh 30 = .ok (.getfield 93, 3) := by decide +kernel
theorem dX12_fresh_33 : decode cX12_fresh 33 = .ok (.if_icmp .ge 59, 3) := by decide +kernel
theorem dX12_fresh_36 : decode cX12_fresh 36 = .ok (.iload 4, 2) := by decide +kernel
theorem dX12_fresh_38 : decode cX12_fresh 38 = .ok (.aload_n 0, 1) := by decide +kernel
theorem dX12_fresh_39 : decode cX12_fresh 39 = .ok (.getfield 93, 3) := by decide +kernel
theorem dX12_fresh_42 : decode cX12_fresh 42 = .ok (.imul, 1) := by decide +kernel
theorem dX12_fresh_43 : decode cX12_fresh 43 = .ok (.iload 4, 2) := by decide +kernel
theorem dX12_fresh_45 : decode cX12_fresh 45 = .ok (.iconst 2, 1) := by decide +kernel
theorem dX12_fresh_46 : decode cX12_fresh 46 = .ok (.irem, 1) := by decide +kernel
theorem dX12_fresh_47 : decode cX12_fresh 47 = .ok (.ifCond .ne 8, 3) := by decide +kernel
theorem dX12_fresh_50 : decode cX12_fresh 50 = .ok (.iload 5, 2) := by decide +kernel
theorem dX12_fresh_52 : decode cX12_fresh 52 = .ok (.goto 12, 3) := by decide +kernel
theorem dX12_fresh_55 : decode cX12_fresh 55 = .ok (.aload_n 0, 1) := by decide +kernel
theorem dX12_fresh_56 : decode cX12_fresh 56 = .ok (.getfield 93, 3) := by decide +kernel
theorem dX12_fresh_59 : decode cX12_fresh 59 = .ok (.iconst 1, 1) := by decide +kernel
theorem dX12_fresh_60 : decode cX12_fresh 60 = .ok (.isub, 1) := by decide +kernel
theorem dX12_fresh_61 : decode cX12_fresh 61 = .ok (.iload 5, 2) := by decide +kernel
theorem dX12_fresh_63 : decode cX12_fresh 63 = .ok (.isub, 1) := by decide +kernel
theorem dX12_fresh_64 : decode cX12_fresh 64 = .ok (.iadd, 1) := by decide +kernel
theorem dX12_fresh_65 : decode cX12_fresh 65 = .ok (.istore 6, 2) := by decide +kernel
theorem dX12_fresh_67 : decode cX12_fresh 67 = .ok (.aload_n 0, 1) := by decide +kernel
theorem dX12_fresh_68 : decode cX12_fresh 68 = .ok (.getfield 20, 3) := by decide +kernel
theorem dX12_fresh_71 : decode cX12_fresh 71 = .ok (.iload_n 3, 1) := by decide +kernel
theorem dX12_fresh_72 : decode cX12_fresh 72 = .ok (.iload 6, 2) := by decide +kernel
theorem dX12_fresh_74 : decode cX12_fresh 74 = .ok (.iastore, 1) := by decide +kernel
theorem dX12_fresh_75 : decode cX12_fresh 75 = .ok (.aload_n 0, 1) := by decide +kernel
theorem dX12_fresh_76 : decode cX12_fresh 76 = .ok (.getfield 23, 3) := by decide +kernel
theorem dX12_fresh_79 : decode cX12_fresh 79 = .ok (.iload 6, 2) := by decide +kernel
theorem dX12_fresh_81 : decode cX12_fresh 81 = .ok (.iload_n 3, 1) := by decide +kernel
theorem dX12_fresh_82 : decode cX12_fresh 82 = .ok (.iastore, 1) := by decide +kernel
theorem dX12_fresh_83 : decode cX12_fresh 83 = .ok (.iinc 3 1, 3) := by decide +kernel
theorem dX12_fresh_86 : decode cX12_fresh 86 = .ok (.iinc 5 1, 3) := by decide +kernel
theorem dX12_fresh_89 : decode cX12_fresh 89 = .ok (.goto (-62), 3) := by decide +kernel
theorem dX12_fresh_92 : decode cX12_fresh 92 = .ok (.iinc 4 1, 3) := by decide +kernel
theorem dX12_fresh_95 : decode cX12_fresh 95 = .ok (.goto (-80), 3) := by decide +kernel
theorem dX12_fresh_98 : decode cX12_fresh 98 = .ok (.iconst 0, 1) := by decide +kernel
theorem dX12_fresh_99 : decode cX12_fresh 99 = .ok (.istore 4, 2) := by decide +kernel
theorem dX12_fresh_101 : decode cX12_fresh 101 = .ok (.iload 4, 2) := by decide +kernel
theorem dX12_fresh_103 : decode cX12_fresh 103 = .ok (.bipush 32, 2) := by decide +kernel
theorem dX12_fresh_105 : decode cX12_fresh 105 = .ok (.if_icmp .ge 25, 3) := by decide +kernel
theorem dX12_fresh_108 : decode cX12_fresh 108 = .ok (.aload_n 0, 1) := by decide +kernel
theorem dX12_fresh_109 : decode cX12_fresh 109 = .ok (.getfield 9, 3) := by decide +kernel
theorem dX12_fresh_112 : decode cX12_fresh 112 = .ok (.iload 4, 2) := by decide +kernel
theorem dX12_fresh_114 : decode cX12_fresh 114 = .ok (.iconst 0, 1) := by decide +kernel
theorem dX12_fresh_115 : decode cX12_fresh 115 = .ok (.bastore, 1) := by decide +kernel
theorem dX12_fresh_116 : decode cX12_fresh 116 = .ok (.aload_n 0, 1) := by decide +kernel
theorem dX12_fresh_117 : decode cX12_fresh 117 = .ok (.getfield 13, 3) := by decide +kernel
theorem dX12_fresh_120 : decode cX12_fresh 120 = .ok (.iload 4, 2) := by decide +kernel
theorem dX12_fresh_122 : decode cX12_fresh 122 = .ok (.iconst 0, 1) := by decide +kernel
theorem dX12_fresh_123 : decode cX12_fresh 123 = .ok (.iastore, 1) := by decide +kernel
theorem dX12_fresh_124 : decode cX12_fresh 124 = .ok (.iinc 4 1, 3) := by decide +kernel
theorem dX12_fresh_127 : decode cX12_fresh 127 = .ok (.goto (-26), 3) := by decide +kernel
theorem dX12_fresh_130 : decode cX12_fresh 130 = .ok (.aload_n 0, 1) := by decide +kernel
theorem dX12_fresh_131 : decode cX12_fresh 131 = .ok (.getfield 17, 3) := by decide +kernel
theorem dX12_fresh_134 : decode cX12_fresh 134 = .ok (.iconst 0, 1) := by decide +kernel
theorem dX12_fresh_135 : decode cX12_fresh 135 = .ok (.iconst 0, 1) := by decide +kernel
theorem dX12_fresh_136 : decode cX12_fresh 136 = .ok (.iastore, 1) := by decide +kernel
theorem dX12_fresh_137 : decode cX12_fresh 137 = .ok (.aload_n 0, 1) := by decide +kernel
theorem dX12_fresh_138 : decode cX12_fresh 138 = .ok (.getfield 17, 3) := by decide +kernel
theorem dX12_fresh_141 : decode cX12_fresh 141 = .ok (.iconst 1, 1) := by decide +kernel
theorem dX12_fresh_142 : decode cX12_fresh 142 = .ok (.iconst 0, 1) := by decide +kernel
theorem dX12_fresh_143 : decode cX12_fresh 143 = .ok (.iastore, 1) := by decide +kernel
theorem dX12_fresh_144 : decode cX12_fresh 144 = .ok (.aload_n 0, 1) := by decide +kernel
theorem dX12_fresh_145 : decode cX12_fresh 145 = .ok (.iconst 0, 1) := by decide +kernel
theorem dX12_fresh_146 : decode cX12_fresh 146 = .ok (.putfield 96, 3) := by decide +kernel
theorem dX12_fresh_149 : decode cX12_fresh 149 = .ok (.aload_n 0, 1) := by decide +kernel
theorem dX12_fresh_150 : decode cX12_fresh 150 = .ok (.iconst 0, 1) := by decide +kernel
theorem dX12_fresh_151 : decode cX12_fresh 151 = .ok (.putfield 99, 3) := by decide +kernel
theorem dX12_fresh_154 : decode cX12_fresh 154 = .ok (.aload_n 0, 1) := by decide +kernel
theorem dX12_fresh_155 : decode cX12_fresh 155 = .ok (.bipush 10, 2) := by decide +kernel
theorem dX12_fresh_157 : decode cX12_fresh 157 = .ok (.putfield 102, 3) := by decide +kernel
theorem dX12_fresh_160 : decode cX12_fresh 160 = .ok (.aload_n 0, 1) := by decide +kernel
theorem dX12_fresh_161 : decode cX12_fresh 161 = .ok (.iconst 2, 1) := by decide +kernel
theorem dX12_fresh_162 : decode cX12_fresh 162 = .ok (.putfield 105, 3) := by decide +kernel
theorem dX12_fresh_165 : decode cX12_fresh 165 = .ok (.aload_n 0, 1) := by decide +kernel
theorem dX12_fresh_166 : decode cX12_fresh 166 = .ok (.iconst 3, 1) := by decide +kernel
theorem dX12_fresh_167 : decode cX12_fresh 167 = .ok (.putfield 108, 3) := by decide +kernel
theorem dX12_fresh_170 : decode cX12_fresh 170 = .ok (.aload_n 0, 1) := by decide +kernel
theorem dX12_fresh_171 : decode cX12_fresh 171 = .ok (.iconst 1, 1) := by decide +kernel
theorem dX12_fresh_172 : decode cX12_fresh 172 = .ok (.putfield 111, 3) := by decide +kernel
theorem dX12_fresh_175 : decode cX12_fresh 175 = .ok (.aload_n 0, 1) := by decide +kernel
theorem dX12_fresh_176 : decode cX12_fresh 176 = .ok (.iconst 0, 1) := by decide +kernel
theorem dX12_fresh_177 : decode cX12_fresh 177 = .ok (.putfield 114, 3) := by decide +kernel
theorem dX12_fresh_180 : decode cX12_fresh 180 = .ok (.aload_n 0, 1) := by decide +kernel
theorem dX12_fresh_181 : decode cX12_fresh 181 = .ok (.iconst 0, 1) := by decide +kernel
theorem dX12_fresh_182 : decode cX12_fresh 182 = .ok (.putfield 118, 3) := by decide +kernel
theorem dX12_fresh_185 : decode cX12_fresh 185 = .ok (.aload_n 0, 1) := by decide +kernel
theorem dX12_fresh_186 : decode cX12_fresh 186 = .ok (.iconst 0, 1) := by decide +kernel
theorem dX12_fresh_187 : decode cX12_fresh 187 = .ok (.putfield 121, 3) := by decide +kernel
theorem dX12_fresh_190 : decode cX12_fresh 190 = .ok (.aload_n 0, 1) := by decide +kernel
theorem dX12_fresh_191 : decode cX12_fresh 191 = .ok (.iconst 0, 1) := by decide +kernel
theorem dX12_fresh_192 : decode cX12_fresh 192 = .ok (.putfield 124, 3) := by decide +kernel
theorem dX12_fresh_195 : decode cX12_fresh 195 = .ok (.aload_n 0, 1) := by decide +kernel
theorem dX12_fresh_196 : decode cX12_fresh 196 = .ok (.iconst 0, 1) := by decide +kernel
theorem dX12_fresh_197 : decode cX12_fresh 197 = .ok (.putfield 127, 3) := by decide +kernel
theorem dX12_fresh_200 : decode cX12_fresh 200 = .ok (.aload_n 0, 1) := by decide +kernel
theorem dX12_fresh_201 : decode cX12_fresh 201 = .ok (.iconst 0, 1) := by decide +kernel
theorem dX12_fresh_202 : decode cX12_fresh 202 = .ok (.putfield 130, 3) := by decide +kernel
theorem dX12_fresh_205 : decode cX12_fresh 205 = .ok (.iconst 0, 1) := by decide +kernel
theorem dX12_fresh_206 : decode cX12_fresh 206 = .ok (.istore 4, 2) := by decide +kernel
theorem dX12_fresh_208 : decode cX12_fresh 208 = .ok (.iload 4, 2) := by decide +kernel
theorem dX12_fresh_210 : decode cX12_fresh 210 = .ok (.iconst 2, 1) := by decide +kernel
theorem dX12_fresh_211 : decode cX12_fresh 211 = .ok (.if_icmp .ge 17, 3) := by decide +kernel
theorem dX12_fresh_214 : decode cX12_fresh 214 = .ok (.aload_n 0, 1) := by decide +kernel
theorem dX12_fresh_215 : decode cX12_fresh 215 = .ok (.getfield 78, 3) := by decide +kernel
theorem dX12_fresh_218 : decode cX12_fresh 218 = .ok (.iload 4, 2) := by decide +kernel
theorem dX12_fresh_220 : decode cX12_fresh 220 = .ok (.iconst 0, 1) := by decide +kernel
theorem dX12_fresh_221 : decode cX12_fresh 221 = .ok (.iastore, 1) := by decide +kernel
theorem dX12_fresh_222 : decode cX12_fresh 222 = .ok (.iinc 4 1, 3) := by decide +kernel
theorem dX12_fresh_225 : decode cX12_fresh 225 = .ok (.goto (-17), 3) := by decide +kernel
theorem dX12_fresh_228 : decode cX12_fresh 228 = .ok (.return_, 1) := by decide +kernel
theorem dX12_init_0 : decode cX12_init 0 = .ok (.aload_n 0, 1) := by decide +kernel
theorem dX12_init_1 : decode cX12_init 1 = .ok (.invokespecial 1, 3) := by decide +kernel
theorem dX12_init_4 : decode cX12_init 4 = .ok (.aload_n 0, 1) := by decide +kernel
theorem dX12_init_5 : decode cX12_init 5 = .ok (.bipush 32, 2) := by decide +kernel
theorem dX12_init_7 : decode cX12_init 7 = .ok (.newarray .boolean, 2) := by decide +kernel
theorem dX12_init_9 : decode cX12_init 9 = .ok (.putfield 9, 3) := by decide +kernel
theorem dX12_init_12 : decode cX12_init 12 = .ok (.aload_n 0, 1) := by decide +kernel
theorem dX12_init_13 : decode cX12_init 13 = .ok (.bipush 32, 2) := by decide +kernel
theorem dX12_init_15 : decode cX12_init 15 = .ok (.newarray .int, 2) := by decide +kernel
theorem dX12_init_17 : decode cX12_init 17 = .ok (.putfield 13, 3) := by decide +kernel
theorem dX12_init_20 : decode cX12_init 20 = .ok (.aload_n 0, 1) := by decide +kernel
theorem dX12_init_21 : decode cX12_init 21 = .ok (.iconst 2, 1) := by decide +kernel
theorem dX12_init_22 : decode cX12_init 22 = .ok (.newarray .int, 2) := by decide +kernel
theorem dX12_init_24 : decode cX12_init 24 = .ok (.putfield 17, 3) := by decide +kernel
theorem dX12_init_27 : decode cX12_init 27 = .ok (.aload_n 0, 1) := by decide +kernel
theorem dX12_init_28 : decode cX12_init 28 = .ok (.bipush 32, 2) := by decide +kernel
theorem dX12_init_30 : decode cX12_init 30 = .ok (.newarray .int, 2) := by decide +kernel
theorem dX12_init_32 : decode cX12_init 32 = .ok (.putfield 20, 3) := by decide +kernel
theorem dX12_init_35 : decode cX12_init 35 = .ok (.aload_n 0, 1) := by decide +kernel
theorem dX12_init_36 : decode cX12_init 36 = .ok (.bipush 32, 2) := by decide +kernel
theorem dX12_init_38 : decode cX12_init 38 = .ok (.newarray .int, 2) := by decide +kernel
theorem dX12_init_40 : decode cX12_init 40 = .ok (.putfield 23, 3) := by decide +kernel
theorem dX12_init_43 : decode cX12_init 43 = .ok (.aload_n 0, 1) := by decide +kernel
theorem dX12_init_44 : decode cX12_init 44 = .ok (.bipush 32, 2) := by decide +kernel
theorem dX12_init_46 : decode cX12_init 46 = .ok (.newarray .int, 2) := by decide +kernel
theorem dX12_init_48 : decode cX12_init 48 = .ok (.putfield 26, 3) := by decide +kernel
theorem dX12_init_51 : decode cX12_init 51 = .ok (.aload_n 0, 1) := by decide +kernel
theorem dX12_init_52 : decode cX12_init 52 = .ok (.bipush 32, 2) := by decide +kernel
theorem dX12_init_54 : decode cX12_init 54 = .ok (.newarray .int, 2) := by decide +kernel
theorem dX12_init_56 : decode cX12_init 56 = .ok (.putfield 29, 3) := by decide +kernel
theorem dX12_init_59 : decode cX12_init 59 = .ok (.aload_n 0, 1) := by decide +kernel
theorem dX12_init_60 : decode cX12_init 60 = .ok (.ldc 32, 2) := by decide +kernel
theorem dX12_init_62 : decode cX12_init 62 = .ok (.newarray .int, 2) := by decide +kernel
theorem dX12_init_64 : decode cX12_init 64 = .ok (.putfield 33, 3) := by decide +kernel
theorem dX12_init_67 : decode cX12_init 67 = .ok (.aload_n 0, 1) := by decide +kernel
theorem dX12_init_68 : decode cX12_init 68 = .ok (.ldc 32, 2) := by decide +kernel
theorem dX12_init_70 : decode cX12_init 70 = .ok (.newarray .int, 2) := by decide +kernel
theorem dX12_init_72 : decode cX12_init 72 = .ok (.putfield 36, 3) := by decide +kernel
theorem dX12_init_75 : decode cX12_init 75 = .ok (.aload_n 0, 1) := by decide +kernel
theorem dX12_init_76 : decode cX12_init 76 = .ok (.ldc 32, 2) := by decide +kernel
theorem dX12_init_78 : decode cX12_init 78 = .ok (.newarray .int, 2) := by decide +kernel
theorem dX12_init_80 : decode cX12_init 80 = .ok (.putfield 39, 3) := by decide +kernel
theorem dX12_init_83 : decode cX12_init 83 = .ok (.aload_n 0, 1) := by decide +kernel
theorem dX12_init_84 : decode cX12_init 84 = .ok (.ldc 32, 2) := by decide +kernel
theorem dX12_init_86 : decode cX12_init 86 = .ok (.newarray .int, 2) := by decide +kernel
theorem dX12_init_88 : decode cX12_init 88 = .ok (.putfield 42, 3) := by decide +kernel
theorem dX12_init_91 : decode cX12_init 91 = .ok (.aload_n 0, 1) := by decide +kernel
theorem dX12_init_92 : decode cX12_init 92 = .ok (.ldc 45, 2) := by decide +kernel
theorem dX12_init_94 : decode cX12_init 94 = .ok (.newarray .int, 2) := by decide +kernel
theorem dX12_init_96 : decode cX12_init 96 = .ok (.putfield 46, 3) := by decide +kernel
theorem dX12_init_99 : decode cX12_init 99 = .ok (.aload_n 0, 1) := by decide +kernel
theorem dX12_init_100 : decode cX12_init 100 = .ok (.ldc 49, 2) := by decide +kernel
theorem dX12_init_102 : decode cX12_init 102 = .ok (.newarray .int, 2) := by decide +kernel
theorem dX12_init_104 : decode cX12_init 104 = .ok (.putfield 50, 3) := by decide +kernel
theorem dX12_init_107 : decode cX12_init 107 = .ok (.aload_n 0, 1) := by decide +kernel
theorem dX12_init_108 : decode cX12_init 108 = .ok (.ldc 49, 2) := by decide +kernel
theorem dX12_init_110 : decode cX12_init 110 = .ok (.newarray .int, 2) := by decide +kernel
theorem dX12_init_112 : decode cX12_init 112 = .ok (.putfield 53, 3) := by decide +kernel
theorem dX12_init_115 : decode cX12_init 115 = .ok (.aload_n 0, 1) := by decide +kernel
theorem dX12_init_116 : decode cX12_init 116 = .ok (.ldc 32, 2) := by decide +kernel
theorem dX12_init_118 : decode cX12_init 118 = .ok (.newarray .int, 2) := by decide +kernel
theorem dX12_init_120 : decode cX12_init 120 = .ok (.putfield 56, 3) := by decide +kernel
theorem dX12_init_123 : decode cX12_init 123 = .ok (.aload_n 0, 1) := by decide +kernel
theorem dX12_init_124 : decode cX12_init 124 = .ok (.ldc 32, 2) := by decide +kernel
theorem dX12_init_126 : decode cX12_init 126 = .ok (.newarray .int, 2) := by decide +kernel
theorem dX12_init_128 : decode cX12_init 128 = .ok (.putfield 59, 3) := by decide +kernel
theorem dX12_init_131 : decode cX12_init 131 = .ok (.aload_n 0, 1) := by decide +kernel
theorem dX12_init_132 : decode cX12_init 132 = .ok (.ldc 32, 2) := by decide +kernel
theorem dX12_init_134 : decode cX12_init 134 = .ok (.newarray .int, 2) := by decide +kernel
theorem dX12_init_136 : decode cX12_init 136 = .ok (.putfield 62, 3) := by decide +kernel
theorem dX12_init_139 : decode cX12_init 139 = .ok (.aload_n 0, 1) := by decide +kernel
theorem dX12_init_140 : decode cX12_init 140 = .ok (.bipush 32, 2) := by decide +kernel
theorem dX12_init_142 : decode cX12_init 142 = .ok (.newarray .boolean, 2) := by decide +kernel
theorem dX12_init_144 : decode cX12_init 144 = .ok (.putfield 65, 3) := by decide +kernel
theorem dX12_init_147 : decode cX12_init 147 = .ok (.aload_n 0, 1) := by decide +kernel
theorem dX12_init_148 : decode cX12_init 148 = .ok (.ldc 68, 2) := by decide +kernel
theorem dX12_init_150 : decode cX12_init 150 = .ok (.newarray .int, 2) := by decide +kernel
theorem dX12_init_152 : decode cX12_init 152 = .ok (.putfield 69, 3) := by decide +kernel
theorem dX12_init_155 : decode cX12_init 155 = .ok (.aload_n 0, 1) := by decide +kernel
theorem dX12_init_156 : decode cX12_init 156 = .ok (.sipush 400, 3) := by decide +kernel
theorem dX12_init_159 : decode cX12_init 159 = .ok (.newarray .int, 2) := by decide +kernel
theorem dX12_init_161 : decode cX12_init 161 = .ok (.putfield 72, 3) := by decide +kernel
theorem dX12_init_164 : decode cX12_init 164 = .ok (.aload_n 0, 1) := by decide +kernel
theorem dX12_init_165 : decode cX12_init 165 = .ok (.sipush 401, 3) := by decide +kernel
theorem dX12_init_168 : decode cX12_init 168 = .ok (.newarray .int, 2) := by decide +kernel
theorem dX12_init_170 : decode cX12_init 170 = .ok (.putfield 75, 3) := by decide +kernel
theorem dX12_init_173 : decode cX12_init 173 = .ok (.aload_n 0, 1) := by decide +kernel
theorem dX12_init_174 : decode cX12_init 174 = .ok (.iconst 2, 1) := by decide +kernel
theorem dX12_init_175 : decode cX12_init 175 = .ok (.newarray .int, 2) := by decide +kernel
theorem dX12_init_177 : decode cX12_init 177 = .ok (.putfield 78, 3) := by decide +kernel
theorem dX12_init_180 : decode cX12_init 180 = .ok (.aload_n 0, 1) := by decide +kernel
theorem dX12_init_181 : decode cX12_init 181 = .ok (.iconst 2, 1) := by decide +kernel
theorem dX12_init_182 : decode cX12_init 182 = .ok (.newarray .long, 2) := by decide +kernel
theorem dX12_init_184 : decode cX12_init 184 = .ok (.putfield 81, 3) := by decide +kernel
theorem dX12_init_187 : decode cX12_init 187 = .ok (.aload_n 0, 1) := by decide +kernel
theorem dX12_init_188 : decode cX12_init 188 = .ok (.iconst 2, 1) := by decide +kernel
theorem dX12_init_189 : decode cX12_init 189 = .ok (.iconst 3, 1) := by decide +kernel
theorem dX12_init_190 : decode cX12_init 190 = .ok (.invokevirtual 85, 3) := by decide +kernel
theorem dX12_init_193 : decode cX12_init 193 = .ok (.return_, 1) := by decide +kernel
theorem dX12_isIn_0 : decode cX12_isIn 0 = .ok (.lload_n 0, 1) := by decide +kernel
theorem dX12_isIn_1 : decode cX12_isIn 1 = .ok (.lload_n 2, 1) := by decide +kernel
theorem dX12_isIn_2 : decode cX12_isIn 2 = .ok (.lcmp, 1) := by decide +kernel
theorem dX12_isIn_3 : decode cX12_isIn 3 = .ok (.ifCond .lt 14, 3) := by decide +kernel
theorem dX12_isIn_6 : decode cX12_isIn 6 = .ok (.lload_n 0, 1) := by decide +kernel
theorem dX12_isIn_7 : decode cX12_isIn 7 = .ok (.lload 4, 2) := by decide +kernel
theorem dX12_isIn_9 : decode cX12_isIn 9 = .ok (.lcmp, 1) := by decide +kernel
theorem dX12_isIn_10 : decode cX12_isIn 10 = .ok (.ifCond .gt 7, 3) := by decide +kernel
theorem dX12_isIn_13 : decode cX12_isIn 13 = .ok (.iconst 1, 1) := by decide +kernel
theorem dX12_isIn_14 : decode cX12_isIn 14 = .ok (.goto 4, 3) := by decide +kernel
theorem dX12_isIn_17 : decode cX12_isIn 17 = .ok (.iconst 0, 1) := by decide +kernel
theorem dX12_isIn_18 : decode cX12_isIn 18 = .ok (.ireturn, 1) := by decide +kernel
theorem dX12_all_0 : decode cX12_all 0 = .ok (.aload_n 0, 1) := by decide +kernel
theorem dX12_all_1 : decode cX12_all 1 = .ok (.getfield 89, 3) := by decide +kernel
theorem dX12_all_4 : decode cX12_all 4 = .ok (.aload_n 0, 1) := by decide +kernel
theorem dX12_all_5 : decode cX12_all 5 = .ok (.getfield 93, 3) := by decide +kernel
theorem dX12_all_8 : decode cX12_all 8 = .ok (.imul, 1) := by decide +kernel
theorem dX12_all_9 : decode cX12_all 9 = .ok (.ireturn, 1) := by decide +kernel
theorem dX12_sideOf_0 : decode cX12_sideOf 0 = .ok (.iload_n 1, 1) := by decide +kernel
theorem dX12_sideOf_1 : decode cX12_sideOf 1 = .ok (.aload_n 0, 1) := by decide +kernel
theorem dX12_sideOf_2 : decode cX12_sideOf 2 = .ok (.getfield 93, 3) := by decide +kernel
theorem dX12_sideOf_5 : decode cX12_sideOf 5 = .ok (.idiv, 1) := by decide +kernel
theorem dX12_sideOf_6 : decode cX12_sideOf 6 = .ok (.aload_n 0, 1) := by decide +kernel
theorem dX12_sideOf_7 : decode cX12_sideOf 7 = .ok (.getfield 89, 3) := by decide +kernel
theorem dX12_sideOf_10 : decode cX12_sideOf 10 = .ok (.iconst 2, 1) := by decide +kernel
theorem dX12_sideOf_11 : decode cX12_sideOf 11 = .ok (.idiv, 1) := by decide +kernel
theorem dX12_sideOf_12 : decode cX12_sideOf 12 = .ok (.if_icmp .ge 7, 3) := by decide +kernel
theorem dX12_sideOf_15 : decode cX12_sideOf 15 = .ok (.iconst 0, 1) := by decide +kernel
theorem dX12_sideOf_16 : decode cX12_sideOf 16 = .ok (.goto 4, 3) := by decide +kernel
theorem dX12_sideOf_19 : decode cX12_sideOf 19 = .ok (.iconst 1, 1) := by decide +kernel
theorem dX12_sideOf_20 : decode cX12_sideOf 20 = .ok (.ireturn, 1) := by decide +kernel
theorem dX12_beside_0 : decode cX12_beside 0 = .ok (.aload_n 0, 1) := by decide +kernel
theorem dX12_beside_1 : decode cX12_beside 1 = .ok (.getfield 23, 3) := by decide +kernel
theorem dX12_beside_4 : decode cX12_beside 4 = .ok (.iload_n 1, 1) := by decide +kernel
theorem dX12_beside_5 : decode cX12_beside 5 = .ok (.iaload, 1) := by decide +kernel
theorem dX12_beside_6 : decode cX12_beside 6 = .ok (.istore 4, 2) := by decide +kernel
theorem dX12_beside_8 : decode cX12_beside 8 = .ok (.iload_n 1, 1) := by decide +kernel
theorem dX12_beside_9 : decode cX12_beside 9 = .ok (.istore 5, 2) := by decide +kernel
theorem dX12_beside_11 : decode cX12_beside 11 = .ok (.iload 4, 2) := by decide +kernel
theorem dX12_beside_13 : decode cX12_beside 13 = .ok (.iload_n 2, 1) := by decide +kernel
theorem dX12_beside_14 : decode cX12_beside 14 = .ok (.iadd, 1) := by decide +kernel
theorem dX12_beside_15 : decode cX12_beside 15 = .ok (.aload_n 0, 1) := by decide +kernel
theorem dX12_beside_16 : decode cX12_beside 16 = .ok (.invokevirtual 133, 3) := by decide +kernel
theorem dX12_beside_19 : decode cX12_beside 19 = .ok (.iadd, 1) := by decide +kernel
theorem dX12_beside_20 : decode cX12_beside 20 = .ok (.aload_n 0, 1) := by decide +kernel
theorem dX12_beside_21 : decode cX12_beside 21 = .ok (.invokevirtual 133, 3) := by decide +kernel
theorem dX12_beside_24 : decode cX12_beside 24 = .ok (.irem, 1) := by decide +kernel
theorem dX12_beside_25 : decode cX12_beside 25 = .ok (.istore 4, 2) := by decide +kernel
theorem dX12_beside_27 : decode cX12_beside 27 = .ok (.aload_n 0, 1) := by decide +kernel
theorem dX12_beside_28 : decode cX12_beside 28 = .ok (.getfield 20, 3) := by decide +kernel
theorem dX12_beside_31 : decode cX12_beside 31 = .ok (.iload 4, 2) := by decide +kernel
theorem dX12_beside_33 : decode cX12_beside 33 = .ok (.iaload, 1) := by decide +kernel
theorem dX12_beside_34 : decode cX12_beside 34 = .ok (.istore 5, 2) := by decide +kernel
theorem dX12_beside_36 : decode cX12_beside 36 = .ok (.aload_n 0, 1) := by decide +kernel
theorem dX12_beside_37 : decode cX12_beside 37 = .ok (.getfield 9, 3) := by decide +kernel
theorem dX12_beside_40 : decode cX12_beside 40 = .ok (.iload 5, 2) := by decide +kernel
theorem dX12_beside_42 : decode cX12_beside 42 = .ok (.baload, 1) := by decide +kernel
theorem dX12_beside_43 : decode cX12_beside 43 = .ok (.ifCond .ne (-32), 3) := by decide +kernel
theorem dX12_beside_46 : decode cX12_beside 46 = .ok (.iload_n 3, 1) := by decide +kernel
theorem dX12_beside_47 : decode cX12_beside 47 = .ok (.ifCond .lt 13, 3) := by decide +kernel
theorem dX12_beside_50 : decode cX12_beside 50 = .ok (.aload_n 0, 1) := by decide +kernel
theorem dX12_beside_51 : decode cX12_beside 51 = .ok (.iload 5, 2) := by decide +kernel
theorem dX12_beside_53 : decode cX12_beside 53 = .ok (.invokevirtual 137, 3) := by decide +kernel
theorem dX12_beside_56 : decode cX12_beside 56 = .ok (.iload_n 3, 1) := by decide +kernel
theorem dX12_beside_57 : decode cX12_beside 57 = .ok (.if_icmp .ne (-46), 3) := by decide +kernel
theorem dX12_beside_60 : decode cX12_beside 60 = .ok (.iload 5, 2) := by decide +kernel
theorem dX12_beside_62 : decode cX12_beside 62 = .ok (.ireturn, 1) := by decide +kernel
theorem dX12_sow_0 : decode cX12_sow 0 = .ok (.aload_n 0, 1) := by decide +kernel
theorem dX12_sow_1 : decode cX12_sow 1 = .ok (.getfield 26, 3) := by decide +kernel
theorem dX12_sow_4 : decode cX12_sow 4 = .ok (.iload_n 1, 1) := by decide +kernel
theorem dX12_sow_5 : decode cX12_sow 5 = .ok (.iaload, 1) := by decide +kernel
theorem dX12_sow_6 : decode cX12_sow 6 = .ok (.istore_n 3, 1) := by decide +kernel
theorem dX12_sow_7 : decode cX12_sow 7 = .ok (.aload_n 0, 1) := by decide +kernel
theorem dX12_sow_8 : decode cX12_sow 8 = .ok (.getfield 26, 3) := by decide +kernel
theorem dX12_sow_11 : decode cX12_sow 11 = .ok (.iload_n 1, 1) := by decide +kernel
theorem dX12_sow_12 : decode cX12_sow 12 = .ok (.iconst 0, 1) := by decide +kernel
theorem dX12_sow_13 : decode cX12_sow 13 = .ok (.iastore, 1) := by decide +kernel
theorem dX12_sow_14 : decode cX12_sow 14 = .ok (.iload_n 1, 1) := by decide +kernel
theorem dX12_sow_15 : decode cX12_sow 15 = .ok (.istore 4, 2) := by decide +kernel
theorem dX12_sow_17 : decode cX12_sow 17 = .ok (.iload_n 3, 1) := by decide +kernel
theorem dX12_sow_18 : decode cX12_sow 18 = .ok (.ifCond .le 30, 3) := by decide +kernel
theorem dX12_sow_21 : decode cX12_sow 21 = .ok (.aload_n 0, 1) := by decide +kernel
theorem dX12_sow_22 : decode cX12_sow 22 = .ok (.iload 4, 2) := by decide +kernel
theorem dX12_sow_24 : decode cX12_sow 24 = .ok (.iconst 1, 1) := by decide +kernel
theorem dX12_sow_25 : decode cX12_sow 25 = .ok (.iload_n 2, 1) := by decide +kernel
theorem dX12_sow_26 : decode cX12_sow 26 = .ok (.invokevirtual 141, 3) := by decide +kernel
theorem dX12_sow_29 : decode cX12_sow 29 = .ok (.istore 4, 2) := by decide +kernel
theorem dX12_sow_31 : decode cX12_sow 31 = .ok (.aload_n 0, 1) := by decide +kernel
theorem dX12_sow_32 : decode cX12_sow 32 = .ok (.getfield 26, 3) := by decide +kernel
theorem dX12_sow_35 : decode cX12_sow 35 = .ok (.iload 4, 2) := by decide +kernel
theorem dX12_sow_37 : decode cX12_sow 37 = .ok (.dup2, 1) := by decide +kernel
theorem dX12_sow_38 : decode cX12_sow 38 = .ok (.iaload, 1) := by decide +kernel
theorem dX12_sow_39 : decode cX12_sow 39 = .ok (.iconst 1, 1) := by decide +kernel
theorem dX12_sow_40 : decode cX12_sow 40 = .ok (.iadd, 1) := by decide +kernel
theorem dX12_sow_41 : decode cX12_sow 41 = .ok (.iastore, 1) := by decide +kernel
theorem dX12_sow_42 : decode cX12_sow 42 = .ok (.iinc 3 (-1), 3) := by decide +kernel
theorem dX12_sow_45 : decode cX12_sow 45 = .ok (.goto (-28), 3) := by decide +kernel
theorem dX12_sow_48 : decode cX12_sow 48 = .ok (.aload_n 0, 1) := by decide +kernel
theorem dX12_sow_49 : decode cX12_sow 49 = .ok (.iload 4, 2) := by decide +kernel
theorem dX12_sow_51 : decode cX12_sow 51 = .ok (.putfield 145, 3) := by decide +kernel
theorem dX12_sow_54 : decode cX12_sow 54 = .ok (.return_, 1) := by decide +kernel
theorem dX12_take_0 : decode cX12_take 0 = .ok (.aload_n 0, 1) := by decide +kernel
theorem dX12_take_1 : decode cX12_take 1 = .ok (.dup, 1) := by decide +kernel
theorem dX12_take_2 : decode cX12_take 2 = .ok (.getfield 148, 3) := by decide +kernel
theorem dX12_take_5 : decode cX12_take 5 = .ok (.aload_n 0, 1) := by decide +kernel
theorem dX12_take_6 : decode cX12_take 6 = .ok (.getfield 26, 3) := by decide +kernel
theorem dX12_take_9 : decode cX12_take 9 = .ok (.iload_n 1, 1) := by decide +kernel
theorem dX12_take_10 : decode cX12_take 10 = .ok (.iaload, 1) := by decide +kernel
theorem dX12_take_11 : decode cX12_take 11 = .ok (.iadd, 1) := by decide +kernel
theorem dX12_take_12 : decode cX12_take 12 = .ok (.putfield 148, 3) := by decide +kernel
theorem dX12_take_15 : decode cX12_take 15 = .ok (.aload_n 0, 1) := by decide +kernel
theorem dX12_take_16 : decode cX12_take 16 = .ok (.getfield 26, 3) := by decide +kernel
theorem dX12_take_19 : decode cX12_take 19 = .ok (.iload_n 1, 1) := by decide +kernel
theorem dX12_take_20 : decode cX12_take 20 = .ok (.iconst 0, 1) := by decide +kernel
theorem dX12_take_21 : decode cX12_take 21 = .ok (.iastore, 1) := by decide +kernel
theorem dX12_take_22 : decode cX12_take 22 = .ok (.return_, 1) := by decide +kernel
theorem dX12_takeColumn_0 : decode cX12_takeColumn 0 = .ok (.iload_n 1, 1) := by decide +kernel
theorem dX12_takeColumn_1 : decode cX12_takeColumn 1 = .ok (.aload_n 0, 1) := by decide +kernel
theorem dX12_takeColumn_2 : decode cX12_takeColumn 2 = .ok (.getfield 93, 3) := by decide +kernel
theorem dX12_takeColumn_5 : decode cX12_takeColumn 5 = .ok (.irem, 1) := by decide +kernel
theorem dX12_takeColumn_6 : decode cX12_takeColumn 6 = .ok (.istore_n 3, 1) := by decide +kernel
theorem dX12_takeColumn_7 : decode cX12_takeColumn 7 = .ok (.iload_n 3, 1) := by decide +kernel
theorem dX12_takeColumn_8 : decode cX12_takeColumn 8 = .ok (.aload_n 0, 1) := by decide +kernel
theorem dX12_takeColumn_9 : decode cX12_takeColumn 9 = .ok (.invokevirtual 133, 3) := by decide +kernel
theorem dX12_takeColumn_12 : decode cX12_takeColumn 12 = .ok (.if_icmp .ge 36, 3) := by decide +kernel
theorem dX12_takeColumn_15 : decode cX12_takeColumn 15 = .ok (.aload_n 0, 1) := by decide +kernel
theorem dX12_takeColumn_16 : decode cX12_takeColumn 16 = .ok (.iload_n 3, 1) := by decide +kernel
theorem dX12_takeColumn_17 : decode cX12_takeColumn 17 = .ok (.invokevirtual 137, 3) := by decide +kernel
theorem dX12_takeColumn_20 : decode cX12_takeColumn 20 = .ok (.iload_n 2, 1) := by decide +kernel
theorem dX12_takeColumn_21 : decode cX12_takeColumn 21 = .ok (.if_icmp .eq 17, 3) := by decide +kernel
theorem dX12_takeColumn_24 : decode cX12_takeColumn 24 = .ok (.aload_n 0, 1) := by decide +kernel
theorem dX12_takeColumn_25 : decode cX12_takeColumn 25 = .ok (.getfield 9, 3) := by decide +kernel
theorem dX12_takeColumn_28 : decode cX12_takeColumn 28 = .ok (.iload_n 3, 1) := by decide +kernel
theorem dX12_takeColumn_29 : decode cX12_takeColumn 29 = .ok (.baload, 1) := by decide +kernel
theorem dX12_takeColumn_30 : decode cX12_takeColumn 30 = .ok (.ifCond .ne 8, 3) := by decide +kernel
theorem dX12_takeColumn_33 : decode cX12_takeColumn 33 = .ok (.aload_n 0, 1) := by decide +kernel
theorem dX12_takeColumn_34 : decode cX12_takeColumn 34 = .ok (.iload_n 3, 1) := by decide +kernel
theorem dX12_takeColumn_35 : decode cX12_takeColumn 35 = .ok (.invokevirtual 151, 3) := by decide +kernel
theorem dX12_takeColumn_38 : decode cX12_takeColumn 38 = .ok (.iload_n 3, 1) := by decide +kernel
theorem dX12_takeColumn_39 : decode cX12_takeColumn 39 = .ok (.aload_n 0, 1) := by decide +kernel
theorem dX12_takeColumn_40 : decode cX12_takeColumn 40 = .ok (.getfield 93, 3) := by decide +kernel
theorem dX12_takeColumn_43 : decode cX12_takeColumn 43 = .ok (.iadd, 1) := by decide +kernel
theorem dX12_takeColumn_44 : decode cX12_takeColumn 44 = .ok (.istore_n 3, 1) := by decide +kernel
theorem dX12_takeColumn_45 : decode cX12_takeColumn 45 = .ok (.goto (-38), 3) := by decide +kernel
theorem dX12_takeColumn_48 : decode cX12_takeColumn 48 = .ok (.return_, 1) := by decide +kernel
theorem dX12_make_0 : decode cX12_make 0 = .ok (.iconst 0, 1) := by decide +kernel
theorem dX12_make_1 : decode cX12_make 1 = .ok (.istore 4, 2) := by decide +kernel
theorem dX12_make_3 : decode cX12_make 3 = .ok (.iload 4, 2) := by decide +kernel
theorem dX12_make_5 : decode cX12_make 5 = .ok (.aload_n 0, 1) := by decide +kernel
theorem dX12_make_6 : decode cX12_make 6 = .ok (.invokevirtual 133, 3) := by decide +kernel
theorem dX12_make_9 : decode cX12_make 9 = .ok (.if_icmp .ge 20, 3) := by decide +kernel
theorem dX12_make_12 : decode cX12_make 12 = .ok (.aload_n 0, 1) := by decide +kernel
theorem dX12_make_13 : decode cX12_make 13 = .ok (.getfield 26, 3) := by decide +kernel
theorem dX12_make_16 : decode cX12_make 16 = .ok (.iload 4, 2) := by decide +kernel
theorem dX12_make_18 : decode cX12_make 18 = .ok (.aload_n 1, 1) := by decide +kernel
theorem dX12_make_19 : decode cX12_make 19 = .ok (.iload 4, 2) := by decide +kernel
theorem dX12_make_21 : decode cX12_make 21 = .ok (.iaload, 1) := by decide +kernel
theorem dX12_make_22 : decode cX12_make 22 = .ok (.iastore, 1) := by decide +kernel
theorem dX12_make_23 : decode cX12_make 23 = .ok (.iinc 4 1, 3) := by decide +kernel
theorem dX12_make_26 : decode cX12_make 26 = .ok (.goto (-23), 3) := by decide +kernel
theorem dX12_make_29 : decode cX12_make 29 = .ok (.aload_n 0, 1) := by decide +kernel
theorem dX12_make_30 : decode cX12_make 30 = .ok (.iconst 0, 1) := by decide +kernel
theorem dX12_make_31 : decode cX12_make 31 = .ok (.putfield 148, 3) := by decide +kernel
theorem dX12_make_34 : decode cX12_make 34 = .ok (.aload_n 0, 1) := by decide +kernel
theorem dX12_make_35 : decode cX12_make 35 = .ok (.iconst 0, 1) := by decide +kernel
theorem dX12_make_36 : decode cX12_make 36 = .ok (.putfield 155, 3) := by decide +kernel
theorem dX12_make_39 : decode cX12_make 39 = .ok (.aload_n 0, 1) := by decide +kernel
theorem dX12_make_40 : decode cX12_make 40 = .ok (.iload_n 3, 1) := by decide +kernel
theorem dX12_make_41 : decode cX12_make 41 = .ok (.aload_n 0, 1) := by decide +kernel
theorem dX12_make_42 : decode cX12_make 42 = .ok (.getfield 99, 3) := by decide +kernel
theorem dX12_make_45 : decode cX12_make 45 = .ok (.iconst 3, 1) := by decide +kernel
theorem dX12_make_46 : decode cX12_make 46 = .ok (.if_icmp .ne 7, 3) := by decide +kernel
theorem dX12_make_49 : decode cX12_make 49 = .ok (.iload_n 2, 1) := by decide +kernel
theorem dX12_make_50 : decode cX12_make 50 = .ok (.goto 4, 3) := by decide +kernel
theorem dX12_make_53 : decode cX12_make 53 = .ok (.iconst (-1), 1) := by decide +kernel
theorem dX12_make_54 : decode cX12_make 54 = .ok (.invokevirtual 158, 3) := by decide +kernel
theorem dX12_make_57 : decode cX12_make 57 = .ok (.aload_n 0, 1) := by decide +kernel
theorem dX12_make_58 : decode cX12_make 58 = .ok (.getfield 99, 3) := by decide +kernel
theorem dX12_make_61 : decode cX12_make 61 = .ok (.iconst 1, 1) := by decide +kernel
theorem dX12_make_62 : decode cX12_make 62 = .ok (.if_icmp .ne 92, 3) := by decide +kernel
theorem dX12_make_65 : decode cX12_make 65 = .ok (.iconst 1, 1) := by decide +kernel
theorem dX12_make_66 : decode cX12_make 66 = .ok (.istore 4, 2) := by decide +kernel
theorem dX12_make_68 : decode cX12_make 68 = .ok (.aload_n 0, 1) := by decide +kernel
theorem dX12_make_69 : decode cX12_make 69 = .ok (.getfield 26, 3) := by decide +kernel
theorem dX12_make_72 : decode cX12_make 72 = .ok (.aload_n 0, 1) := by decide +kernel
theorem dX12_make_73 : decode cX12_make 73 = .ok (.getfield 145, 3) := by decide +kernel
theorem dX12_make_76 : decode cX12_make 76 = .ok (.iaload, 1) := by decide +kernel
theorem dX12_make_77 : decode cX12_make 77 = .ok (.iconst 1, 1) := by decide +kernel
theorem dX12_make_78 : decode cX12_make 78 = .ok (.if_icmp .le 27, 3) := by decide +kernel
theorem dX12_make_81 : decode cX12_make 81 = .ok (.iload 4, 2) := by decide +kernel
theorem dX12_make_83 : decode cX12_make 83 = .ok (.aload_n 0, 1) := by decide +kernel
theorem dX12_make_84 : decode cX12_make 84 = .ok (.getfield 102, 3) := by decide +kernel
theorem dX12_make_87 : decode cX12_make 87 = .ok (.if_icmp .gt 18, 3) := by decide +kernel
theorem dX12_make_90 : decode cX12_make 90 = .ok (.aload_n 0, 1) := by decide +kernel
theorem dX12_make_91 : decode cX12_make 91 = .ok (.aload_n 0, 1) := by decide +kernel
theorem dX12_make_92 : decode cX12_make 92 = .ok (.getfield 145, 3) := by decide +kernel
theorem dX12_make_95 : decode cX12_make 95 = .ok (.iconst (-1), 1) := by decide +kernel
theorem dX12_make_96 : decode cX12_make 96 = .ok (.invokevirtual 158, 3) := by decide +kernel
theorem dX12_make_99 : decode cX12_make 99 = .ok (.iinc 4 1, 3) := by decide +kernel
theorem dX12_make_102 : decode cX12_make 102 = .ok (.goto (-34), 3) := by decide +kernel
theorem dX12_make_105 : decode cX12_make 105 = .ok (.aload_n 0, 1) := by decide +kernel
theorem dX12_make_106 : decode cX12_make 106 = .ok (.iload 4, 2) := by decide +kernel
theorem dX12_make_108 : decode cX12_make 108 = .ok (.aload_n 0, 1) := by decide +kernel
theorem dX12_make_109 : decode cX12_make 109 = .ok (.getfield 102, 3) := by decide +kernel
theorem dX12_make_112 : decode cX12_make 112 = .ok (.if_icmp .le 7, 3) := by decide +kernel
theorem dX12_make_115 : decode cX12_make 115 = .ok (.iconst 1, 1) := by decide +kernel
theorem dX12_make_116 : decode cX12_make 116 = .ok (.goto 4, 3) := by decide +kernel
theorem dX12_make_119 : decode cX12_make 119 = .ok (.iconst 0, 1) := by decide +kernel
theorem dX12_make_120 : decode cX12_make 120 = .ok (.putfield 155, 3) := by decide +kernel
theorem dX12_make_123 : decode cX12_make 123 = .ok (.aload_n 0, 1) := by decide +kernel
theorem dX12_make_124 : decode cX12_make 124 = .ok (.getfield 155, 3) := by decide +kernel
theorem dX12_make_127 : decode cX12_make 127 = .ok (.ifCond .ne 24, 3) := by decide +kernel
theorem dX12_make_130 : decode cX12_make 130 = .ok (.aload_n 0, 1) := by decide +kernel
theorem dX12_make_131 : decode cX12_make 131 = .ok (.aload_n 0, 1) := by decide +kernel
theorem dX12_make_132 : decode cX12_make 132 = .ok (.getfield 145, 3) := by decide +kernel
theorem dX12_make_135 : decode cX12_make 135 = .ok (.invokevirtual 137, 3) := by decide +kernel
theorem dX12_make_138 : decode cX12_make 138 = .ok (.iload_n 2, 1) := by decide +kernel
theorem dX12_make_139 : decode cX12_make 139 = .ok (.if_icmp .ne 12, 3) := by decide +kernel
theorem dX12_make_142 : decode cX12_make 142 = .ok (.aload_n 0, 1) := by decide +kernel
theorem dX12_make_143 : decode cX12_make 143 = .ok (.aload_n 0, 1) := by decide +kernel
theorem dX12_make_144 : decode cX12_make 144 = .ok (.getfield 145, 3) := by decide +kernel
theorem dX12_make_147 : decode cX12_make 147 = .ok (.iload_n 2, 1) := by decide +kernel
theorem dX12_make_148 : decode cX12_make 148 = .ok (.invokevirtual 161, 3) := by decide +kernel
theorem dX12_make_151 : decode cX12_make 151 = .ok (.goto 103, 3) := by decide +kernel
theorem dX12_make_154 : decode cX12_make 154 = .ok (.aload_n 0, 1) := by decide +kernel
theorem dX12_make_155 : decode cX12_make 155 = .ok (.getfield 99, 3) := by decide +kernel
theorem dX12_make_158 : decode cX12_make 158 = .ok (.iconst 3, 1) := by decide +kernel
theorem dX12_make_159 : decode cX12_make 159 = .ok (.if_icmp .ne 28, 3) := by decide +kernel
theorem dX12_make_162 : decode cX12_make 162 = .ok (.aload_n 0, 1) := by decide +kernel
theorem dX12_make_163 : decode cX12_make 163 = .ok (.getfield 26, 3) := by decide +kernel
theorem dX12_make_166 : decode cX12_make 166 = .ok (.aload_n 0, 1) := by decide +kernel
theorem dX12_make_167 : decode cX12_make 167 = .ok (.getfield 145, 3) := by decide +kernel
theorem dX12_make_170 : decode cX12_make 170 = .ok (.iaload, 1) := by decide +kernel
theorem dX12_make_171 : decode cX12_make 171 = .ok (.iconst 1, 1) := by decide +kernel
theorem dX12_make_172 : decode cX12_make 172 = .ok (.if_icmp .ne 82, 3) := by decide +kernel
theorem dX12_make_175 : decode cX12_make 175 = .ok (.aload_n 0, 1) := by decide +kernel
theorem dX12_make_176 : decode cX12_make 176 = .ok (.aload_n 0, 1) := by decide +kernel
theorem dX12_make_177 : decode cX12_make 177 = .ok (.getfield 145, 3) := by decide +kernel
theorem dX12_make_180 : decode cX12_make 180 = .ok (.iload_n 2, 1) := by decide +kernel
theorem dX12_make_181 : decode cX12_make 181 = .ok (.invokevirtual 161, 3) := by decide +kernel
theorem dX12_make_184 : decode cX12_make 184 = .ok (.goto 70, 3) := by decide +kernel
theorem dX12_make_187 : decode cX12_make 187 = .ok (.aload_n 0, 1) := by decide +kernel
theorem dX12_make_188 : decode cX12_make 188 = .ok (.getfield 99, 3) := by decide +kernel
theorem dX12_make_191 : decode cX12_make 191 = .ok (.iconst 2, 1) := by decide +kernel
theorem dX12_make_192 : decode cX12_make 192 = .ok (.if_icmp .ne 62, 3) := by decide +kernel
theorem dX12_make_195 : decode cX12_make 195 = .ok (.aload_n 0, 1) := by decide +kernel
theorem dX12_make_196 : decode cX12_make 196 = .ok (.getfield 145, 3) := by decide +kernel
theorem dX12_make_199 : decode cX12_make 199 = .ok (.istore 4, 2) := by decide +kernel
theorem dX12_make_201 : decode cX12_make 201 = .ok (.aload_n 0, 1) := by decide +kernel
theorem dX12_make_202 : decode cX12_make 202 = .ok (.iload 4, 2) := by decide +kernel
theorem dX12_make_204 : decode cX12_make 204 = .ok (.invokevirtual 137, 3) := by decide +kernel
theorem dX12_make_207 : decode cX12_make 207 = .ok (.iload_n 2, 1) := by decide +kernel
theorem dX12_make_208 : decode cX12_make 208 = .ok (.if_icmp .eq 46, 3) := by decide +kernel
theorem dX12_make_211 : decode cX12_make 211 = .ok (.aload_n 0, 1) := by decide +kernel
theorem dX12_make_212 : decode cX12_make 212 = .ok (.getfield 26, 3) := by decide +kernel
theorem dX12_make_215 : decode cX12_make 215 = .ok (.iload 4, 2) := by decide +kernel
theorem dX12_make_217 : decode cX12_make 217 = .ok (.iaload, 1) := by decide +kernel
theorem dX12_make_218 : decode cX12_make 218 = .ok (.i2l, 1) := by decide +kernel
theorem dX12_make_219 : decode cX12_make 219 = .ok (.aload_n 0, 1) := by decide +kernel
theorem dX12_make_220 : decode cX12_make 220 = .ok (.getfield 105, 3) := by decide +kernel
theorem dX12_make_223 : decode cX12_make 223 = .ok (.i2l, 1) := by decide +kernel
theorem dX12_make_224 : decode cX12_make 224 = .ok (.aload_n 0, 1) := by decide +kernel
theorem dX12_make_225 : decode cX12_make 225 = .ok (.getfield 108, 3) := by decide +kernel
theorem dX12_make_228 : decode cX12_make 228 = .ok (.i2l, 1) := by decide +kernel
theorem dX12_make_229 : decode cX12_make 229 = .ok (.invokestatic 164, 3) := by decide +kernel
theorem dX12_make_232 : decode cX12_make 232 = .ok (.ifCond .eq 22, 3) := by decide +kernel
theorem dX12_make_235 : decode cX12_make 235 = .ok (.aload_n 0, 1) := by decide +kernel
theorem dX12_make_236 : decode cX12_make 236 = .ok (.iload 4, 2) := by decide +kernel
theorem dX12_make_238 : decode cX12_make 238 = .ok (.invokevirtual 151, 3) := by decide +kernel
theorem dX12_make_241 : decode cX12_make 241 = .ok (.aload_n 0, 1) := by decide +kernel
theorem dX12_make_242 : decode cX12_make 242 = .ok (.iload 4, 2) := by decide +kernel
theorem dX12_make_244 : decode cX12_make 244 = .ok (.iconst (-1), 1) := by decide +kernel
theorem dX12_make_245 : decode cX12_make 245 = .ok (.iconst (-1), 1) := by decide +kernel
theorem dX12_make_246 : decode cX12_make 246 = .ok (.invokevirtual 141, 3) := by decide +kernel
theorem dX12_make_249 : decode cX12_make 249 = .ok (.istore 4, 2) := by decide +kernel
theorem dX12_make_251 : decode cX12_make 251 = .ok (.goto (-50), 3) := by decide +kernel
theorem dX12_make_254 : decode cX12_make 254 = .ok (.return_, 1) := by decide +kernel
